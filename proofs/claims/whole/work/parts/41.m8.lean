def filI (f : Nat → Int32) (p i : Nat) (v : Int32) : Nat → Int32 := fun j => if p ≤ j ∧ j < p + i then v else f j
theorem filI_0 (f : Nat → Int32) (p : Nat) (v : Int32) : filI f p 0 v = f := by
  funext j
  unfold filI
  rw [if_neg (by omega)]
theorem filI_s (f : Nat → Int32) (p i : Nat) (v : Int32) : upd (filI f p i v) (p + i) v = filI f p (i + 1) v := by
  funext j
  unfold upd filI
  by_cases h : j = p + i
  · subst h
    rw [if_pos rfl, if_pos (by omega)]
  · rw [if_neg h]
    by_cases h2 : p ≤ j ∧ j < p + i
    · rw [if_pos h2, if_pos (by omega)]
    · rw [if_neg h2, if_neg (by omega)]
/-- a label chosen -/
def chG (fz fd : Nat → Nat) (j k x : Nat) : Nat → Nat := fun b => fz (16 * (56 * j + k) + b) ^^^ (if x = 1 then fd (16 * j + b) else 0)
def bq (x : Int32) (k : Nat) : Nat := (x.toBitVec.getLsbD k).toNat
theorem bq_le (x : Int32) (k : Nat) : bq x k ≤ 1 := Bool.toNat_le _
def enN (fn fz fd : Nat → Nat) (j : Nat) (x : Int32) : Nat → Nat → Nat
  | 0 => fn
  | i + 1 => filN (enN fn fz fd j x i) (16 * (56 * j + i)) 16 (chG fz fd j i (bq x i))
def lwM (fh : Nat → Int32) (j : Nat) : Nat → Nat
  | 0 => 0
  | i + 1 => lwM fh j i + (if fh (56 * j + i) = 0 then 0 else 1)
theorem not_nI_lt {v : Nat} (h : v < 2 ^ 31) : ¬ nI v < -1 := by
  rw [Int32.lt_iff_toInt_lt, nI_toInt h, show (-1 : Int32).toInt = -1 by decide]
  omega
theorem not_lt_nI {v m : Nat} (h : m < 2 ^ 31) (hv : v ≤ m) : ¬ nI m < nI v := by
  rw [Int32.lt_iff_toInt_lt, nI_toInt h, nI_toInt (by omega)]
  omega
theorem not_lt_m1 {m : Nat} (h : m < 2 ^ 31) : ¬ nI m < -1 := not_nI_lt h
theorem lbl_W {v : Int32} {m : Nat} (h : m < 2 ^ 31) (hm : 1 ≤ m) (h1 : ¬ v = -1) (hv : v < 0 ∨ nI m ≤ v) : v < -1 ∨ nI (m - 1) < v := by
  rw [Int32.lt_iff_toInt_lt, Int32.le_iff_toInt_le, nI_toInt h, show (0 : Int32).toInt = 0 by decide] at hv
  rw [Int32.lt_iff_toInt_lt, Int32.lt_iff_toInt_lt, nI_toInt (by omega), show (-1 : Int32).toInt = -1 by decide]
  have : ¬ v.toInt = -1 := fun z => h1 (Int32.toInt_inj.mp (z.trans (by decide)))
  omega
set_option maxHeartbeats 4000000 in
set_option maxRecDepth 100000 in
theorem c_X8_isStored (Y : xD) (w : va_W) (o0 : Nat) (A : Nat → Nat) (th : Int32) (su : Int32) (sz : Nat) (bl : Int32) (ci : Nat) (ma : Nat) (pa : Int32) (en : Int32) (wr : Int32) (wy : Nat → Int32) (j : Nat) (r : Nat) (y : Nat) (qm q_way : Nat) (e0 : w[qm]? = some (o0, cO 8 (mo A th su (nI sz) bl (nI ci) (nI ma) pa en wr))) (e1 : w[q_way]? = some (A 16, cI Y 6 wy)) (N : xN w.length [qm, q_way]) (hj6 : j < 6) (hwy : wy j = nI y) (hy3 : y < 3) (hr4 : r < 4) (hst : sto y r) : Cf Y mX8_isStored 0 [.ref o0, .int (nI j), .int (nI r)] w (some (.int 1)) [(qm, (o0, cO 8 (mo A th su (nI sz) bl (nI ci) (nI ma) pa en wr))), (q_way, (A 16, cI Y 6 wy))] := by
  refine Ct.intro (T := tX8_isStored) (by decide) oX8_isStored (Nat.le_of_ble_eq_true rfl) (fun G C B => ?_)
  refine x_lay [(qm, (o0, cO 8 (mo A th su (nI sz) bl (nI ci) (nI ma) pa en wr))), (q_way, (A 16, cI Y 6 wy))] (lay_cons e0 (lay_cons e1 lay_nil)) ?_
  refine x_run C 0 1 (pc' := 1) (lv' := [(0, .ref o0), (1, .int (nI j)), (2, .int (nI r))]) (st' := [.ref o0]) rfl ?_
  refine x_get C 1 rfl fX8_58 N 0 rfl (v := .ref (A 16)) rfl ?_
  refine x_run C 2 1 (pc' := 5) (lv' := [(0, .ref o0), (1, .int (nI j)), (2, .int (nI r))]) (st' := [.int (nI j), .ref (A 16)]) rfl ?_
  refine x_ialdN C 3 rfl N 1 rfl (by omega) (by omega) ?_
  refine x_st (st' := [.int (nI y)]) (by rw [hwy]) ?_
  refine x_ifN_eq C 4 (by omega) rfl (tgt := 38) rfl (fun hc1 => ?_) (fun hc1 => ?_)
  · refine x_run C 22 2 (pc' := 43) (lv' := [(0, .ref o0), (1, .int (nI j)), (2, .int (nI r))]) (st' := [.int 1]) rfl ?_
    exact x_zret C B rfl 25 rfl (by first | exact Or.inl rfl | exact Or.inr rfl | decide) (Nat.zero_le _) (Nat.zero_le _) ⟨by first | rfl | (exfalso; simp only [sto] at hst; omega), rfl⟩
  · refine x_run C 5 1 (pc' := 10) (lv' := [(0, .ref o0), (1, .int (nI j)), (2, .int (nI r))]) (st' := [.ref o0]) rfl ?_
    refine x_get C 6 rfl fX8_58 N 0 rfl (v := .ref (A 16)) rfl ?_
    refine x_run C 7 1 (pc' := 14) (lv' := [(0, .ref o0), (1, .int (nI j)), (2, .int (nI r))]) (st' := [.int (nI j), .ref (A 16)]) rfl ?_
    refine x_ialdN C 8 rfl N 1 rfl (by omega) (by omega) ?_
    refine x_st (st' := [.int (nI y)]) (by rw [hwy]) ?_
    refine x_run C 9 1 (pc' := 16) (lv' := [(0, .ref o0), (1, .int (nI j)), (2, .int (nI r))]) (st' := [.int 1, .int (nI y)]) rfl ?_
    refine x_st (st' := [.int (nI 1), .int (nI y)]) (by simp only [nlit, nI_add, pk_mul]) ?_
    refine x_icmpN_ne C 10 (by omega) (by omega) rfl (tgt := 23) rfl (fun hc2 => ?_) (fun hc2 => ?_)
    · refine x_run C 13 1 (pc' := 24) (lv' := [(0, .ref o0), (1, .int (nI j)), (2, .int (nI r))]) (st' := [.ref o0]) rfl ?_
      refine x_get C 14 rfl fX8_58 N 0 rfl (v := .ref (A 16)) rfl ?_
      refine x_run C 15 1 (pc' := 28) (lv' := [(0, .ref o0), (1, .int (nI j)), (2, .int (nI r))]) (st' := [.int (nI j), .ref (A 16)]) rfl ?_
      refine x_ialdN C 16 rfl N 1 rfl (by omega) (by omega) ?_
      refine x_st (st' := [.int (nI y)]) (by rw [hwy]) ?_
      refine x_run C 17 1 (pc' := 30) (lv' := [(0, .ref o0), (1, .int (nI j)), (2, .int (nI r))]) (st' := [.int 2, .int (nI y)]) rfl ?_
      refine x_st (st' := [.int (nI 2), .int (nI y)]) (by simp only [nlit, nI_add, pk_mul]) ?_
      refine x_icmpN_ne C 18 (by omega) (by omega) rfl (tgt := 42) rfl (fun hc3 => ?_) (fun hc3 => ?_)
      · refine x_run C 24 1 (pc' := 43) (lv' := [(0, .ref o0), (1, .int (nI j)), (2, .int (nI r))]) (st' := [.int 0]) rfl ?_
        exact x_zret C B rfl 25 rfl (by first | exact Or.inl rfl | exact Or.inr rfl | decide) (Nat.zero_le _) (Nat.zero_le _) ⟨by first | rfl | (exfalso; simp only [sto] at hst; omega), rfl⟩
      · refine x_run C 19 2 (pc' := 35) (lv' := [(0, .ref o0), (1, .int (nI j)), (2, .int (nI r))]) (st' := [.int 2, .int (nI r)]) rfl ?_
        refine x_st (st' := [.int (nI 2), .int (nI r)]) (by simp only [nlit, nI_add, pk_mul]) ?_
        refine x_icmpN_ge C 21 (by omega) (by omega) rfl (tgt := 42) rfl (fun hc4 => ?_) (fun hc4 => ?_)
        · refine x_run C 24 1 (pc' := 43) (lv' := [(0, .ref o0), (1, .int (nI j)), (2, .int (nI r))]) (st' := [.int 0]) rfl ?_
          exact x_zret C B rfl 25 rfl (by first | exact Or.inl rfl | exact Or.inr rfl | decide) (Nat.zero_le _) (Nat.zero_le _) ⟨by first | rfl | (exfalso; simp only [sto] at hst; omega), rfl⟩
        · refine x_run C 22 2 (pc' := 43) (lv' := [(0, .ref o0), (1, .int (nI j)), (2, .int (nI r))]) (st' := [.int 1]) rfl ?_
          exact x_zret C B rfl 25 rfl (by first | exact Or.inl rfl | exact Or.inr rfl | decide) (Nat.zero_le _) (Nat.zero_le _) ⟨by first | rfl | (exfalso; simp only [sto] at hst; omega), rfl⟩
    · refine x_run C 11 1 (pc' := 20) (lv' := [(0, .ref o0), (1, .int (nI j)), (2, .int (nI r))]) (st' := [.int (nI r)]) rfl ?_
      refine x_ifN_gt C 12 (by omega) rfl (tgt := 38) rfl (fun hc5 => ?_) (fun hc5 => ?_)
      · refine x_run C 22 2 (pc' := 43) (lv' := [(0, .ref o0), (1, .int (nI j)), (2, .int (nI r))]) (st' := [.int 1]) rfl ?_
        exact x_zret C B rfl 25 rfl (by first | exact Or.inl rfl | exact Or.inr rfl | decide) (Nat.zero_le _) (Nat.zero_le _) ⟨by first | rfl | (exfalso; simp only [sto] at hst; omega), rfl⟩
      · refine x_run C 13 1 (pc' := 24) (lv' := [(0, .ref o0), (1, .int (nI j)), (2, .int (nI r))]) (st' := [.ref o0]) rfl ?_
        refine x_get C 14 rfl fX8_58 N 0 rfl (v := .ref (A 16)) rfl ?_
        refine x_run C 15 1 (pc' := 28) (lv' := [(0, .ref o0), (1, .int (nI j)), (2, .int (nI r))]) (st' := [.int (nI j), .ref (A 16)]) rfl ?_
        refine x_ialdN C 16 rfl N 1 rfl (by omega) (by omega) ?_
        refine x_st (st' := [.int (nI y)]) (by rw [hwy]) ?_
        refine x_run C 17 1 (pc' := 30) (lv' := [(0, .ref o0), (1, .int (nI j)), (2, .int (nI r))]) (st' := [.int 2, .int (nI y)]) rfl ?_
        refine x_st (st' := [.int (nI 2), .int (nI y)]) (by simp only [nlit, nI_add, pk_mul]) ?_
        refine x_icmpN_ne C 18 (by omega) (by omega) rfl (tgt := 42) rfl (fun hc6 => ?_) (fun hc6 => ?_)
        · refine x_run C 24 1 (pc' := 43) (lv' := [(0, .ref o0), (1, .int (nI j)), (2, .int (nI r))]) (st' := [.int 0]) rfl ?_
          exact x_zret C B rfl 25 rfl (by first | exact Or.inl rfl | exact Or.inr rfl | decide) (Nat.zero_le _) (Nat.zero_le _) ⟨by first | rfl | (exfalso; simp only [sto] at hst; omega), rfl⟩
        · refine x_run C 19 2 (pc' := 35) (lv' := [(0, .ref o0), (1, .int (nI j)), (2, .int (nI r))]) (st' := [.int 2, .int (nI r)]) rfl ?_
          refine x_st (st' := [.int (nI 2), .int (nI r)]) (by simp only [nlit, nI_add, pk_mul]) ?_
          refine x_icmpN_ge C 21 (by omega) (by omega) rfl (tgt := 42) rfl (fun hc7 => ?_) (fun hc7 => ?_)
          · refine x_run C 24 1 (pc' := 43) (lv' := [(0, .ref o0), (1, .int (nI j)), (2, .int (nI r))]) (st' := [.int 0]) rfl ?_
            exact x_zret C B rfl 25 rfl (by first | exact Or.inl rfl | exact Or.inr rfl | decide) (Nat.zero_le _) (Nat.zero_le _) ⟨by first | rfl | (exfalso; simp only [sto] at hst; omega), rfl⟩
          · refine x_run C 22 2 (pc' := 43) (lv' := [(0, .ref o0), (1, .int (nI j)), (2, .int (nI r))]) (st' := [.int 1]) rfl ?_
            exact x_zret C B rfl 25 rfl (by first | exact Or.inl rfl | exact Or.inr rfl | decide) (Nat.zero_le _) (Nat.zero_le _) ⟨by first | rfl | (exfalso; simp only [sto] at hst; omega), rfl⟩
set_option maxHeartbeats 4000000 in
set_option maxRecDepth 100000 in
theorem c_X8_isStoredF (Y : xD) (w : va_W) (o0 : Nat) (A : Nat → Nat) (th : Int32) (su : Int32) (sz : Nat) (bl : Int32) (ci : Nat) (ma : Nat) (pa : Int32) (en : Int32) (wr : Int32) (wy : Nat → Int32) (j : Nat) (r : Nat) (y : Nat) (qm q_way : Nat) (e0 : w[qm]? = some (o0, cO 8 (mo A th su (nI sz) bl (nI ci) (nI ma) pa en wr))) (e1 : w[q_way]? = some (A 16, cI Y 6 wy)) (N : xN w.length [qm, q_way]) (hj6 : j < 6) (hwy : wy j = nI y) (hy3 : y < 3) (hr4 : r < 4) (hst : ¬ sto y r) : Cf Y mX8_isStored 0 [.ref o0, .int (nI j), .int (nI r)] w (some (.int 0)) [(qm, (o0, cO 8 (mo A th su (nI sz) bl (nI ci) (nI ma) pa en wr))), (q_way, (A 16, cI Y 6 wy))] := by
  refine Ct.intro (T := tX8_isStored) (by decide) oX8_isStored (Nat.le_of_ble_eq_true rfl) (fun G C B => ?_)
  refine x_lay [(qm, (o0, cO 8 (mo A th su (nI sz) bl (nI ci) (nI ma) pa en wr))), (q_way, (A 16, cI Y 6 wy))] (lay_cons e0 (lay_cons e1 lay_nil)) ?_
  refine x_run C 0 1 (pc' := 1) (lv' := [(0, .ref o0), (1, .int (nI j)), (2, .int (nI r))]) (st' := [.ref o0]) rfl ?_
  refine x_get C 1 rfl fX8_58 N 0 rfl (v := .ref (A 16)) rfl ?_
  refine x_run C 2 1 (pc' := 5) (lv' := [(0, .ref o0), (1, .int (nI j)), (2, .int (nI r))]) (st' := [.int (nI j), .ref (A 16)]) rfl ?_
  refine x_ialdN C 3 rfl N 1 rfl (by omega) (by omega) ?_
  refine x_st (st' := [.int (nI y)]) (by rw [hwy]) ?_
  refine x_ifN_eq C 4 (by omega) rfl (tgt := 38) rfl (fun hc1 => ?_) (fun hc1 => ?_)
  · refine x_run C 22 2 (pc' := 43) (lv' := [(0, .ref o0), (1, .int (nI j)), (2, .int (nI r))]) (st' := [.int 1]) rfl ?_
    exact x_zret C B rfl 25 rfl (by first | exact Or.inl rfl | exact Or.inr rfl | decide) (Nat.zero_le _) (Nat.zero_le _) ⟨by first | rfl | (exfalso; simp only [sto] at hst; omega), rfl⟩
  · refine x_run C 5 1 (pc' := 10) (lv' := [(0, .ref o0), (1, .int (nI j)), (2, .int (nI r))]) (st' := [.ref o0]) rfl ?_
    refine x_get C 6 rfl fX8_58 N 0 rfl (v := .ref (A 16)) rfl ?_
    refine x_run C 7 1 (pc' := 14) (lv' := [(0, .ref o0), (1, .int (nI j)), (2, .int (nI r))]) (st' := [.int (nI j), .ref (A 16)]) rfl ?_
    refine x_ialdN C 8 rfl N 1 rfl (by omega) (by omega) ?_
    refine x_st (st' := [.int (nI y)]) (by rw [hwy]) ?_
    refine x_run C 9 1 (pc' := 16) (lv' := [(0, .ref o0), (1, .int (nI j)), (2, .int (nI r))]) (st' := [.int 1, .int (nI y)]) rfl ?_
    refine x_st (st' := [.int (nI 1), .int (nI y)]) (by simp only [nlit, nI_add, pk_mul]) ?_
    refine x_icmpN_ne C 10 (by omega) (by omega) rfl (tgt := 23) rfl (fun hc2 => ?_) (fun hc2 => ?_)
    · refine x_run C 13 1 (pc' := 24) (lv' := [(0, .ref o0), (1, .int (nI j)), (2, .int (nI r))]) (st' := [.ref o0]) rfl ?_
      refine x_get C 14 rfl fX8_58 N 0 rfl (v := .ref (A 16)) rfl ?_
      refine x_run C 15 1 (pc' := 28) (lv' := [(0, .ref o0), (1, .int (nI j)), (2, .int (nI r))]) (st' := [.int (nI j), .ref (A 16)]) rfl ?_
      refine x_ialdN C 16 rfl N 1 rfl (by omega) (by omega) ?_
      refine x_st (st' := [.int (nI y)]) (by rw [hwy]) ?_
      refine x_run C 17 1 (pc' := 30) (lv' := [(0, .ref o0), (1, .int (nI j)), (2, .int (nI r))]) (st' := [.int 2, .int (nI y)]) rfl ?_
      refine x_st (st' := [.int (nI 2), .int (nI y)]) (by simp only [nlit, nI_add, pk_mul]) ?_
      refine x_icmpN_ne C 18 (by omega) (by omega) rfl (tgt := 42) rfl (fun hc3 => ?_) (fun hc3 => ?_)
      · refine x_run C 24 1 (pc' := 43) (lv' := [(0, .ref o0), (1, .int (nI j)), (2, .int (nI r))]) (st' := [.int 0]) rfl ?_
        exact x_zret C B rfl 25 rfl (by first | exact Or.inl rfl | exact Or.inr rfl | decide) (Nat.zero_le _) (Nat.zero_le _) ⟨by first | rfl | (exfalso; simp only [sto] at hst; omega), rfl⟩
      · refine x_run C 19 2 (pc' := 35) (lv' := [(0, .ref o0), (1, .int (nI j)), (2, .int (nI r))]) (st' := [.int 2, .int (nI r)]) rfl ?_
        refine x_st (st' := [.int (nI 2), .int (nI r)]) (by simp only [nlit, nI_add, pk_mul]) ?_
        refine x_icmpN_ge C 21 (by omega) (by omega) rfl (tgt := 42) rfl (fun hc4 => ?_) (fun hc4 => ?_)
        · refine x_run C 24 1 (pc' := 43) (lv' := [(0, .ref o0), (1, .int (nI j)), (2, .int (nI r))]) (st' := [.int 0]) rfl ?_
          exact x_zret C B rfl 25 rfl (by first | exact Or.inl rfl | exact Or.inr rfl | decide) (Nat.zero_le _) (Nat.zero_le _) ⟨by first | rfl | (exfalso; simp only [sto] at hst; omega), rfl⟩
        · refine x_run C 22 2 (pc' := 43) (lv' := [(0, .ref o0), (1, .int (nI j)), (2, .int (nI r))]) (st' := [.int 1]) rfl ?_
          exact x_zret C B rfl 25 rfl (by first | exact Or.inl rfl | exact Or.inr rfl | decide) (Nat.zero_le _) (Nat.zero_le _) ⟨by first | rfl | (exfalso; simp only [sto] at hst; omega), rfl⟩
    · refine x_run C 11 1 (pc' := 20) (lv' := [(0, .ref o0), (1, .int (nI j)), (2, .int (nI r))]) (st' := [.int (nI r)]) rfl ?_
      refine x_ifN_gt C 12 (by omega) rfl (tgt := 38) rfl (fun hc5 => ?_) (fun hc5 => ?_)
      · refine x_run C 22 2 (pc' := 43) (lv' := [(0, .ref o0), (1, .int (nI j)), (2, .int (nI r))]) (st' := [.int 1]) rfl ?_
        exact x_zret C B rfl 25 rfl (by first | exact Or.inl rfl | exact Or.inr rfl | decide) (Nat.zero_le _) (Nat.zero_le _) ⟨by first | rfl | (exfalso; simp only [sto] at hst; omega), rfl⟩
      · refine x_run C 13 1 (pc' := 24) (lv' := [(0, .ref o0), (1, .int (nI j)), (2, .int (nI r))]) (st' := [.ref o0]) rfl ?_
        refine x_get C 14 rfl fX8_58 N 0 rfl (v := .ref (A 16)) rfl ?_
        refine x_run C 15 1 (pc' := 28) (lv' := [(0, .ref o0), (1, .int (nI j)), (2, .int (nI r))]) (st' := [.int (nI j), .ref (A 16)]) rfl ?_
        refine x_ialdN C 16 rfl N 1 rfl (by omega) (by omega) ?_
        refine x_st (st' := [.int (nI y)]) (by rw [hwy]) ?_
        refine x_run C 17 1 (pc' := 30) (lv' := [(0, .ref o0), (1, .int (nI j)), (2, .int (nI r))]) (st' := [.int 2, .int (nI y)]) rfl ?_
        refine x_st (st' := [.int (nI 2), .int (nI y)]) (by simp only [nlit, nI_add, pk_mul]) ?_
        refine x_icmpN_ne C 18 (by omega) (by omega) rfl (tgt := 42) rfl (fun hc6 => ?_) (fun hc6 => ?_)
        · refine x_run C 24 1 (pc' := 43) (lv' := [(0, .ref o0), (1, .int (nI j)), (2, .int (nI r))]) (st' := [.int 0]) rfl ?_
          exact x_zret C B rfl 25 rfl (by first | exact Or.inl rfl | exact Or.inr rfl | decide) (Nat.zero_le _) (Nat.zero_le _) ⟨by first | rfl | (exfalso; simp only [sto] at hst; omega), rfl⟩
        · refine x_run C 19 2 (pc' := 35) (lv' := [(0, .ref o0), (1, .int (nI j)), (2, .int (nI r))]) (st' := [.int 2, .int (nI r)]) rfl ?_
          refine x_st (st' := [.int (nI 2), .int (nI r)]) (by simp only [nlit, nI_add, pk_mul]) ?_
          refine x_icmpN_ge C 21 (by omega) (by omega) rfl (tgt := 42) rfl (fun hc7 => ?_) (fun hc7 => ?_)
          · refine x_run C 24 1 (pc' := 43) (lv' := [(0, .ref o0), (1, .int (nI j)), (2, .int (nI r))]) (st' := [.int 0]) rfl ?_
            exact x_zret C B rfl 25 rfl (by first | exact Or.inl rfl | exact Or.inr rfl | decide) (Nat.zero_le _) (Nat.zero_le _) ⟨by first | rfl | (exfalso; simp only [sto] at hst; omega), rfl⟩
          · refine x_run C 22 2 (pc' := 43) (lv' := [(0, .ref o0), (1, .int (nI j)), (2, .int (nI r))]) (st' := [.int 1]) rfl ?_
            exact x_zret C B rfl 25 rfl (by first | exact Or.inl rfl | exact Or.inr rfl | decide) (Nat.zero_le _) (Nat.zero_le _) ⟨by first | rfl | (exfalso; simp only [sto] at hst; omega), rfl⟩
set_option maxHeartbeats 4000000 in
set_option maxRecDepth 100000 in
theorem c_X8_drops (Y : xD) (w : va_W) (o0 : Nat) (A : Nat → Nat) (th : Int32) (su : Int32) (sz : Nat) (bl : Int32) (ci : Nat) (ma : Nat) (pa : Int32) (en : Int32) (wr : Int32) (co : Nat → Int32) (i1 : Nat → Int32) (g1 : Nat → Int32) (fh : Nat → Int32) (j : Nat) (c : Nat) (n : Nat) (g : Nat) (qm q_circuitOf q_inputs q_gates q_has : Nat) (e0 : w[qm]? = some (o0, cO 8 (mo A th su (nI sz) bl (nI ci) (nI ma) pa en wr))) (e1 : w[q_circuitOf]? = some (A 15, cI Y 6 co)) (e2 : w[q_inputs]? = some (A 6, cI Y 6 i1)) (e3 : w[q_gates]? = some (A 7, cI Y 6 g1)) (e4 : w[q_has]? = some (A 24, cZ Y 336 fh)) (N : xN w.length [qm, q_circuitOf, q_inputs, q_gates, q_has]) (hj6 : j < 6) (hc6 : c < 6) (hn16 : n ≤ 16) (hg40 : g ≤ 40) (hco : co j = nI c) (hin : i1 c = nI n) (hga : g1 c = nI g) : Cf Y mX8_drops 1 [.ref o0, .int (nI j)] w none [(qm, (o0, cO 8 (mo A th su (nI sz) bl (nI ci) (nI ma) pa en wr))), (q_circuitOf, (A 15, cI Y 6 co)), (q_inputs, (A 6, cI Y 6 i1)), (q_gates, (A 7, cI Y 6 g1)), (q_has, (A 24, cZ Y 336 (filI fh (56 * j + n) g 0)))] := by
  refine Ct.intro (T := tX8_drops) (by decide) oX8_drops (Nat.le_of_ble_eq_true rfl) (fun G C B => ?_)
  refine x_lay [(qm, (o0, cO 8 (mo A th su (nI sz) bl (nI ci) (nI ma) pa en wr))), (q_circuitOf, (A 15, cI Y 6 co)), (q_inputs, (A 6, cI Y 6 i1)), (q_gates, (A 7, cI Y 6 g1)), (q_has, (A 24, cZ Y 336 fh))] (lay_cons e0 (lay_cons e1 (lay_cons e2 (lay_cons e3 (lay_cons e4 lay_nil))))) ?_
  refine x_run C 0 1 (pc' := 1) (lv' := [(0, .ref o0), (1, .int (nI j))]) (st' := [.ref o0]) rfl ?_
  refine x_get C 1 rfl fX8_55 N 0 rfl (v := .ref (A 15)) rfl ?_
  refine x_run C 2 1 (pc' := 5) (lv' := [(0, .ref o0), (1, .int (nI j))]) (st' := [.int (nI j), .ref (A 15)]) rfl ?_
  refine x_ialdN C 3 rfl N 1 rfl (by omega) (by omega) ?_
  refine x_st (st' := [.int (nI c)]) (by rw [hco]) ?_
  refine x_run C 4 2 (pc' := 8) (lv' := [(2, .int (nI c)), (0, .ref o0), (1, .int (nI j))]) (st' := [.ref o0]) rfl ?_
  refine x_get C 6 rfl fX8_28 N 0 rfl (v := .ref (A 6)) rfl ?_
  refine x_run C 7 1 (pc' := 12) (lv' := [(2, .int (nI c)), (0, .ref o0), (1, .int (nI j))]) (st' := [.int (nI c), .ref (A 6)]) rfl ?_
  refine x_ialdN C 8 rfl N 2 rfl (by omega) (by omega) ?_
  refine x_st (st' := [.int (nI n)]) (by rw [hin]) ?_
  refine x_run C 9 1 (pc' := 14) (lv' := [(3, .int (nI n)), (2, .int (nI c)), (0, .ref o0), (1, .int (nI j))]) (st' := []) rfl ?_
  have L14 : ∀ k : Nat, 0 ≤ k → k ≤ g → X G Y 0 0 14 [(0, .ref o0), (1, .int (nI j)), (2, .int (nI c)), (3, .int (nI (n + k)))] [] (ovl w [(qm, (o0, cO 8 (mo A th su (nI sz) bl (nI ci) (nI ma) pa en wr))), (q_circuitOf, (A 15, cI Y 6 co)), (q_inputs, (A 6, cI Y 6 i1)), (q_gates, (A 7, cI Y 6 g1)), (q_has, (A 24, cZ Y 336 (filI fh (56 * j + n) k 0)))]) := by
    intro k lo14 hi14
    revert lo14
    refine x_up (fun k => 0 ≤ k → X G Y 0 0 14 [(0, .ref o0), (1, .int (nI j)), (2, .int (nI c)), (3, .int (nI (n + k)))] [] (ovl w [(qm, (o0, cO 8 (mo A th su (nI sz) bl (nI ci) (nI ma) pa en wr))), (q_circuitOf, (A 15, cI Y 6 co)), (q_inputs, (A 6, cI Y 6 i1)), (q_gates, (A 7, cI Y 6 g1)), (q_has, (A 24, cZ Y 336 (filI fh (56 * j + n) k 0)))])) g ?_ ?_ k hi14
    · intro lo14
      refine x_run C 10 3 (pc' := 17) (lv' := [(0, .ref o0), (1, .int (nI j)), (2, .int (nI c)), (3, .int (nI (n + g)))]) (st' := [.int (nI c), .ref o0, .int (nI (n + g))]) rfl ?_
      refine x_cv C 13 (As := [.int (nI c)]) (rest := [.int (nI (n + g))]) rfl vX8_199 N 0 rfl rfl (c_X8_wiresOf Y _ o0 A th su sz bl ci ma pa en wr i1 g1 c n g qm q_inputs q_gates (ovl_at 0 N rfl) (ovl_at 2 N rfl) (ovl_at 3 N rfl) (N.ov [0, 2, 3] (by decide) rfl) (by first | assumption | omega) (by first | assumption | omega) (by first | assumption | omega)) rfl rfl (Nat.le_of_ble_eq_true rfl) ⟨Nat.le_of_ble_eq_true rfl, Nat.le_of_ble_eq_true rfl⟩ ⟨Nat.zero_le _, Nat.zero_le _⟩ [0, 2, 3] ⟨rfl, rfl, rfl, trivial⟩ (os' := [(qm, (o0, cO 8 (mo A th su (nI sz) bl (nI ci) (nI ma) pa en wr))), (q_circuitOf, (A 15, cI Y 6 co)), (q_inputs, (A 6, cI Y 6 i1)), (q_gates, (A 7, cI Y 6 g1)), (q_has, (A 24, cZ Y 336 (filI fh (56 * j + n) g 0)))]) rfl (st' := [.int (nI (n + g)), .int (nI (n + g))]) rfl ?_
      refine x_icmpN_ge C 14 (by omega) (by omega) rfl (tgt := 41) rfl (fun hc1 => ?_) (fun hc1 => ?_)
      · exact x_vret C B rfl 26 rfl (Nat.zero_le _) (Nat.zero_le _) ⟨by first | contradiction | (simp only [nlit]; done) | (simp only [nlit]; simp only [nlit, nI_add, pk_mul]; done) | (simp only [nlit, nI_add, pk_mul]; done) | rfl | (simp only [nlit]; rfl) | (simp only [nlit, nI_add, pk_mul]; rfl), by first | contradiction | (simp only [nlit]; done) | (simp only [nlit]; simp only [nlit, nI_add, pk_mul]; done) | (simp only [nlit, nI_add, pk_mul]; done) | rfl | (simp only [nlit]; rfl) | (simp only [nlit, nI_add, pk_mul]; rfl)⟩
      · exact absurd hc1 (by omega)
    · intro k hi14 ih14 lo14
      refine x_run C 10 3 (pc' := 17) (lv' := [(0, .ref o0), (1, .int (nI j)), (2, .int (nI c)), (3, .int (nI (n + k)))]) (st' := [.int (nI c), .ref o0, .int (nI (n + k))]) rfl ?_
      refine x_cv C 13 (As := [.int (nI c)]) (rest := [.int (nI (n + k))]) rfl vX8_199 N 0 rfl rfl (c_X8_wiresOf Y _ o0 A th su sz bl ci ma pa en wr i1 g1 c n g qm q_inputs q_gates (ovl_at 0 N rfl) (ovl_at 2 N rfl) (ovl_at 3 N rfl) (N.ov [0, 2, 3] (by decide) rfl) (by first | assumption | omega) (by first | assumption | omega) (by first | assumption | omega)) rfl rfl (Nat.le_of_ble_eq_true rfl) ⟨Nat.le_of_ble_eq_true rfl, Nat.le_of_ble_eq_true rfl⟩ ⟨Nat.zero_le _, Nat.zero_le _⟩ [0, 2, 3] ⟨rfl, rfl, rfl, trivial⟩ (os' := [(qm, (o0, cO 8 (mo A th su (nI sz) bl (nI ci) (nI ma) pa en wr))), (q_circuitOf, (A 15, cI Y 6 co)), (q_inputs, (A 6, cI Y 6 i1)), (q_gates, (A 7, cI Y 6 g1)), (q_has, (A 24, cZ Y 336 (filI fh (56 * j + n) k 0)))]) rfl (st' := [.int (nI (n + g)), .int (nI (n + k))]) rfl ?_
      refine x_icmpN_ge C 14 (by omega) (by omega) rfl (tgt := 41) rfl (fun hc2 => ?_) (fun hc2 => ?_)
      · exact absurd hc2 (by omega)
      · refine x_run C 15 1 (pc' := 24) (lv' := [(0, .ref o0), (1, .int (nI j)), (2, .int (nI c)), (3, .int (nI (n + k)))]) (st' := [.ref o0]) rfl ?_
        refine x_get C 16 rfl fX8_82 N 0 rfl (v := .ref (A 24)) rfl ?_
        refine x_run C 17 6 (pc' := 34) (lv' := [(0, .ref o0), (1, .int (nI j)), (2, .int (nI c)), (3, .int (nI (n + k)))]) (st' := [.int 0, .int ((56 * (nI j)) + (nI (n + k))), .ref (A 24)]) rfl ?_
        refine x_st (st' := [.int 0, .int (nI ((56 * j) + (n + k))), .ref (A 24)]) (by simp only [nlit, nI_add, pk_mul]) ?_
        refine x_zastN C 23 rfl N 4 rfl (by omega) (by omega) (os' := [(qm, (o0, cO 8 (mo A th su (nI sz) bl (nI ci) (nI ma) pa en wr))), (q_circuitOf, (A 15, cI Y 6 co)), (q_inputs, (A 6, cI Y 6 i1)), (q_gates, (A 7, cI Y 6 g1)), (q_has, (A 24, cZ Y 336 (upd (filI fh (56 * j + n) k 0) ((56 * j) + (n + k)) (vp_nar .boolean 0))))]) rfl ?_
        refine x_ov (os' := [(qm, (o0, cO 8 (mo A th su (nI sz) bl (nI ci) (nI ma) pa en wr))), (q_circuitOf, (A 15, cI Y 6 co)), (q_inputs, (A 6, cI Y 6 i1)), (q_gates, (A 7, cI Y 6 g1)), (q_has, (A 24, cZ Y 336 (upd (filI fh (56 * j + n) k 0) ((56 * j) + (n + k)) 0)))]) (by rw [show vp_nar .boolean 0 = 0 from rfl]) ?_
        refine x_run C 24 2 (pc' := 14) (lv' := [(3, .int ((nI (n + k)) + 1)), (0, .ref o0), (1, .int (nI j)), (2, .int (nI c))]) (st' := []) rfl ?_
        refine x_sub (lv' := [(0, .ref o0), (1, .int (nI j)), (2, .int (nI c)), (3, .int ((nI (n + k)) + 1))]) [1, 2, 3, 0] rfl ?_
        refine x_loc (lv' := [(0, .ref o0), (1, .int (nI j)), (2, .int (nI c)), (3, .int (nI (n + (k + 1))))]) (by simp only [nlit, nI_add, Nat.add_assoc]) ?_
        refine x_ov (os' := [(qm, (o0, cO 8 (mo A th su (nI sz) bl (nI ci) (nI ma) pa en wr))), (q_circuitOf, (A 15, cI Y 6 co)), (q_inputs, (A 6, cI Y 6 i1)), (q_gates, (A 7, cI Y 6 g1)), (q_has, (A 24, cZ Y 336 (filI fh (56 * j + n) (k + 1) 0)))]) (by rw [← filI_s, Nat.add_assoc]) ?_
        exact ih14 (by omega)
  refine x_sub (lv' := [(0, .ref o0), (1, .int (nI j)), (2, .int (nI c)), (3, .int (nI n))]) [2, 3, 1, 0] rfl ?_
  refine x_loc (lv' := [(0, .ref o0), (1, .int (nI j)), (2, .int (nI c)), (3, .int (nI (n + 0)))]) (by rfl) ?_
  refine x_ov (os' := [(qm, (o0, cO 8 (mo A th su (nI sz) bl (nI ci) (nI ma) pa en wr))), (q_circuitOf, (A 15, cI Y 6 co)), (q_inputs, (A 6, cI Y 6 i1)), (q_gates, (A 7, cI Y 6 g1)), (q_has, (A 24, cZ Y 336 (filI fh (56 * j + n) 0 0)))]) (by rw [filI_0]) ?_
  exact L14 0 (Nat.le_refl _) (by omega)
set_option maxHeartbeats 4000000 in
set_option maxRecDepth 100000 in
theorem c_X8_chooses (Y : xD) (w : va_W) (o0 : Nat) (A : Nat → Nat) (th : Int32) (su : Int32) (sz : Nat) (bl : Int32) (ci : Nat) (ma : Nat) (pa : Int32) (en : Int32) (wr : Int32) (fn : Nat → Nat) (fz : Nat → Nat) (fd : Nat → Nat) (fh : Nat → Int32) (j : Nat) (k : Nat) (x : Nat) (qm q_now q_zero q_delta q_has : Nat) (e0 : w[qm]? = some (o0, cO 8 (mo A th su (nI sz) bl (nI ci) (nI ma) pa en wr))) (e1 : w[q_now]? = some (A 23, cI Y 5376 (iF fn))) (e2 : w[q_zero]? = some (A 21, cI Y 5376 (iF fz))) (e3 : w[q_delta]? = some (A 20, cI Y 96 (iF fd))) (e4 : w[q_has]? = some (A 24, cZ Y 336 fh)) (N : xN w.length [qm, q_now, q_zero, q_delta, q_has]) (hj6 : j < 6) (hk : k < 56) (hx1 : x ≤ 1) : Cf Y mX8_chooses 1 [.ref o0, .int (nI j), .int (nI k), .int (nI x)] w none [(qm, (o0, cO 8 (mo A th su (nI sz) bl (nI ci) (nI ma) pa en wr))), (q_now, (A 23, cI Y 5376 (iF (filN fn (16 * (56 * j + k)) 16 (chG fz fd j k x))))), (q_zero, (A 21, cI Y 5376 (iF fz))), (q_delta, (A 20, cI Y 96 (iF fd))), (q_has, (A 24, cZ Y 336 (upd fh (56 * j + k) 1)))] := by
  refine Ct.intro (T := tX8_chooses) (by decide) oX8_chooses (Nat.le_of_ble_eq_true rfl) (fun G C B => ?_)
  refine x_lay [(qm, (o0, cO 8 (mo A th su (nI sz) bl (nI ci) (nI ma) pa en wr))), (q_now, (A 23, cI Y 5376 (iF fn))), (q_zero, (A 21, cI Y 5376 (iF fz))), (q_delta, (A 20, cI Y 96 (iF fd))), (q_has, (A 24, cZ Y 336 fh))] (lay_cons e0 (lay_cons e1 (lay_cons e2 (lay_cons e3 (lay_cons e4 lay_nil))))) ?_
  refine x_run C 0 2 (pc' := 3) (lv' := [(4, .int 0), (0, .ref o0), (1, .int (nI j)), (2, .int (nI k)), (3, .int (nI x))]) (st' := []) rfl ?_
  have L3 : ∀ i : Nat, 0 ≤ i → i ≤ 16 → X G Y 0 0 3 [(0, .ref o0), (1, .int (nI j)), (2, .int (nI k)), (3, .int (nI x)), (4, .int (nI i))] [] (ovl w [(qm, (o0, cO 8 (mo A th su (nI sz) bl (nI ci) (nI ma) pa en wr))), (q_now, (A 23, cI Y 5376 (iF (filN fn (16 * (56 * j + k)) i (chG fz fd j k x))))), (q_zero, (A 21, cI Y 5376 (iF fz))), (q_delta, (A 20, cI Y 96 (iF fd))), (q_has, (A 24, cZ Y 336 fh))]) := by
    intro i lo3 hi3
    revert lo3
    refine x_up (fun i => 0 ≤ i → X G Y 0 0 3 [(0, .ref o0), (1, .int (nI j)), (2, .int (nI k)), (3, .int (nI x)), (4, .int (nI i))] [] (ovl w [(qm, (o0, cO 8 (mo A th su (nI sz) bl (nI ci) (nI ma) pa en wr))), (q_now, (A 23, cI Y 5376 (iF (filN fn (16 * (56 * j + k)) i (chG fz fd j k x))))), (q_zero, (A 21, cI Y 5376 (iF fz))), (q_delta, (A 20, cI Y 96 (iF fd))), (q_has, (A 24, cZ Y 336 fh))])) 16 ?_ ?_ i hi3
    · intro lo3
      refine x_run C 2 2 (pc' := 7) (lv' := [(0, .ref o0), (1, .int (nI j)), (2, .int (nI k)), (3, .int (nI x)), (4, .int (nI 16))]) (st' := [.int 16, .int (nI 16)]) rfl ?_
      refine x_st (st' := [.int (nI 16), .int (nI 16)]) (by simp only [nlit, nI_add, pk_mul]) ?_
      refine x_icmpN_ge C 4 (by omega) (by omega) rfl (tgt := 64) rfl (fun hc1 => ?_) (fun hc1 => ?_)
      · refine x_run C 37 1 (pc' := 65) (lv' := [(0, .ref o0), (1, .int (nI j)), (2, .int (nI k)), (3, .int (nI x)), (4, .int (nI 16))]) (st' := [.ref o0]) rfl ?_
        refine x_get C 38 rfl fX8_82 N 0 rfl (v := .ref (A 24)) rfl ?_
        refine x_run C 39 6 (pc' := 75) (lv' := [(0, .ref o0), (1, .int (nI j)), (2, .int (nI k)), (3, .int (nI x)), (4, .int (nI 16))]) (st' := [.int 1, .int ((56 * (nI j)) + (nI k)), .ref (A 24)]) rfl ?_
        refine x_st (st' := [.int 1, .int (nI ((56 * j) + k)), .ref (A 24)]) (by simp only [nlit, nI_add, pk_mul]) ?_
        refine x_zastN C 45 rfl N 4 rfl (by omega) (by omega) (os' := [(qm, (o0, cO 8 (mo A th su (nI sz) bl (nI ci) (nI ma) pa en wr))), (q_now, (A 23, cI Y 5376 (iF (filN fn (16 * (56 * j + k)) 16 (chG fz fd j k x))))), (q_zero, (A 21, cI Y 5376 (iF fz))), (q_delta, (A 20, cI Y 96 (iF fd))), (q_has, (A 24, cZ Y 336 (upd fh ((56 * j) + k) (vp_nar .boolean 1))))]) rfl ?_
        refine x_ov (os' := [(qm, (o0, cO 8 (mo A th su (nI sz) bl (nI ci) (nI ma) pa en wr))), (q_now, (A 23, cI Y 5376 (iF (filN fn (16 * (56 * j + k)) 16 (chG fz fd j k x))))), (q_zero, (A 21, cI Y 5376 (iF fz))), (q_delta, (A 20, cI Y 96 (iF fd))), (q_has, (A 24, cZ Y 336 (upd fh ((56 * j) + k) 1)))]) (by rw [show vp_nar .boolean 1 = 1 from rfl]) ?_
        exact x_vret C B rfl 46 rfl (Nat.zero_le _) (Nat.zero_le _) ⟨by first | contradiction | (simp only [nlit]; done) | (simp only [nlit]; simp only [nlit, nI_add, pk_mul]; done) | (simp only [nlit, nI_add, pk_mul]; done) | rfl | (simp only [nlit]; rfl) | (simp only [nlit, nI_add, pk_mul]; rfl), by first | contradiction | (simp only [nlit]; done) | (simp only [nlit]; simp only [nlit, nI_add, pk_mul]; done) | (simp only [nlit, nI_add, pk_mul]; done) | rfl | (simp only [nlit]; rfl) | (simp only [nlit, nI_add, pk_mul]; rfl)⟩
      · exact absurd hc1 (by omega)
    · intro i hi3 ih3 lo3
      refine x_run C 2 2 (pc' := 7) (lv' := [(0, .ref o0), (1, .int (nI j)), (2, .int (nI k)), (3, .int (nI x)), (4, .int (nI i))]) (st' := [.int 16, .int (nI i)]) rfl ?_
      refine x_st (st' := [.int (nI 16), .int (nI i)]) (by simp only [nlit, nI_add, pk_mul]) ?_
      refine x_icmpN_ge C 4 (by omega) (by omega) rfl (tgt := 64) rfl (fun hc2 => ?_) (fun hc2 => ?_)
      · exact absurd hc2 (by omega)
      · refine x_run C 5 1 (pc' := 11) (lv' := [(0, .ref o0), (1, .int (nI j)), (2, .int (nI k)), (3, .int (nI x)), (4, .int (nI i))]) (st' := [.ref o0]) rfl ?_
        refine x_get C 6 rfl fX8_79 N 0 rfl (v := .ref (A 23)) rfl ?_
        refine x_run C 7 2 (pc' := 16) (lv' := [(0, .ref o0), (1, .int (nI j)), (2, .int (nI k)), (3, .int (nI x)), (4, .int (nI i))]) (st' := [.int (nI k), .int (nI j), .ref (A 23)]) rfl ?_
        refine x_cs C 9 (As := [.int (nI j), .int (nI k)]) (rest := [.ref (A 23)]) rfl vX8_210 N (c_X8_placeOf Y _ j k    ) rfl rfl (Nat.le_of_ble_eq_true rfl) ⟨Nat.le_of_ble_eq_true rfl, Nat.le_of_ble_eq_true rfl⟩ ⟨Nat.zero_le _, Nat.zero_le _⟩ [] trivial (os' := [(qm, (o0, cO 8 (mo A th su (nI sz) bl (nI ci) (nI ma) pa en wr))), (q_now, (A 23, cI Y 5376 (iF (filN fn (16 * (56 * j + k)) i (chG fz fd j k x))))), (q_zero, (A 21, cI Y 5376 (iF fz))), (q_delta, (A 20, cI Y 96 (iF fd))), (q_has, (A 24, cZ Y 336 fh))]) rfl (st' := [.int (nI (16 * (56 * j + k))), .ref (A 23)]) rfl ?_
        refine x_run C 10 3 (pc' := 23) (lv' := [(0, .ref o0), (1, .int (nI j)), (2, .int (nI k)), (3, .int (nI x)), (4, .int (nI i))]) (st' := [.ref o0, .int ((nI (16 * (56 * j + k))) + (nI i)), .ref (A 23)]) rfl ?_
        refine x_get C 13 rfl fX8_73 N 0 rfl (v := .ref (A 21)) rfl ?_
        refine x_run C 14 2 (pc' := 28) (lv' := [(0, .ref o0), (1, .int (nI j)), (2, .int (nI k)), (3, .int (nI x)), (4, .int (nI i))]) (st' := [.int (nI k), .int (nI j), .ref (A 21), .int ((nI (16 * (56 * j + k))) + (nI i)), .ref (A 23)]) rfl ?_
        refine x_cs C 16 (As := [.int (nI j), .int (nI k)]) (rest := [.ref (A 21), .int ((nI (16 * (56 * j + k))) + (nI i)), .ref (A 23)]) rfl vX8_210 N (c_X8_placeOf Y _ j k    ) rfl rfl (Nat.le_of_ble_eq_true rfl) ⟨Nat.le_of_ble_eq_true rfl, Nat.le_of_ble_eq_true rfl⟩ ⟨Nat.zero_le _, Nat.zero_le _⟩ [] trivial (os' := [(qm, (o0, cO 8 (mo A th su (nI sz) bl (nI ci) (nI ma) pa en wr))), (q_now, (A 23, cI Y 5376 (iF (filN fn (16 * (56 * j + k)) i (chG fz fd j k x))))), (q_zero, (A 21, cI Y 5376 (iF fz))), (q_delta, (A 20, cI Y 96 (iF fd))), (q_has, (A 24, cZ Y 336 fh))]) rfl (st' := [.int (nI (16 * (56 * j + k))), .ref (A 21), .int ((nI (16 * (56 * j + k))) + (nI i)), .ref (A 23)]) rfl ?_
        refine x_run C 17 2 (pc' := 34) (lv' := [(0, .ref o0), (1, .int (nI j)), (2, .int (nI k)), (3, .int (nI x)), (4, .int (nI i))]) (st' := [.int ((nI (16 * (56 * j + k))) + (nI i)), .ref (A 21), .int ((nI (16 * (56 * j + k))) + (nI i)), .ref (A 23)]) rfl ?_
        refine x_st (st' := [.int (nI ((16 * (56 * j + k)) + i)), .ref (A 21), .int ((nI (16 * (56 * j + k))) + (nI i)), .ref (A 23)]) (by simp only [nlit, nI_add, pk_mul]) ?_
        refine x_ialdN C 19 rfl N 2 rfl (by omega) (by omega) ?_
        refine x_st (st' := [.int (nI (fz ((16 * (56 * j + k)) + i))), .int ((nI (16 * (56 * j + k))) + (nI i)), .ref (A 23)]) rfl ?_
        refine x_run C 20 2 (pc' := 37) (lv' := [(0, .ref o0), (1, .int (nI j)), (2, .int (nI k)), (3, .int (nI x)), (4, .int (nI i))]) (st' := [.int 1, .int (nI x), .int (nI (fz ((16 * (56 * j + k)) + i))), .int ((nI (16 * (56 * j + k))) + (nI i)), .ref (A 23)]) rfl ?_
        refine x_st (st' := [.int (nI 1), .int (nI x), .int (nI (fz ((16 * (56 * j + k)) + i))), .int ((nI (16 * (56 * j + k))) + (nI i)), .ref (A 23)]) (by simp only [nlit, nI_add, pk_mul]) ?_
        refine x_icmpN_ne C 22 (by omega) (by omega) rfl (tgt := 55) rfl (fun hc3 => ?_) (fun hc3 => ?_)
        · refine x_run C 32 2 (pc' := 57) (lv' := [(0, .ref o0), (1, .int (nI j)), (2, .int (nI k)), (3, .int (nI x)), (4, .int (nI i))]) (st' := [.int ((nI (fz ((16 * (56 * j + k)) + i))) ^^^ 0), .int ((nI (16 * (56 * j + k))) + (nI i)), .ref (A 23)]) rfl ?_
          refine x_st (st' := [.int ((nI (fz ((16 * (56 * j + k)) + i))) ^^^ 0), .int (nI ((16 * (56 * j + k)) + i)), .ref (A 23)]) (by simp only [nlit, nI_add, pk_mul]) ?_
          refine x_st (st' := [.int (nI ((fz ((16 * (56 * j + k)) + i)) ^^^ 0)), .int (nI ((16 * (56 * j + k)) + i)), .ref (A 23)]) (by simp only [nlit, nI_add, pk_mul, nx_xor]) ?_
          refine x_iastN C 34 rfl N 1 rfl (by omega) (by omega) (os' := [(qm, (o0, cO 8 (mo A th su (nI sz) bl (nI ci) (nI ma) pa en wr))), (q_now, (A 23, cI Y 5376 (upd (iF (filN fn (16 * (56 * j + k)) i (chG fz fd j k x))) ((16 * (56 * j + k)) + i) (nI ((fz ((16 * (56 * j + k)) + i)) ^^^ 0))))), (q_zero, (A 21, cI Y 5376 (iF fz))), (q_delta, (A 20, cI Y 96 (iF fd))), (q_has, (A 24, cZ Y 336 fh))]) rfl ?_
          refine x_ov (os' := [(qm, (o0, cO 8 (mo A th su (nI sz) bl (nI ci) (nI ma) pa en wr))), (q_now, (A 23, cI Y 5376 (iF (updN (filN fn (16 * (56 * j + k)) i (chG fz fd j k x)) ((16 * (56 * j + k)) + i) ((fz ((16 * (56 * j + k)) + i)) ^^^ 0))))), (q_zero, (A 21, cI Y 5376 (iF fz))), (q_delta, (A 20, cI Y 96 (iF fd))), (q_has, (A 24, cZ Y 336 fh))]) (by rw [upd_iF]) ?_
          refine x_run C 35 2 (pc' := 3) (lv' := [(4, .int ((nI i) + 1)), (0, .ref o0), (1, .int (nI j)), (2, .int (nI k)), (3, .int (nI x))]) (st' := []) rfl ?_
          refine x_sub (lv' := [(0, .ref o0), (1, .int (nI j)), (2, .int (nI k)), (3, .int (nI x)), (4, .int ((nI i) + 1))]) [1, 2, 3, 4, 0] rfl ?_
          refine x_loc (lv' := [(0, .ref o0), (1, .int (nI j)), (2, .int (nI k)), (3, .int (nI x)), (4, .int (nI (i + 1)))]) (by simp only [nlit, nI_add, pk_mul]) ?_
          refine x_ov (os' := [(qm, (o0, cO 8 (mo A th su (nI sz) bl (nI ci) (nI ma) pa en wr))), (q_now, (A 23, cI Y 5376 (iF (filN fn (16 * (56 * j + k)) (i + 1) (chG fz fd j k x))))), (q_zero, (A 21, cI Y 5376 (iF fz))), (q_delta, (A 20, cI Y 96 (iF fd))), (q_has, (A 24, cZ Y 336 fh))]) (by rw [← filN_s]; simp only [chG, if_neg hc3]) ?_
          exact ih3 (by omega)
        · refine x_run C 23 1 (pc' := 41) (lv' := [(0, .ref o0), (1, .int (nI j)), (2, .int (nI k)), (3, .int (nI x)), (4, .int (nI i))]) (st' := [.ref o0, .int (nI (fz ((16 * (56 * j + k)) + i))), .int ((nI (16 * (56 * j + k))) + (nI i)), .ref (A 23)]) rfl ?_
          refine x_get C 24 rfl fX8_70 N 0 rfl (v := .ref (A 20)) rfl ?_
          refine x_run C 25 5 (pc' := 51) (lv' := [(0, .ref o0), (1, .int (nI j)), (2, .int (nI k)), (3, .int (nI x)), (4, .int (nI i))]) (st' := [.int ((16 * (nI j)) + (nI i)), .ref (A 20), .int (nI (fz ((16 * (56 * j + k)) + i))), .int ((nI (16 * (56 * j + k))) + (nI i)), .ref (A 23)]) rfl ?_
          refine x_st (st' := [.int (nI ((16 * j) + i)), .ref (A 20), .int (nI (fz ((16 * (56 * j + k)) + i))), .int ((nI (16 * (56 * j + k))) + (nI i)), .ref (A 23)]) (by simp only [nlit, nI_add, pk_mul]) ?_
          refine x_ialdN C 30 rfl N 3 rfl (by omega) (by omega) ?_
          refine x_st (st' := [.int (nI (fd ((16 * j) + i))), .int (nI (fz ((16 * (56 * j + k)) + i))), .int ((nI (16 * (56 * j + k))) + (nI i)), .ref (A 23)]) rfl ?_
          refine x_run C 31 1 (pc' := 56) (lv' := [(0, .ref o0), (1, .int (nI j)), (2, .int (nI k)), (3, .int (nI x)), (4, .int (nI i))]) (st' := [.int (nI (fd ((16 * j) + i))), .int (nI (fz ((16 * (56 * j + k)) + i))), .int ((nI (16 * (56 * j + k))) + (nI i)), .ref (A 23)]) rfl ?_
          refine x_run C 33 1 (pc' := 57) (lv' := [(0, .ref o0), (1, .int (nI j)), (2, .int (nI k)), (3, .int (nI x)), (4, .int (nI i))]) (st' := [.int ((nI (fz ((16 * (56 * j + k)) + i))) ^^^ (nI (fd ((16 * j) + i)))), .int ((nI (16 * (56 * j + k))) + (nI i)), .ref (A 23)]) rfl ?_
          refine x_st (st' := [.int ((nI (fz ((16 * (56 * j + k)) + i))) ^^^ (nI (fd ((16 * j) + i)))), .int (nI ((16 * (56 * j + k)) + i)), .ref (A 23)]) (by simp only [nlit, nI_add, pk_mul]) ?_
          refine x_st (st' := [.int (nI ((fz ((16 * (56 * j + k)) + i)) ^^^ (fd ((16 * j) + i)))), .int (nI ((16 * (56 * j + k)) + i)), .ref (A 23)]) (by simp only [nlit, nI_add, pk_mul, nx_xor]) ?_
          refine x_iastN C 34 rfl N 1 rfl (by omega) (by omega) (os' := [(qm, (o0, cO 8 (mo A th su (nI sz) bl (nI ci) (nI ma) pa en wr))), (q_now, (A 23, cI Y 5376 (upd (iF (filN fn (16 * (56 * j + k)) i (chG fz fd j k x))) ((16 * (56 * j + k)) + i) (nI ((fz ((16 * (56 * j + k)) + i)) ^^^ (fd ((16 * j) + i))))))), (q_zero, (A 21, cI Y 5376 (iF fz))), (q_delta, (A 20, cI Y 96 (iF fd))), (q_has, (A 24, cZ Y 336 fh))]) rfl ?_
          refine x_ov (os' := [(qm, (o0, cO 8 (mo A th su (nI sz) bl (nI ci) (nI ma) pa en wr))), (q_now, (A 23, cI Y 5376 (iF (updN (filN fn (16 * (56 * j + k)) i (chG fz fd j k x)) ((16 * (56 * j + k)) + i) ((fz ((16 * (56 * j + k)) + i)) ^^^ (fd ((16 * j) + i))))))), (q_zero, (A 21, cI Y 5376 (iF fz))), (q_delta, (A 20, cI Y 96 (iF fd))), (q_has, (A 24, cZ Y 336 fh))]) (by rw [upd_iF]) ?_
          refine x_run C 35 2 (pc' := 3) (lv' := [(4, .int ((nI i) + 1)), (0, .ref o0), (1, .int (nI j)), (2, .int (nI k)), (3, .int (nI x))]) (st' := []) rfl ?_
          refine x_sub (lv' := [(0, .ref o0), (1, .int (nI j)), (2, .int (nI k)), (3, .int (nI x)), (4, .int ((nI i) + 1))]) [1, 2, 3, 4, 0] rfl ?_
          refine x_loc (lv' := [(0, .ref o0), (1, .int (nI j)), (2, .int (nI k)), (3, .int (nI x)), (4, .int (nI (i + 1)))]) (by simp only [nlit, nI_add, pk_mul]) ?_
          refine x_ov (os' := [(qm, (o0, cO 8 (mo A th su (nI sz) bl (nI ci) (nI ma) pa en wr))), (q_now, (A 23, cI Y 5376 (iF (filN fn (16 * (56 * j + k)) (i + 1) (chG fz fd j k x))))), (q_zero, (A 21, cI Y 5376 (iF fz))), (q_delta, (A 20, cI Y 96 (iF fd))), (q_has, (A 24, cZ Y 336 fh))]) (by rw [← filN_s]; simp only [chG, if_pos hc3]) ?_
          exact ih3 (by omega)
  refine x_sub (lv' := [(0, .ref o0), (1, .int (nI j)), (2, .int (nI k)), (3, .int (nI x)), (4, .int 0)]) [1, 2, 3, 4, 0] rfl ?_
  refine x_loc (lv' := [(0, .ref o0), (1, .int (nI j)), (2, .int (nI k)), (3, .int (nI x)), (4, .int (nI 0))]) (by simp only [nlit, nI_add, pk_mul]) ?_
  refine x_ov (os' := [(qm, (o0, cO 8 (mo A th su (nI sz) bl (nI ci) (nI ma) pa en wr))), (q_now, (A 23, cI Y 5376 (iF (filN fn (16 * (56 * j + k)) 0 (chG fz fd j k x))))), (q_zero, (A 21, cI Y 5376 (iF fz))), (q_delta, (A 20, cI Y 96 (iF fd))), (q_has, (A 24, cZ Y 336 fh))]) (by rw [filN_0]) ?_
  exact L3 0 (Nat.le_refl _) (by omega)
set_option maxHeartbeats 4000000 in
set_option maxRecDepth 100000 in
theorem c_X8_chooseF (Y : xD) (w : va_W) (o0 : Nat) (A : Nat → Nat) (th : Int32) (su : Int32) (sz : Nat) (bl : Int32) (ci : Nat) (ma : Nat) (pa : Int32) (en : Int32) (wr : Int32) (x : Int32) (x0 : Int32) (x1 : Int32) (qm : Nat) (e0 : w[qm]? = some (o0, cO 8 (mo A th su (nI sz) bl (nI ci) (nI ma) pa en wr))) (N : xN w.length [qm]) (hx : x < 0 ∨ nI ma ≤ x) (h6 : ma ≤ 6) : Cf Y mX8_choose 2 [.ref o0, .int x, .int x0, .int x1] w (some (.int (-1))) [(qm, (o0, cO 8 (mo A (nI 0) su (nI sz) bl (nI ci) (nI ma) pa en wr)))] := by
  refine Ct.intro (T := tX8_choose) (by decide) oX8_choose (Nat.le_of_ble_eq_true rfl) (fun G C B => ?_)
  refine x_lay [(qm, (o0, cO 8 (mo A th su (nI sz) bl (nI ci) (nI ma) pa en wr)))] (lay_cons e0 lay_nil) ?_
  refine x_run C 0 2 (pc' := 2) (lv' := [(0, .ref o0), (1, .int x), (2, .int x0), (3, .int x1)]) (st' := [.int 0, .ref o0]) rfl ?_
  refine x_put C 2 rfl pX8_117 N 0 rfl rfl rfl (Nat.le_of_ble_eq_true rfl) (os' := [(qm, (o0, cO 8 (mo A (nI 0) su (nI sz) bl (nI ci) (nI ma) pa en wr)))]) rfl ?_
  refine x_run C 3 2 (pc' := 7) (lv' := [(0, .ref o0), (1, .int x), (2, .int x0), (3, .int x1)]) (st' := [.int x, .ref o0]) rfl ?_
  refine x_cv C 5 (As := [.int x]) (rest := []) rfl vX8_230 N 0 rfl rfl (c_X8_isGarbledF Y _ o0 A (nI 0) su sz bl ci ma pa en wr x qm (ovl_at 0 N rfl) (N.ov [0] (by decide) rfl) hx (by first | assumption | omega)) rfl rfl (Nat.le_of_ble_eq_true rfl) ⟨Nat.le_of_ble_eq_true rfl, Nat.le_of_ble_eq_true rfl⟩ ⟨Nat.zero_le _, Nat.zero_le _⟩ [0] ⟨rfl, trivial⟩ (os' := [(qm, (o0, cO 8 (mo A (nI 0) su (nI sz) bl (nI ci) (nI ma) pa en wr)))]) rfl (st' := [.int 0]) rfl ?_
  refine x_st (st' := [.int (nI 0)]) (by simp only [nlit, nI_add, pk_mul]) ?_
  refine x_ifN_eq C 6 (by omega) rfl (tgt := 43) rfl (fun hc1 => ?_) (fun hc1 => absurd hc1 (by omega))
  refine x_run C 25 1 (pc' := 44) (lv' := [(0, .ref o0), (1, .int x), (2, .int x0), (3, .int x1)]) (st' := [.int (-1)]) rfl ?_
  exact x_iret C B rfl 26 rfl (Nat.zero_le _) (Nat.zero_le _) ⟨by first | rfl | (simp only [nlit, nI_add, pk_mul]; done), by first | rfl | (simp only [nlit, nI_add, pk_mul]; done)⟩
set_option maxHeartbeats 4000000 in
set_option maxRecDepth 100000 in
theorem c_X8_chooseK (Y : xD) (w : va_W) (o0 : Nat) (A : Nat → Nat) (th : Int32) (su : Int32) (sz : Nat) (bl : Int32) (ci : Nat) (ma : Nat) (pa : Int32) (en : Int32) (wr : Int32) (co : Nat → Int32) (i1 : Nat → Int32) (j : Nat) (c : Nat) (n : Nat) (k : Int32) (b : Int32) (qm q_circuitOf q_inputs : Nat) (e0 : w[qm]? = some (o0, cO 8 (mo A th su (nI sz) bl (nI ci) (nI ma) pa en wr))) (e1 : w[q_circuitOf]? = some (A 15, cI Y 6 co)) (e2 : w[q_inputs]? = some (A 6, cI Y 6 i1)) (N : xN w.length [qm, q_circuitOf, q_inputs]) (hj : j < ma) (h6 : ma ≤ 6) (hc6 : c < 6) (hn16 : n ≤ 16) (hco : co j = nI c) (hin : i1 c = nI n) (hk : k < 0 ∨ nI n ≤ k) : Cf Y mX8_choose 2 [.ref o0, .int (nI j), .int k, .int b] w (some (.int (-1))) [(qm, (o0, cO 8 (mo A (nI 0) su (nI sz) bl (nI ci) (nI ma) pa en wr))), (q_circuitOf, (A 15, cI Y 6 co)), (q_inputs, (A 6, cI Y 6 i1))] := by
  refine Ct.intro (T := tX8_choose) (by decide) oX8_choose (Nat.le_of_ble_eq_true rfl) (fun G C B => ?_)
  refine x_lay [(qm, (o0, cO 8 (mo A th su (nI sz) bl (nI ci) (nI ma) pa en wr))), (q_circuitOf, (A 15, cI Y 6 co)), (q_inputs, (A 6, cI Y 6 i1))] (lay_cons e0 (lay_cons e1 (lay_cons e2 lay_nil))) ?_
  refine x_run C 0 2 (pc' := 2) (lv' := [(0, .ref o0), (1, .int (nI j)), (2, .int k), (3, .int b)]) (st' := [.int 0, .ref o0]) rfl ?_
  refine x_put C 2 rfl pX8_117 N 0 rfl rfl rfl (Nat.le_of_ble_eq_true rfl) (os' := [(qm, (o0, cO 8 (mo A (nI 0) su (nI sz) bl (nI ci) (nI ma) pa en wr))), (q_circuitOf, (A 15, cI Y 6 co)), (q_inputs, (A 6, cI Y 6 i1))]) rfl ?_
  refine x_run C 3 2 (pc' := 7) (lv' := [(0, .ref o0), (1, .int (nI j)), (2, .int k), (3, .int b)]) (st' := [.int (nI j), .ref o0]) rfl ?_
  refine x_cv C 5 (As := [.int (nI j)]) (rest := []) rfl vX8_230 N 0 rfl rfl (c_X8_isGarbled Y _ o0 A (nI 0) su sz bl ci ma pa en wr j qm (ovl_at 0 N rfl) (N.ov [0] (by decide) rfl) (by first | assumption | omega) (by first | assumption | omega)) rfl rfl (Nat.le_of_ble_eq_true rfl) ⟨Nat.le_of_ble_eq_true rfl, Nat.le_of_ble_eq_true rfl⟩ ⟨Nat.zero_le _, Nat.zero_le _⟩ [0] ⟨rfl, trivial⟩ (os' := [(qm, (o0, cO 8 (mo A (nI 0) su (nI sz) bl (nI ci) (nI ma) pa en wr))), (q_circuitOf, (A 15, cI Y 6 co)), (q_inputs, (A 6, cI Y 6 i1))]) rfl (st' := [.int 1]) rfl ?_
  refine x_st (st' := [.int (nI 1)]) (by simp only [nlit, nI_add, pk_mul]) ?_
  refine x_ifN_eq C 6 (by omega) rfl (tgt := 43) rfl (fun hc1 => absurd hc1 (by omega)) (fun hc1 => ?_)
  refine x_run C 7 3 (pc' := 16) (lv' := [(0, .ref o0), (1, .int (nI j)), (2, .int k), (3, .int b)]) (st' := [.ref o0, .int 0, .int k]) rfl ?_
  refine x_get C 10 rfl fX8_28 N 0 rfl (v := .ref (A 6)) rfl ?_
  refine x_run C 11 1 (pc' := 20) (lv' := [(0, .ref o0), (1, .int (nI j)), (2, .int k), (3, .int b)]) (st' := [.ref o0, .ref (A 6), .int 0, .int k]) rfl ?_
  refine x_get C 12 rfl fX8_55 N 0 rfl (v := .ref (A 15)) rfl ?_
  refine x_run C 13 1 (pc' := 24) (lv' := [(0, .ref o0), (1, .int (nI j)), (2, .int k), (3, .int b)]) (st' := [.int (nI j), .ref (A 15), .ref (A 6), .int 0, .int k]) rfl ?_
  refine x_ialdN C 14 rfl N 1 rfl (by omega) (by omega) ?_
  refine x_st (st' := [.int (nI c), .ref (A 6), .int 0, .int k]) (by rw [hco]) ?_
  refine x_ialdN C 15 rfl N 2 rfl (by omega) (by omega) ?_
  refine x_st (st' := [.int (nI n), .int 0, .int k]) (by rw [hin]) ?_
  refine x_run C 16 2 (pc' := 28) (lv' := [(0, .ref o0), (1, .int (nI j)), (2, .int k), (3, .int b)]) (st' := [.int ((nI n) - 1), .int 0, .int k]) rfl ?_
  refine x_cs C 18 (As := [.int k, .int 0, .int ((nI n) - 1)]) (rest := []) rfl vX8_135 N (c_X8_inF Y _ k 0 ((nI n) - 1)    (hk.imp id (le_pred (by omega)))) rfl rfl (Nat.le_of_ble_eq_true rfl) ⟨Nat.le_of_ble_eq_true rfl, Nat.le_of_ble_eq_true rfl⟩ ⟨Nat.zero_le _, Nat.zero_le _⟩ [] trivial (os' := [(qm, (o0, cO 8 (mo A (nI 0) su (nI sz) bl (nI ci) (nI ma) pa en wr))), (q_circuitOf, (A 15, cI Y 6 co)), (q_inputs, (A 6, cI Y 6 i1))]) rfl (st' := [.int 0]) rfl ?_
  refine x_st (st' := [.int (nI 0)]) (by simp only [nlit, nI_add, pk_mul]) ?_
  refine x_ifN_eq C 19 (by omega) rfl (tgt := 43) rfl (fun hc2 => ?_) (fun hc2 => absurd hc2 (by omega))
  refine x_run C 25 1 (pc' := 44) (lv' := [(0, .ref o0), (1, .int (nI j)), (2, .int k), (3, .int b)]) (st' := [.int (-1)]) rfl ?_
  exact x_iret C B rfl 26 rfl (Nat.zero_le _) (Nat.zero_le _) ⟨by first | rfl | (simp only [nlit, nI_add, pk_mul]; done), by first | rfl | (simp only [nlit, nI_add, pk_mul]; done)⟩
set_option maxHeartbeats 4000000 in
set_option maxRecDepth 100000 in
theorem c_X8_chooseT (Y : xD) (w : va_W) (o0 : Nat) (A : Nat → Nat) (th : Int32) (su : Int32) (sz : Nat) (bl : Int32) (ci : Nat) (ma : Nat) (pa : Int32) (en : Int32) (wr : Int32) (co : Nat → Int32) (i1 : Nat → Int32) (j : Nat) (c : Nat) (n : Nat) (k : Nat) (b : Int32) (qm q_circuitOf q_inputs : Nat) (e0 : w[qm]? = some (o0, cO 8 (mo A th su (nI sz) bl (nI ci) (nI ma) pa en wr))) (e1 : w[q_circuitOf]? = some (A 15, cI Y 6 co)) (e2 : w[q_inputs]? = some (A 6, cI Y 6 i1)) (N : xN w.length [qm, q_circuitOf, q_inputs]) (hj : j < ma) (h6 : ma ≤ 6) (hc6 : c < 6) (hn16 : n ≤ 16) (hco : co j = nI c) (hin : i1 c = nI n) (hk : k < n) (hb : b < 0 ∨ 1 < b) : Cf Y mX8_choose 2 [.ref o0, .int (nI j), .int (nI k), .int b] w (some (.int (-1))) [(qm, (o0, cO 8 (mo A (nI 0) su (nI sz) bl (nI ci) (nI ma) pa en wr))), (q_circuitOf, (A 15, cI Y 6 co)), (q_inputs, (A 6, cI Y 6 i1))] := by
  refine Ct.intro (T := tX8_choose) (by decide) oX8_choose (Nat.le_of_ble_eq_true rfl) (fun G C B => ?_)
  refine x_lay [(qm, (o0, cO 8 (mo A th su (nI sz) bl (nI ci) (nI ma) pa en wr))), (q_circuitOf, (A 15, cI Y 6 co)), (q_inputs, (A 6, cI Y 6 i1))] (lay_cons e0 (lay_cons e1 (lay_cons e2 lay_nil))) ?_
  refine x_run C 0 2 (pc' := 2) (lv' := [(0, .ref o0), (1, .int (nI j)), (2, .int (nI k)), (3, .int b)]) (st' := [.int 0, .ref o0]) rfl ?_
  refine x_put C 2 rfl pX8_117 N 0 rfl rfl rfl (Nat.le_of_ble_eq_true rfl) (os' := [(qm, (o0, cO 8 (mo A (nI 0) su (nI sz) bl (nI ci) (nI ma) pa en wr))), (q_circuitOf, (A 15, cI Y 6 co)), (q_inputs, (A 6, cI Y 6 i1))]) rfl ?_
  refine x_run C 3 2 (pc' := 7) (lv' := [(0, .ref o0), (1, .int (nI j)), (2, .int (nI k)), (3, .int b)]) (st' := [.int (nI j), .ref o0]) rfl ?_
  refine x_cv C 5 (As := [.int (nI j)]) (rest := []) rfl vX8_230 N 0 rfl rfl (c_X8_isGarbled Y _ o0 A (nI 0) su sz bl ci ma pa en wr j qm (ovl_at 0 N rfl) (N.ov [0] (by decide) rfl) (by first | assumption | omega) (by first | assumption | omega)) rfl rfl (Nat.le_of_ble_eq_true rfl) ⟨Nat.le_of_ble_eq_true rfl, Nat.le_of_ble_eq_true rfl⟩ ⟨Nat.zero_le _, Nat.zero_le _⟩ [0] ⟨rfl, trivial⟩ (os' := [(qm, (o0, cO 8 (mo A (nI 0) su (nI sz) bl (nI ci) (nI ma) pa en wr))), (q_circuitOf, (A 15, cI Y 6 co)), (q_inputs, (A 6, cI Y 6 i1))]) rfl (st' := [.int 1]) rfl ?_
  refine x_st (st' := [.int (nI 1)]) (by simp only [nlit, nI_add, pk_mul]) ?_
  refine x_ifN_eq C 6 (by omega) rfl (tgt := 43) rfl (fun hc1 => absurd hc1 (by omega)) (fun hc1 => ?_)
  refine x_run C 7 3 (pc' := 16) (lv' := [(0, .ref o0), (1, .int (nI j)), (2, .int (nI k)), (3, .int b)]) (st' := [.ref o0, .int 0, .int (nI k)]) rfl ?_
  refine x_get C 10 rfl fX8_28 N 0 rfl (v := .ref (A 6)) rfl ?_
  refine x_run C 11 1 (pc' := 20) (lv' := [(0, .ref o0), (1, .int (nI j)), (2, .int (nI k)), (3, .int b)]) (st' := [.ref o0, .ref (A 6), .int 0, .int (nI k)]) rfl ?_
  refine x_get C 12 rfl fX8_55 N 0 rfl (v := .ref (A 15)) rfl ?_
  refine x_run C 13 1 (pc' := 24) (lv' := [(0, .ref o0), (1, .int (nI j)), (2, .int (nI k)), (3, .int b)]) (st' := [.int (nI j), .ref (A 15), .ref (A 6), .int 0, .int (nI k)]) rfl ?_
  refine x_ialdN C 14 rfl N 1 rfl (by omega) (by omega) ?_
  refine x_st (st' := [.int (nI c), .ref (A 6), .int 0, .int (nI k)]) (by rw [hco]) ?_
  refine x_ialdN C 15 rfl N 2 rfl (by omega) (by omega) ?_
  refine x_st (st' := [.int (nI n), .int 0, .int (nI k)]) (by rw [hin]) ?_
  refine x_run C 16 2 (pc' := 28) (lv' := [(0, .ref o0), (1, .int (nI j)), (2, .int (nI k)), (3, .int b)]) (st' := [.int ((nI n) - 1), .int 0, .int (nI k)]) rfl ?_
  refine x_st (st' := [.int (nI (n - 1)), .int 0, .int (nI k)]) (by simp only [nlit, nI_add, pk_mul, pk_sub (show 1 ≤ n by omega)]) ?_
  refine x_st (st' := [.int (nI (n - 1)), .int (nI 0), .int (nI k)]) (by simp only [nlit, nI_add, pk_mul]) ?_
  refine x_cs C 18 (As := [.int (nI k), .int (nI 0), .int (nI (n - 1))]) (rest := []) rfl vX8_135 N (c_X8_in Y _ k 0 (n - 1)    (by first | assumption | omega) (by first | assumption | omega) (by first | assumption | omega)) rfl rfl (Nat.le_of_ble_eq_true rfl) ⟨Nat.le_of_ble_eq_true rfl, Nat.le_of_ble_eq_true rfl⟩ ⟨Nat.zero_le _, Nat.zero_le _⟩ [] trivial (os' := [(qm, (o0, cO 8 (mo A (nI 0) su (nI sz) bl (nI ci) (nI ma) pa en wr))), (q_circuitOf, (A 15, cI Y 6 co)), (q_inputs, (A 6, cI Y 6 i1))]) rfl (st' := [.int 1]) rfl ?_
  refine x_st (st' := [.int (nI 1)]) (by simp only [nlit, nI_add, pk_mul]) ?_
  refine x_ifN_eq C 19 (by omega) rfl (tgt := 43) rfl (fun hc2 => absurd hc2 (by omega)) (fun hc2 => ?_)
  refine x_run C 20 3 (pc' := 37) (lv' := [(0, .ref o0), (1, .int (nI j)), (2, .int (nI k)), (3, .int b)]) (st' := [.int 1, .int 0, .int b]) rfl ?_
  refine x_cs C 23 (As := [.int b, .int 0, .int 1]) (rest := []) rfl vX8_135 N (c_X8_inF Y _ b 0 1    hb) rfl rfl (Nat.le_of_ble_eq_true rfl) ⟨Nat.le_of_ble_eq_true rfl, Nat.le_of_ble_eq_true rfl⟩ ⟨Nat.zero_le _, Nat.zero_le _⟩ [] trivial (os' := [(qm, (o0, cO 8 (mo A (nI 0) su (nI sz) bl (nI ci) (nI ma) pa en wr))), (q_circuitOf, (A 15, cI Y 6 co)), (q_inputs, (A 6, cI Y 6 i1))]) rfl (st' := [.int 0]) rfl ?_
  refine x_st (st' := [.int (nI 0)]) (by simp only [nlit, nI_add, pk_mul]) ?_
  refine x_ifN_ne C 24 (by omega) rfl (tgt := 45) rfl (fun hc3 => absurd hc3 (by omega)) (fun hc3 => ?_)
  refine x_run C 25 1 (pc' := 44) (lv' := [(0, .ref o0), (1, .int (nI j)), (2, .int (nI k)), (3, .int b)]) (st' := [.int (-1)]) rfl ?_
  exact x_iret C B rfl 26 rfl (Nat.zero_le _) (Nat.zero_le _) ⟨by first | rfl | (simp only [nlit, nI_add, pk_mul]; done), by first | rfl | (simp only [nlit, nI_add, pk_mul]; done)⟩
set_option maxHeartbeats 4000000 in
set_option maxRecDepth 100000 in
theorem c_X8_choose (Y : xD) (w : va_W) (o0 : Nat) (A : Nat → Nat) (th : Int32) (su : Int32) (sz : Nat) (bl : Int32) (ci : Nat) (ma : Nat) (pa : Int32) (en : Int32) (wr : Int32) (co : Nat → Int32) (i1 : Nat → Int32) (g1 : Nat → Int32) (fn : Nat → Nat) (fz : Nat → Nat) (fd : Nat → Nat) (fh : Nat → Int32) (j : Nat) (c : Nat) (n : Nat) (g : Nat) (k : Nat) (x : Nat) (qm q_circuitOf q_inputs q_gates q_now q_zero q_delta q_has : Nat) (e0 : w[qm]? = some (o0, cO 8 (mo A th su (nI sz) bl (nI ci) (nI ma) pa en wr))) (e1 : w[q_circuitOf]? = some (A 15, cI Y 6 co)) (e2 : w[q_inputs]? = some (A 6, cI Y 6 i1)) (e3 : w[q_gates]? = some (A 7, cI Y 6 g1)) (e4 : w[q_now]? = some (A 23, cI Y 5376 (iF fn))) (e5 : w[q_zero]? = some (A 21, cI Y 5376 (iF fz))) (e6 : w[q_delta]? = some (A 20, cI Y 96 (iF fd))) (e7 : w[q_has]? = some (A 24, cZ Y 336 fh)) (N : xN w.length [qm, q_circuitOf, q_inputs, q_gates, q_now, q_zero, q_delta, q_has]) (hj : j < ma) (h6 : ma ≤ 6) (hc6 : c < 6) (hn16 : n ≤ 16) (hg40 : g ≤ 40) (hco : co j = nI c) (hin : i1 c = nI n) (hga : g1 c = nI g) (hk : k < n) (hx1 : x ≤ 1) : Cf Y mX8_choose 2 [.ref o0, .int (nI j), .int (nI k), .int (nI x)] w (some (.int 1)) [(qm, (o0, cO 8 (mo A (nI 0) su (nI sz) bl (nI ci) (nI ma) pa en wr))), (q_circuitOf, (A 15, cI Y 6 co)), (q_inputs, (A 6, cI Y 6 i1)), (q_gates, (A 7, cI Y 6 g1)), (q_now, (A 23, cI Y 5376 (iF (filN fn (16 * (56 * j + k)) 16 (chG fz fd j k x))))), (q_zero, (A 21, cI Y 5376 (iF fz))), (q_delta, (A 20, cI Y 96 (iF fd))), (q_has, (A 24, cZ Y 336 (filI (upd fh (56 * j + k) 1) (56 * j + n) g 0)))] := by
  refine Ct.intro (T := tX8_choose) (by decide) oX8_choose (Nat.le_of_ble_eq_true rfl) (fun G C B => ?_)
  refine x_lay [(qm, (o0, cO 8 (mo A th su (nI sz) bl (nI ci) (nI ma) pa en wr))), (q_circuitOf, (A 15, cI Y 6 co)), (q_inputs, (A 6, cI Y 6 i1)), (q_gates, (A 7, cI Y 6 g1)), (q_now, (A 23, cI Y 5376 (iF fn))), (q_zero, (A 21, cI Y 5376 (iF fz))), (q_delta, (A 20, cI Y 96 (iF fd))), (q_has, (A 24, cZ Y 336 fh))] (lay_cons e0 (lay_cons e1 (lay_cons e2 (lay_cons e3 (lay_cons e4 (lay_cons e5 (lay_cons e6 (lay_cons e7 lay_nil)))))))) ?_
  refine x_run C 0 2 (pc' := 2) (lv' := [(0, .ref o0), (1, .int (nI j)), (2, .int (nI k)), (3, .int (nI x))]) (st' := [.int 0, .ref o0]) rfl ?_
  refine x_put C 2 rfl pX8_117 N 0 rfl rfl rfl (Nat.le_of_ble_eq_true rfl) (os' := [(qm, (o0, cO 8 (mo A (nI 0) su (nI sz) bl (nI ci) (nI ma) pa en wr))), (q_circuitOf, (A 15, cI Y 6 co)), (q_inputs, (A 6, cI Y 6 i1)), (q_gates, (A 7, cI Y 6 g1)), (q_now, (A 23, cI Y 5376 (iF fn))), (q_zero, (A 21, cI Y 5376 (iF fz))), (q_delta, (A 20, cI Y 96 (iF fd))), (q_has, (A 24, cZ Y 336 fh))]) rfl ?_
  refine x_run C 3 2 (pc' := 7) (lv' := [(0, .ref o0), (1, .int (nI j)), (2, .int (nI k)), (3, .int (nI x))]) (st' := [.int (nI j), .ref o0]) rfl ?_
  refine x_cv C 5 (As := [.int (nI j)]) (rest := []) rfl vX8_230 N 0 rfl rfl (c_X8_isGarbled Y _ o0 A (nI 0) su sz bl ci ma pa en wr j qm (ovl_at 0 N rfl) (N.ov [0] (by decide) rfl) (by first | assumption | omega) (by first | assumption | omega)) rfl rfl (Nat.le_of_ble_eq_true rfl) ⟨Nat.le_of_ble_eq_true rfl, Nat.le_of_ble_eq_true rfl⟩ ⟨Nat.zero_le _, Nat.zero_le _⟩ [0] ⟨rfl, trivial⟩ (os' := [(qm, (o0, cO 8 (mo A (nI 0) su (nI sz) bl (nI ci) (nI ma) pa en wr))), (q_circuitOf, (A 15, cI Y 6 co)), (q_inputs, (A 6, cI Y 6 i1)), (q_gates, (A 7, cI Y 6 g1)), (q_now, (A 23, cI Y 5376 (iF fn))), (q_zero, (A 21, cI Y 5376 (iF fz))), (q_delta, (A 20, cI Y 96 (iF fd))), (q_has, (A 24, cZ Y 336 fh))]) rfl (st' := [.int 1]) rfl ?_
  refine x_st (st' := [.int (nI 1)]) (by simp only [nlit, nI_add, pk_mul]) ?_
  refine x_ifN_eq C 6 (by omega) rfl (tgt := 43) rfl (fun hc1 => absurd hc1 (by omega)) (fun hc1 => ?_)
  refine x_run C 7 3 (pc' := 16) (lv' := [(0, .ref o0), (1, .int (nI j)), (2, .int (nI k)), (3, .int (nI x))]) (st' := [.ref o0, .int 0, .int (nI k)]) rfl ?_
  refine x_get C 10 rfl fX8_28 N 0 rfl (v := .ref (A 6)) rfl ?_
  refine x_run C 11 1 (pc' := 20) (lv' := [(0, .ref o0), (1, .int (nI j)), (2, .int (nI k)), (3, .int (nI x))]) (st' := [.ref o0, .ref (A 6), .int 0, .int (nI k)]) rfl ?_
  refine x_get C 12 rfl fX8_55 N 0 rfl (v := .ref (A 15)) rfl ?_
  refine x_run C 13 1 (pc' := 24) (lv' := [(0, .ref o0), (1, .int (nI j)), (2, .int (nI k)), (3, .int (nI x))]) (st' := [.int (nI j), .ref (A 15), .ref (A 6), .int 0, .int (nI k)]) rfl ?_
  refine x_ialdN C 14 rfl N 1 rfl (by omega) (by omega) ?_
  refine x_st (st' := [.int (nI c), .ref (A 6), .int 0, .int (nI k)]) (by rw [hco]) ?_
  refine x_ialdN C 15 rfl N 2 rfl (by omega) (by omega) ?_
  refine x_st (st' := [.int (nI n), .int 0, .int (nI k)]) (by rw [hin]) ?_
  refine x_run C 16 2 (pc' := 28) (lv' := [(0, .ref o0), (1, .int (nI j)), (2, .int (nI k)), (3, .int (nI x))]) (st' := [.int ((nI n) - 1), .int 0, .int (nI k)]) rfl ?_
  refine x_st (st' := [.int (nI (n - 1)), .int 0, .int (nI k)]) (by simp only [nlit, nI_add, pk_mul, pk_sub (show 1 ≤ n by omega)]) ?_
  refine x_st (st' := [.int (nI (n - 1)), .int (nI 0), .int (nI k)]) (by simp only [nlit, nI_add, pk_mul]) ?_
  refine x_cs C 18 (As := [.int (nI k), .int (nI 0), .int (nI (n - 1))]) (rest := []) rfl vX8_135 N (c_X8_in Y _ k 0 (n - 1)    (by first | assumption | omega) (by first | assumption | omega) (by first | assumption | omega)) rfl rfl (Nat.le_of_ble_eq_true rfl) ⟨Nat.le_of_ble_eq_true rfl, Nat.le_of_ble_eq_true rfl⟩ ⟨Nat.zero_le _, Nat.zero_le _⟩ [] trivial (os' := [(qm, (o0, cO 8 (mo A (nI 0) su (nI sz) bl (nI ci) (nI ma) pa en wr))), (q_circuitOf, (A 15, cI Y 6 co)), (q_inputs, (A 6, cI Y 6 i1)), (q_gates, (A 7, cI Y 6 g1)), (q_now, (A 23, cI Y 5376 (iF fn))), (q_zero, (A 21, cI Y 5376 (iF fz))), (q_delta, (A 20, cI Y 96 (iF fd))), (q_has, (A 24, cZ Y 336 fh))]) rfl (st' := [.int 1]) rfl ?_
  refine x_st (st' := [.int (nI 1)]) (by simp only [nlit, nI_add, pk_mul]) ?_
  refine x_ifN_eq C 19 (by omega) rfl (tgt := 43) rfl (fun hc2 => absurd hc2 (by omega)) (fun hc2 => ?_)
  refine x_run C 20 3 (pc' := 37) (lv' := [(0, .ref o0), (1, .int (nI j)), (2, .int (nI k)), (3, .int (nI x))]) (st' := [.int 1, .int 0, .int (nI x)]) rfl ?_
  refine x_st (st' := [.int (nI 1), .int (nI 0), .int (nI x)]) (by simp only [nlit, nI_add, pk_mul]) ?_
  refine x_cs C 23 (As := [.int (nI x), .int (nI 0), .int (nI 1)]) (rest := []) rfl vX8_135 N (c_X8_in Y _ x 0 1    (by first | assumption | omega) (by first | assumption | omega) (by first | assumption | omega)) rfl rfl (Nat.le_of_ble_eq_true rfl) ⟨Nat.le_of_ble_eq_true rfl, Nat.le_of_ble_eq_true rfl⟩ ⟨Nat.zero_le _, Nat.zero_le _⟩ [] trivial (os' := [(qm, (o0, cO 8 (mo A (nI 0) su (nI sz) bl (nI ci) (nI ma) pa en wr))), (q_circuitOf, (A 15, cI Y 6 co)), (q_inputs, (A 6, cI Y 6 i1)), (q_gates, (A 7, cI Y 6 g1)), (q_now, (A 23, cI Y 5376 (iF fn))), (q_zero, (A 21, cI Y 5376 (iF fz))), (q_delta, (A 20, cI Y 96 (iF fd))), (q_has, (A 24, cZ Y 336 fh))]) rfl (st' := [.int 1]) rfl ?_
  refine x_st (st' := [.int (nI 1)]) (by simp only [nlit, nI_add, pk_mul]) ?_
  refine x_ifN_ne C 24 (by omega) rfl (tgt := 45) rfl (fun hc3 => ?_) (fun hc3 => absurd hc3 (by omega))
  refine x_run C 27 4 (pc' := 49) (lv' := [(0, .ref o0), (1, .int (nI j)), (2, .int (nI k)), (3, .int (nI x))]) (st' := [.int (nI x), .int (nI k), .int (nI j), .ref o0]) rfl ?_
  refine x_cv C 31 (As := [.int (nI j), .int (nI k), .int (nI x)]) (rest := []) rfl vX8_237 N 0 rfl rfl (c_X8_chooses Y _ o0 A (nI 0) su sz bl ci ma pa en wr fn fz fd fh j k x qm q_now q_zero q_delta q_has (ovl_at 0 N rfl) (ovl_at 4 N rfl) (ovl_at 5 N rfl) (ovl_at 6 N rfl) (ovl_at 7 N rfl) (N.ov [0, 4, 5, 6, 7] (by decide) rfl) (by first | assumption | omega) (by first | assumption | omega) (by first | assumption | omega)) rfl rfl (Nat.le_of_ble_eq_true rfl) ⟨Nat.le_of_ble_eq_true rfl, Nat.le_of_ble_eq_true rfl⟩ ⟨Nat.zero_le _, Nat.zero_le _⟩ [0, 4, 5, 6, 7] ⟨rfl, rfl, rfl, rfl, rfl, trivial⟩ (os' := [(qm, (o0, cO 8 (mo A (nI 0) su (nI sz) bl (nI ci) (nI ma) pa en wr))), (q_circuitOf, (A 15, cI Y 6 co)), (q_inputs, (A 6, cI Y 6 i1)), (q_gates, (A 7, cI Y 6 g1)), (q_now, (A 23, cI Y 5376 (iF (filN fn (16 * (56 * j + k)) 16 (chG fz fd j k x))))), (q_zero, (A 21, cI Y 5376 (iF fz))), (q_delta, (A 20, cI Y 96 (iF fd))), (q_has, (A 24, cZ Y 336 (upd fh (56 * j + k) 1)))]) rfl (st' := []) rfl ?_
  refine x_run C 32 2 (pc' := 54) (lv' := [(0, .ref o0), (1, .int (nI j)), (2, .int (nI k)), (3, .int (nI x))]) (st' := [.int (nI j), .ref o0]) rfl ?_
  refine x_cv C 34 (As := [.int (nI j)]) (rest := []) rfl vX8_241 N 0 rfl rfl (c_X8_drops Y _ o0 A (nI 0) su sz bl ci ma pa en wr co i1 g1 (upd fh (56 * j + k) 1) j c n g qm q_circuitOf q_inputs q_gates q_has (ovl_at 0 N rfl) (ovl_at 1 N rfl) (ovl_at 2 N rfl) (ovl_at 3 N rfl) (ovl_at 7 N rfl) (N.ov [0, 1, 2, 3, 7] (by decide) rfl) (by first | assumption | omega) (by first | assumption | omega) (by first | assumption | omega) (by first | assumption | omega) (by first | assumption | omega) (by first | assumption | omega) (by first | assumption | omega)) rfl rfl (Nat.le_of_ble_eq_true rfl) ⟨Nat.le_of_ble_eq_true rfl, Nat.le_of_ble_eq_true rfl⟩ ⟨Nat.zero_le _, Nat.zero_le _⟩ [0, 1, 2, 3, 7] ⟨rfl, rfl, rfl, rfl, rfl, trivial⟩ (os' := [(qm, (o0, cO 8 (mo A (nI 0) su (nI sz) bl (nI ci) (nI ma) pa en wr))), (q_circuitOf, (A 15, cI Y 6 co)), (q_inputs, (A 6, cI Y 6 i1)), (q_gates, (A 7, cI Y 6 g1)), (q_now, (A 23, cI Y 5376 (iF (filN fn (16 * (56 * j + k)) 16 (chG fz fd j k x))))), (q_zero, (A 21, cI Y 5376 (iF fz))), (q_delta, (A 20, cI Y 96 (iF fd))), (q_has, (A 24, cZ Y 336 (filI (upd fh (56 * j + k) 1) (56 * j + n) g 0)))]) rfl (st' := []) rfl ?_
  refine x_run C 35 1 (pc' := 58) (lv' := [(0, .ref o0), (1, .int (nI j)), (2, .int (nI k)), (3, .int (nI x))]) (st' := [.int 1]) rfl ?_
  exact x_iret C B rfl 36 rfl (Nat.zero_le _) (Nat.zero_le _) ⟨by first | rfl | (simp only [nlit, nI_add, pk_mul]; done), by first | rfl | (simp only [nlit, nI_add, pk_mul]; done)⟩
set_option maxHeartbeats 4000000 in
set_option maxRecDepth 100000 in
theorem c_X8_encodeF (Y : xD) (w : va_W) (o0 : Nat) (A : Nat → Nat) (th : Int32) (su : Int32) (sz : Nat) (bl : Int32) (ci : Nat) (ma : Nat) (pa : Int32) (en : Int32) (wr : Int32) (x : Int32) (x0 : Int32) (qm : Nat) (e0 : w[qm]? = some (o0, cO 8 (mo A th su (nI sz) bl (nI ci) (nI ma) pa en wr))) (N : xN w.length [qm]) (hx : x < 0 ∨ nI ma ≤ x) (h6 : ma ≤ 6) : Cf Y mX8_encode 2 [.ref o0, .int x, .int x0] w (some (.int (-1))) [(qm, (o0, cO 8 (mo A (nI 0) su (nI sz) bl (nI ci) (nI ma) pa en wr)))] := by
  refine Ct.intro (T := tX8_encode) (by decide) oX8_encode (Nat.le_of_ble_eq_true rfl) (fun G C B => ?_)
  refine x_lay [(qm, (o0, cO 8 (mo A th su (nI sz) bl (nI ci) (nI ma) pa en wr)))] (lay_cons e0 lay_nil) ?_
  refine x_run C 0 2 (pc' := 2) (lv' := [(0, .ref o0), (1, .int x), (2, .int x0)]) (st' := [.int 0, .ref o0]) rfl ?_
  refine x_put C 2 rfl pX8_117 N 0 rfl rfl rfl (Nat.le_of_ble_eq_true rfl) (os' := [(qm, (o0, cO 8 (mo A (nI 0) su (nI sz) bl (nI ci) (nI ma) pa en wr)))]) rfl ?_
  refine x_run C 3 2 (pc' := 7) (lv' := [(0, .ref o0), (1, .int x), (2, .int x0)]) (st' := [.int x, .ref o0]) rfl ?_
  refine x_cv C 5 (As := [.int x]) (rest := []) rfl vX8_230 N 0 rfl rfl (c_X8_isGarbledF Y _ o0 A (nI 0) su sz bl ci ma pa en wr x qm (ovl_at 0 N rfl) (N.ov [0] (by decide) rfl) hx (by first | assumption | omega)) rfl rfl (Nat.le_of_ble_eq_true rfl) ⟨Nat.le_of_ble_eq_true rfl, Nat.le_of_ble_eq_true rfl⟩ ⟨Nat.zero_le _, Nat.zero_le _⟩ [0] ⟨rfl, trivial⟩ (os' := [(qm, (o0, cO 8 (mo A (nI 0) su (nI sz) bl (nI ci) (nI ma) pa en wr)))]) rfl (st' := [.int 0]) rfl ?_
  refine x_st (st' := [.int (nI 0)]) (by simp only [nlit, nI_add, pk_mul]) ?_
  refine x_ifN_ne C 6 (by omega) rfl (tgt := 15) rfl (fun hc1 => absurd hc1 (by omega)) (fun hc1 => ?_)
  refine x_run C 7 1 (pc' := 14) (lv' := [(0, .ref o0), (1, .int x), (2, .int x0)]) (st' := [.int (-1)]) rfl ?_
  exact x_iret C B rfl 8 rfl (Nat.zero_le _) (Nat.zero_le _) ⟨by first | rfl | (simp only [nlit, nI_add, pk_mul]; done), by first | rfl | (simp only [nlit, nI_add, pk_mul]; done)⟩
set_option maxHeartbeats 4000000 in
set_option maxRecDepth 100000 in
theorem c_X8_encode (Y : xD) (w : va_W) (o0 : Nat) (A : Nat → Nat) (th : Int32) (su : Int32) (sz : Nat) (bl : Int32) (ci : Nat) (ma : Nat) (pa : Int32) (en : Int32) (wr : Int32) (co : Nat → Int32) (i1 : Nat → Int32) (g1 : Nat → Int32) (fn : Nat → Nat) (fz : Nat → Nat) (fd : Nat → Nat) (fh : Nat → Int32) (j : Nat) (c : Nat) (n : Nat) (g : Nat) (x : Int32) (qm q_circuitOf q_inputs q_gates q_now q_zero q_delta q_has : Nat) (e0 : w[qm]? = some (o0, cO 8 (mo A th su (nI sz) bl (nI ci) (nI ma) pa en wr))) (e1 : w[q_circuitOf]? = some (A 15, cI Y 6 co)) (e2 : w[q_inputs]? = some (A 6, cI Y 6 i1)) (e3 : w[q_gates]? = some (A 7, cI Y 6 g1)) (e4 : w[q_now]? = some (A 23, cI Y 5376 (iF fn))) (e5 : w[q_zero]? = some (A 21, cI Y 5376 (iF fz))) (e6 : w[q_delta]? = some (A 20, cI Y 96 (iF fd))) (e7 : w[q_has]? = some (A 24, cZ Y 336 fh)) (N : xN w.length [qm, q_circuitOf, q_inputs, q_gates, q_now, q_zero, q_delta, q_has]) (hj : j < ma) (h6 : ma ≤ 6) (hc6 : c < 6) (hn16 : n ≤ 16) (hg40 : g ≤ 40) (hco : co j = nI c) (hin : i1 c = nI n) (hga : g1 c = nI g) : Cf Y mX8_encode 2 [.ref o0, .int (nI j), .int x] w (some (.int (nI n))) [(qm, (o0, cO 8 (mo A (nI 0) su (nI sz) bl (nI ci) (nI ma) pa en wr))), (q_circuitOf, (A 15, cI Y 6 co)), (q_inputs, (A 6, cI Y 6 i1)), (q_gates, (A 7, cI Y 6 g1)), (q_now, (A 23, cI Y 5376 (iF (enN fn fz fd j x n)))), (q_zero, (A 21, cI Y 5376 (iF fz))), (q_delta, (A 20, cI Y 96 (iF fd))), (q_has, (A 24, cZ Y 336 (filI (filI fh (56 * j) n 1) (56 * j + n) g 0)))] := by
  refine Ct.intro (T := tX8_encode) (by decide) oX8_encode (Nat.le_of_ble_eq_true rfl) (fun G C B => ?_)
  refine x_lay [(qm, (o0, cO 8 (mo A th su (nI sz) bl (nI ci) (nI ma) pa en wr))), (q_circuitOf, (A 15, cI Y 6 co)), (q_inputs, (A 6, cI Y 6 i1)), (q_gates, (A 7, cI Y 6 g1)), (q_now, (A 23, cI Y 5376 (iF fn))), (q_zero, (A 21, cI Y 5376 (iF fz))), (q_delta, (A 20, cI Y 96 (iF fd))), (q_has, (A 24, cZ Y 336 fh))] (lay_cons e0 (lay_cons e1 (lay_cons e2 (lay_cons e3 (lay_cons e4 (lay_cons e5 (lay_cons e6 (lay_cons e7 lay_nil)))))))) ?_
  refine x_run C 0 2 (pc' := 2) (lv' := [(0, .ref o0), (1, .int (nI j)), (2, .int x)]) (st' := [.int 0, .ref o0]) rfl ?_
  refine x_put C 2 rfl pX8_117 N 0 rfl rfl rfl (Nat.le_of_ble_eq_true rfl) (os' := [(qm, (o0, cO 8 (mo A (nI 0) su (nI sz) bl (nI ci) (nI ma) pa en wr))), (q_circuitOf, (A 15, cI Y 6 co)), (q_inputs, (A 6, cI Y 6 i1)), (q_gates, (A 7, cI Y 6 g1)), (q_now, (A 23, cI Y 5376 (iF fn))), (q_zero, (A 21, cI Y 5376 (iF fz))), (q_delta, (A 20, cI Y 96 (iF fd))), (q_has, (A 24, cZ Y 336 fh))]) rfl ?_
  refine x_run C 3 2 (pc' := 7) (lv' := [(0, .ref o0), (1, .int (nI j)), (2, .int x)]) (st' := [.int (nI j), .ref o0]) rfl ?_
  refine x_cv C 5 (As := [.int (nI j)]) (rest := []) rfl vX8_230 N 0 rfl rfl (c_X8_isGarbled Y _ o0 A (nI 0) su sz bl ci ma pa en wr j qm (ovl_at 0 N rfl) (N.ov [0] (by decide) rfl) (by first | assumption | omega) (by first | assumption | omega)) rfl rfl (Nat.le_of_ble_eq_true rfl) ⟨Nat.le_of_ble_eq_true rfl, Nat.le_of_ble_eq_true rfl⟩ ⟨Nat.zero_le _, Nat.zero_le _⟩ [0] ⟨rfl, trivial⟩ (os' := [(qm, (o0, cO 8 (mo A (nI 0) su (nI sz) bl (nI ci) (nI ma) pa en wr))), (q_circuitOf, (A 15, cI Y 6 co)), (q_inputs, (A 6, cI Y 6 i1)), (q_gates, (A 7, cI Y 6 g1)), (q_now, (A 23, cI Y 5376 (iF fn))), (q_zero, (A 21, cI Y 5376 (iF fz))), (q_delta, (A 20, cI Y 96 (iF fd))), (q_has, (A 24, cZ Y 336 fh))]) rfl (st' := [.int 1]) rfl ?_
  refine x_st (st' := [.int (nI 1)]) (by simp only [nlit, nI_add, pk_mul]) ?_
  refine x_ifN_ne C 6 (by omega) rfl (tgt := 15) rfl (fun hc1 => ?_) (fun hc1 => absurd hc1 (by omega))
  refine x_run C 9 1 (pc' := 16) (lv' := [(0, .ref o0), (1, .int (nI j)), (2, .int x)]) (st' := [.ref o0]) rfl ?_
  refine x_get C 10 rfl fX8_28 N 0 rfl (v := .ref (A 6)) rfl ?_
  refine x_run C 11 1 (pc' := 20) (lv' := [(0, .ref o0), (1, .int (nI j)), (2, .int x)]) (st' := [.ref o0, .ref (A 6)]) rfl ?_
  refine x_get C 12 rfl fX8_55 N 0 rfl (v := .ref (A 15)) rfl ?_
  refine x_run C 13 1 (pc' := 24) (lv' := [(0, .ref o0), (1, .int (nI j)), (2, .int x)]) (st' := [.int (nI j), .ref (A 15), .ref (A 6)]) rfl ?_
  refine x_ialdN C 14 rfl N 1 rfl (by omega) (by omega) ?_
  refine x_st (st' := [.int (nI c), .ref (A 6)]) (by rw [hco]) ?_
  refine x_ialdN C 15 rfl N 2 rfl (by omega) (by omega) ?_
  refine x_st (st' := [.int (nI n)]) (by rw [hin]) ?_
  refine x_run C 16 3 (pc' := 30) (lv' := [(4, .int 0), (3, .int (nI n)), (0, .ref o0), (1, .int (nI j)), (2, .int x)]) (st' := []) rfl ?_
  have L30 : ∀ k : Nat, 0 ≤ k → k ≤ n → X G Y 0 0 30 [(0, .ref o0), (1, .int (nI j)), (2, .int x), (3, .int (nI n)), (4, .int (nI k))] [] (ovl w [(qm, (o0, cO 8 (mo A (nI 0) su (nI sz) bl (nI ci) (nI ma) pa en wr))), (q_circuitOf, (A 15, cI Y 6 co)), (q_inputs, (A 6, cI Y 6 i1)), (q_gates, (A 7, cI Y 6 g1)), (q_now, (A 23, cI Y 5376 (iF (enN fn fz fd j x k)))), (q_zero, (A 21, cI Y 5376 (iF fz))), (q_delta, (A 20, cI Y 96 (iF fd))), (q_has, (A 24, cZ Y 336 (filI fh (56 * j) k 1)))]) := by
    intro k lo30 hi30
    revert lo30
    refine x_up (fun k => 0 ≤ k → X G Y 0 0 30 [(0, .ref o0), (1, .int (nI j)), (2, .int x), (3, .int (nI n)), (4, .int (nI k))] [] (ovl w [(qm, (o0, cO 8 (mo A (nI 0) su (nI sz) bl (nI ci) (nI ma) pa en wr))), (q_circuitOf, (A 15, cI Y 6 co)), (q_inputs, (A 6, cI Y 6 i1)), (q_gates, (A 7, cI Y 6 g1)), (q_now, (A 23, cI Y 5376 (iF (enN fn fz fd j x k)))), (q_zero, (A 21, cI Y 5376 (iF fz))), (q_delta, (A 20, cI Y 96 (iF fd))), (q_has, (A 24, cZ Y 336 (filI fh (56 * j) k 1)))])) n ?_ ?_ k hi30
    · intro lo30
      refine x_run C 19 2 (pc' := 33) (lv' := [(0, .ref o0), (1, .int (nI j)), (2, .int x), (3, .int (nI n)), (4, .int (nI n))]) (st' := [.int (nI n), .int (nI n)]) rfl ?_
      refine x_icmpN_ge C 21 (by omega) (by omega) rfl (tgt := 55) rfl (fun hc2 => ?_) (fun hc2 => ?_)
      · refine x_run C 33 2 (pc' := 57) (lv' := [(0, .ref o0), (1, .int (nI j)), (2, .int x), (3, .int (nI n)), (4, .int (nI n))]) (st' := [.int (nI j), .ref o0]) rfl ?_
        refine x_cv C 35 (As := [.int (nI j)]) (rest := []) rfl vX8_241 N 0 rfl rfl (c_X8_drops Y _ o0 A (nI 0) su sz bl ci ma pa en wr co i1 g1 (filI fh (56 * j) n 1) j c n g qm q_circuitOf q_inputs q_gates q_has (ovl_at 0 N rfl) (ovl_at 1 N rfl) (ovl_at 2 N rfl) (ovl_at 3 N rfl) (ovl_at 7 N rfl) (N.ov [0, 1, 2, 3, 7] (by decide) rfl) (by first | assumption | omega) (by first | assumption | omega) (by first | assumption | omega) (by first | assumption | omega) (by first | assumption | omega) (by first | assumption | omega) (by first | assumption | omega)) rfl rfl (Nat.le_of_ble_eq_true rfl) ⟨Nat.le_of_ble_eq_true rfl, Nat.le_of_ble_eq_true rfl⟩ ⟨Nat.zero_le _, Nat.zero_le _⟩ [0, 1, 2, 3, 7] ⟨rfl, rfl, rfl, rfl, rfl, trivial⟩ (os' := [(qm, (o0, cO 8 (mo A (nI 0) su (nI sz) bl (nI ci) (nI ma) pa en wr))), (q_circuitOf, (A 15, cI Y 6 co)), (q_inputs, (A 6, cI Y 6 i1)), (q_gates, (A 7, cI Y 6 g1)), (q_now, (A 23, cI Y 5376 (iF (enN fn fz fd j x n)))), (q_zero, (A 21, cI Y 5376 (iF fz))), (q_delta, (A 20, cI Y 96 (iF fd))), (q_has, (A 24, cZ Y 336 (filI (filI fh (56 * j) n 1) (56 * j + n) g 0)))]) rfl (st' := []) rfl ?_
        refine x_run C 36 1 (pc' := 61) (lv' := [(0, .ref o0), (1, .int (nI j)), (2, .int x), (3, .int (nI n)), (4, .int (nI n))]) (st' := [.int (nI n)]) rfl ?_
        exact x_iret C B rfl 37 rfl (Nat.zero_le _) (Nat.zero_le _) ⟨by first | contradiction | (simp only [nlit]; done) | (simp only [nlit]; simp only [nlit, nI_add, pk_mul]; done) | (simp only [nlit, nI_add, pk_mul]; done) | rfl | (simp only [nlit]; rfl) | (simp only [nlit, nI_add, pk_mul]; rfl), by first | contradiction | (simp only [nlit]; done) | (simp only [nlit]; simp only [nlit, nI_add, pk_mul]; done) | (simp only [nlit, nI_add, pk_mul]; done) | rfl | (simp only [nlit]; rfl) | (simp only [nlit, nI_add, pk_mul]; rfl)⟩
      · exact absurd hc2 (by omega)
    · intro k hi30 ih30 lo30
      refine x_run C 19 2 (pc' := 33) (lv' := [(0, .ref o0), (1, .int (nI j)), (2, .int x), (3, .int (nI n)), (4, .int (nI k))]) (st' := [.int (nI n), .int (nI k)]) rfl ?_
      refine x_icmpN_ge C 21 (by omega) (by omega) rfl (tgt := 55) rfl (fun hc3 => ?_) (fun hc3 => ?_)
      · exact absurd hc3 (by omega)
      · refine x_run C 22 8 (pc' := 46) (lv' := [(0, .ref o0), (1, .int (nI j)), (2, .int x), (3, .int (nI n)), (4, .int (nI k))]) (st' := [.int ((jshr x (nI k)) &&& 1), .int (nI k), .int (nI j), .ref o0]) rfl ?_
        refine x_st (st' := [.int (nI (bq x k)), .int (nI k), .int (nI j), .ref o0]) (by rw [bit_sh x (by omega)]; rfl) ?_
        refine x_cv C 30 (As := [.int (nI j), .int (nI k), .int (nI (bq x k))]) (rest := []) rfl vX8_237 N 0 rfl rfl (c_X8_chooses Y _ o0 A (nI 0) su sz bl ci ma pa en wr (enN fn fz fd j x k) fz fd (filI fh (56 * j) k 1) j k (bq x k) qm q_now q_zero q_delta q_has (ovl_at 0 N rfl) (ovl_at 4 N rfl) (ovl_at 5 N rfl) (ovl_at 6 N rfl) (ovl_at 7 N rfl) (N.ov [0, 4, 5, 6, 7] (by decide) rfl) (by first | assumption | omega) (by first | assumption | omega) (bq_le _ _)) rfl rfl (Nat.le_of_ble_eq_true rfl) ⟨Nat.le_of_ble_eq_true rfl, Nat.le_of_ble_eq_true rfl⟩ ⟨Nat.zero_le _, Nat.zero_le _⟩ [0, 4, 5, 6, 7] ⟨rfl, rfl, rfl, rfl, rfl, trivial⟩ (os' := [(qm, (o0, cO 8 (mo A (nI 0) su (nI sz) bl (nI ci) (nI ma) pa en wr))), (q_circuitOf, (A 15, cI Y 6 co)), (q_inputs, (A 6, cI Y 6 i1)), (q_gates, (A 7, cI Y 6 g1)), (q_now, (A 23, cI Y 5376 (iF (filN (enN fn fz fd j x k) (16 * (56 * j + k)) 16 (chG fz fd j k (bq x k)))))), (q_zero, (A 21, cI Y 5376 (iF fz))), (q_delta, (A 20, cI Y 96 (iF fd))), (q_has, (A 24, cZ Y 336 (upd (filI fh (56 * j) k 1) (56 * j + k) 1)))]) rfl (st' := []) rfl ?_
        refine x_run C 31 2 (pc' := 30) (lv' := [(4, .int ((nI k) + 1)), (0, .ref o0), (1, .int (nI j)), (2, .int x), (3, .int (nI n))]) (st' := []) rfl ?_
        refine x_sub (lv' := [(0, .ref o0), (1, .int (nI j)), (2, .int x), (3, .int (nI n)), (4, .int ((nI k) + 1))]) [1, 2, 3, 4, 0] rfl ?_
        refine x_loc (lv' := [(0, .ref o0), (1, .int (nI j)), (2, .int x), (3, .int (nI n)), (4, .int (nI (k + 1)))]) (by simp only [nlit, nI_add, pk_mul]) ?_
        refine x_ov (os' := [(qm, (o0, cO 8 (mo A (nI 0) su (nI sz) bl (nI ci) (nI ma) pa en wr))), (q_circuitOf, (A 15, cI Y 6 co)), (q_inputs, (A 6, cI Y 6 i1)), (q_gates, (A 7, cI Y 6 g1)), (q_now, (A 23, cI Y 5376 (iF (enN fn fz fd j x (k + 1))))), (q_zero, (A 21, cI Y 5376 (iF fz))), (q_delta, (A 20, cI Y 96 (iF fd))), (q_has, (A 24, cZ Y 336 (filI fh (56 * j) (k + 1) 1)))]) (by rw [← filI_s]; rfl) ?_
        exact ih30 (by omega)
  refine x_sub (lv' := [(0, .ref o0), (1, .int (nI j)), (2, .int x), (3, .int (nI n)), (4, .int 0)]) [2, 3, 4, 1, 0] rfl ?_
  refine x_loc (lv' := [(0, .ref o0), (1, .int (nI j)), (2, .int x), (3, .int (nI n)), (4, .int (nI 0))]) (by simp only [nlit, nI_add, pk_mul]) ?_
  refine x_ov (os' := [(qm, (o0, cO 8 (mo A (nI 0) su (nI sz) bl (nI ci) (nI ma) pa en wr))), (q_circuitOf, (A 15, cI Y 6 co)), (q_inputs, (A 6, cI Y 6 i1)), (q_gates, (A 7, cI Y 6 g1)), (q_now, (A 23, cI Y 5376 (iF (enN fn fz fd j x 0)))), (q_zero, (A 21, cI Y 5376 (iF fz))), (q_delta, (A 20, cI Y 96 (iF fd))), (q_has, (A 24, cZ Y 336 (filI fh (56 * j) 0 1)))]) (by rw [filI_0]; rfl) ?_
  exact L30 0 (Nat.le_refl _) (by omega)
set_option maxHeartbeats 4000000 in
set_option maxRecDepth 100000 in
theorem c_X8_layFM (Y : xD) (w : va_W) (o0 : Nat) (A : Nat → Nat) (th : Int32) (su : Int32) (sz : Nat) (bl : Int32) (ci : Nat) (ma : Nat) (pa : Int32) (en : Int32) (wr : Int32) (x : Int32) (y_ : Int32) (qm : Nat) (e0 : w[qm]? = some (o0, cO 8 (mo A th su (nI sz) bl (nI ci) (nI ma) pa en wr))) (N : xN w.length [qm]) (hx : x < 0 ∨ nI ma ≤ x) (h6 : ma ≤ 6) : Cf Y mX8_lay 2 [.ref o0, .int x, .int y_, .int (-1)] w (some (.int (-1))) [(qm, (o0, cO 8 (mo A (nI 0) su (nI sz) bl (nI ci) (nI ma) pa en wr)))] := by
  refine Ct.intro (T := tX8_lay) (by decide) oX8_lay (Nat.le_of_ble_eq_true rfl) (fun G C B => ?_)
  refine x_lay [(qm, (o0, cO 8 (mo A th su (nI sz) bl (nI ci) (nI ma) pa en wr)))] (lay_cons e0 lay_nil) ?_
  refine x_run C 0 2 (pc' := 2) (lv' := [(0, .ref o0), (1, .int x), (2, .int y_), (3, .int (-1))]) (st' := [.int 0, .ref o0]) rfl ?_
  refine x_put C 2 rfl pX8_117 N 0 rfl rfl rfl (Nat.le_of_ble_eq_true rfl) (os' := [(qm, (o0, cO 8 (mo A (nI 0) su (nI sz) bl (nI ci) (nI ma) pa en wr)))]) rfl ?_
  refine x_run C 3 2 (pc' := 7) (lv' := [(0, .ref o0), (1, .int x), (2, .int y_), (3, .int (-1))]) (st' := [.int (-1), .int (-1)]) rfl ?_
  refine x_icmp_ne C 5 rfl (tgt := 14) rfl (fun hc1 => ?_) (fun hc1 => ?_)
  · exact absurd rfl hc1
  · refine x_run C 6 2 (pc' := 18) (lv' := [(0, .ref o0), (1, .int x), (2, .int y_), (3, .int (-1))]) (st' := [.int 0]) rfl ?_
    refine x_run C 10 3 (pc' := 22) (lv' := [(4, .int 0), (0, .ref o0), (1, .int x), (2, .int y_), (3, .int (-1))]) (st' := [.int x, .ref o0]) rfl ?_
    refine x_cv C 13 (As := [.int x]) (rest := []) rfl vX8_230 N 0 rfl rfl (c_X8_isGarbledF Y _ o0 A (nI 0) su sz bl ci ma pa en wr x qm (ovl_at 0 N rfl) (N.ov [0] (by decide) rfl) hx (by first | assumption | omega)) rfl rfl (Nat.le_of_ble_eq_true rfl) ⟨Nat.le_of_ble_eq_true rfl, Nat.le_of_ble_eq_true rfl⟩ ⟨Nat.zero_le _, Nat.zero_le _⟩ [0] ⟨rfl, trivial⟩ (os' := [(qm, (o0, cO 8 (mo A (nI 0) su (nI sz) bl (nI ci) (nI ma) pa en wr)))]) rfl (st' := [.int 0]) rfl ?_
    refine x_st (st' := [.int (nI 0)]) (by simp only [nlit, nI_add, pk_mul]) ?_
    refine x_ifN_eq C 14 (by omega) rfl (tgt := 58) rfl (fun hc2 => ?_) (fun hc2 => absurd hc2 (by omega))
    refine x_run C 33 1 (pc' := 59) (lv' := [(4, .int 0), (0, .ref o0), (1, .int x), (2, .int y_), (3, .int (-1))]) (st' := [.int (-1)]) rfl ?_
    exact x_iret C B rfl 34 rfl (Nat.zero_le _) (Nat.zero_le _) ⟨by first | contradiction | (simp only [if_pos hc1]; done) | (simp only [if_pos hc1]; simp only [nlit, nI_add, pk_mul]; done) | (simp only [if_pos hc1, nlit, nI_add, pk_mul]; done) | rfl | (simp only [if_pos hc1]; rfl) | (simp only [if_pos hc1, nlit, nI_add, pk_mul]; rfl), by first | contradiction | (simp only [if_pos hc1]; done) | (simp only [if_pos hc1]; simp only [nlit, nI_add, pk_mul]; done) | (simp only [if_pos hc1, nlit, nI_add, pk_mul]; done) | rfl | (simp only [if_pos hc1]; rfl) | (simp only [if_pos hc1, nlit, nI_add, pk_mul]; rfl)⟩
set_option maxHeartbeats 4000000 in
set_option maxRecDepth 100000 in
theorem c_X8_layF (Y : xD) (w : va_W) (o0 : Nat) (A : Nat → Nat) (th : Int32) (su : Int32) (sz : Nat) (bl : Int32) (ci : Nat) (ma : Nat) (pa : Int32) (en : Int32) (wr : Int32) (x : Int32) (y_ : Int32) (w_ : Int32) (qm : Nat) (e0 : w[qm]? = some (o0, cO 8 (mo A th su (nI sz) bl (nI ci) (nI ma) pa en wr))) (N : xN w.length [qm]) (hx : x < 0 ∨ nI ma ≤ x) (h6 : ma ≤ 6) (hh1 : ¬ w_ = -1) : Cf Y mX8_lay 2 [.ref o0, .int x, .int y_, .int w_] w (some (.int (-1))) [(qm, (o0, cO 8 (mo A (nI 0) su (nI 0) bl (nI ci) (nI ma) pa en wr)))] := by
  refine Ct.intro (T := tX8_lay) (by decide) oX8_lay (Nat.le_of_ble_eq_true rfl) (fun G C B => ?_)
  refine x_lay [(qm, (o0, cO 8 (mo A th su (nI sz) bl (nI ci) (nI ma) pa en wr)))] (lay_cons e0 lay_nil) ?_
  refine x_run C 0 2 (pc' := 2) (lv' := [(0, .ref o0), (1, .int x), (2, .int y_), (3, .int w_)]) (st' := [.int 0, .ref o0]) rfl ?_
  refine x_put C 2 rfl pX8_117 N 0 rfl rfl rfl (Nat.le_of_ble_eq_true rfl) (os' := [(qm, (o0, cO 8 (mo A (nI 0) su (nI sz) bl (nI ci) (nI ma) pa en wr)))]) rfl ?_
  refine x_run C 3 2 (pc' := 7) (lv' := [(0, .ref o0), (1, .int x), (2, .int y_), (3, .int w_)]) (st' := [.int (-1), .int w_]) rfl ?_
  refine x_icmp_ne C 5 rfl (tgt := 14) rfl (fun hc1 => ?_) (fun hc1 => ?_)
  · refine x_run C 8 1 (pc' := 15) (lv' := [(0, .ref o0), (1, .int x), (2, .int y_), (3, .int w_)]) (st' := [.ref o0]) rfl ?_
    refine x_cv C 9 (As := []) (rest := []) rfl vX8_144 N 0 rfl rfl (c_X8_uses Y _ o0 A (nI 0) su sz bl ci ma pa en wr qm (ovl_at 0 N rfl) (N.ov [0] (by decide) rfl) ) rfl rfl (Nat.le_of_ble_eq_true rfl) ⟨Nat.le_of_ble_eq_true rfl, Nat.le_of_ble_eq_true rfl⟩ ⟨Nat.zero_le _, Nat.zero_le _⟩ [0] ⟨rfl, trivial⟩ (os' := [(qm, (o0, cO 8 (mo A (nI 0) su (nI 0) bl (nI ci) (nI ma) pa en wr)))]) rfl (st' := [.int (nI sz)]) rfl ?_
    refine x_run C 10 3 (pc' := 22) (lv' := [(4, .int (nI sz)), (0, .ref o0), (1, .int x), (2, .int y_), (3, .int w_)]) (st' := [.int x, .ref o0]) rfl ?_
    refine x_cv C 13 (As := [.int x]) (rest := []) rfl vX8_230 N 0 rfl rfl (c_X8_isGarbledF Y _ o0 A (nI 0) su 0 bl ci ma pa en wr x qm (ovl_at 0 N rfl) (N.ov [0] (by decide) rfl) hx (by first | assumption | omega)) rfl rfl (Nat.le_of_ble_eq_true rfl) ⟨Nat.le_of_ble_eq_true rfl, Nat.le_of_ble_eq_true rfl⟩ ⟨Nat.zero_le _, Nat.zero_le _⟩ [0] ⟨rfl, trivial⟩ (os' := [(qm, (o0, cO 8 (mo A (nI 0) su (nI 0) bl (nI ci) (nI ma) pa en wr)))]) rfl (st' := [.int 0]) rfl ?_
    refine x_st (st' := [.int (nI 0)]) (by simp only [nlit, nI_add, pk_mul]) ?_
    refine x_ifN_eq C 14 (by omega) rfl (tgt := 58) rfl (fun hc2 => ?_) (fun hc2 => absurd hc2 (by omega))
    refine x_run C 33 1 (pc' := 59) (lv' := [(4, .int (nI sz)), (0, .ref o0), (1, .int x), (2, .int y_), (3, .int w_)]) (st' := [.int (-1)]) rfl ?_
    exact x_iret C B rfl 34 rfl (Nat.zero_le _) (Nat.zero_le _) ⟨by first | contradiction | (simp only [if_neg hc1]; done) | (simp only [if_neg hc1]; simp only [nlit, nI_add, pk_mul]; done) | (simp only [if_neg hc1, nlit, nI_add, pk_mul]; done) | rfl | (simp only [if_neg hc1]; rfl) | (simp only [if_neg hc1, nlit, nI_add, pk_mul]; rfl), by first | contradiction | (simp only [if_neg hc1]; done) | (simp only [if_neg hc1]; simp only [nlit, nI_add, pk_mul]; done) | (simp only [if_neg hc1, nlit, nI_add, pk_mul]; done) | rfl | (simp only [if_neg hc1]; rfl) | (simp only [if_neg hc1, nlit, nI_add, pk_mul]; rfl)⟩
  · exact absurd hc1 hh1
set_option maxHeartbeats 4000000 in
set_option maxRecDepth 100000 in
theorem c_X8_layKM (Y : xD) (w : va_W) (o0 : Nat) (A : Nat → Nat) (th : Int32) (su : Int32) (sz : Nat) (bl : Int32) (ci : Nat) (ma : Nat) (pa : Int32) (en : Int32) (wr : Int32) (co : Nat → Int32) (i1 : Nat → Int32) (j : Nat) (c : Nat) (n : Nat) (k : Int32) (qm q_circuitOf q_inputs : Nat) (e0 : w[qm]? = some (o0, cO 8 (mo A th su (nI sz) bl (nI ci) (nI ma) pa en wr))) (e1 : w[q_circuitOf]? = some (A 15, cI Y 6 co)) (e2 : w[q_inputs]? = some (A 6, cI Y 6 i1)) (N : xN w.length [qm, q_circuitOf, q_inputs]) (hj : j < ma) (h6 : ma ≤ 6) (hc6 : c < 6) (hn16 : n ≤ 16) (hco : co j = nI c) (hin : i1 c = nI n) (hk : k < 0 ∨ nI n ≤ k) : Cf Y mX8_lay 2 [.ref o0, .int (nI j), .int k, .int (-1)] w (some (.int (-1))) [(qm, (o0, cO 8 (mo A (nI 0) su (nI sz) bl (nI ci) (nI ma) pa en wr))), (q_circuitOf, (A 15, cI Y 6 co)), (q_inputs, (A 6, cI Y 6 i1))] := by
  refine Ct.intro (T := tX8_lay) (by decide) oX8_lay (Nat.le_of_ble_eq_true rfl) (fun G C B => ?_)
  refine x_lay [(qm, (o0, cO 8 (mo A th su (nI sz) bl (nI ci) (nI ma) pa en wr))), (q_circuitOf, (A 15, cI Y 6 co)), (q_inputs, (A 6, cI Y 6 i1))] (lay_cons e0 (lay_cons e1 (lay_cons e2 lay_nil))) ?_
  refine x_run C 0 2 (pc' := 2) (lv' := [(0, .ref o0), (1, .int (nI j)), (2, .int k), (3, .int (-1))]) (st' := [.int 0, .ref o0]) rfl ?_
  refine x_put C 2 rfl pX8_117 N 0 rfl rfl rfl (Nat.le_of_ble_eq_true rfl) (os' := [(qm, (o0, cO 8 (mo A (nI 0) su (nI sz) bl (nI ci) (nI ma) pa en wr))), (q_circuitOf, (A 15, cI Y 6 co)), (q_inputs, (A 6, cI Y 6 i1))]) rfl ?_
  refine x_run C 3 2 (pc' := 7) (lv' := [(0, .ref o0), (1, .int (nI j)), (2, .int k), (3, .int (-1))]) (st' := [.int (-1), .int (-1)]) rfl ?_
  refine x_icmp_ne C 5 rfl (tgt := 14) rfl (fun hc1 => ?_) (fun hc1 => ?_)
  · exact absurd rfl hc1
  · refine x_run C 6 2 (pc' := 18) (lv' := [(0, .ref o0), (1, .int (nI j)), (2, .int k), (3, .int (-1))]) (st' := [.int 0]) rfl ?_
    refine x_run C 10 3 (pc' := 22) (lv' := [(4, .int 0), (0, .ref o0), (1, .int (nI j)), (2, .int k), (3, .int (-1))]) (st' := [.int (nI j), .ref o0]) rfl ?_
    refine x_cv C 13 (As := [.int (nI j)]) (rest := []) rfl vX8_230 N 0 rfl rfl (c_X8_isGarbled Y _ o0 A (nI 0) su sz bl ci ma pa en wr j qm (ovl_at 0 N rfl) (N.ov [0] (by decide) rfl) (by first | assumption | omega) (by first | assumption | omega)) rfl rfl (Nat.le_of_ble_eq_true rfl) ⟨Nat.le_of_ble_eq_true rfl, Nat.le_of_ble_eq_true rfl⟩ ⟨Nat.zero_le _, Nat.zero_le _⟩ [0] ⟨rfl, trivial⟩ (os' := [(qm, (o0, cO 8 (mo A (nI 0) su (nI sz) bl (nI ci) (nI ma) pa en wr))), (q_circuitOf, (A 15, cI Y 6 co)), (q_inputs, (A 6, cI Y 6 i1))]) rfl (st' := [.int 1]) rfl ?_
    refine x_st (st' := [.int (nI 1)]) (by simp only [nlit, nI_add, pk_mul]) ?_
    refine x_ifN_eq C 14 (by omega) rfl (tgt := 58) rfl (fun hc2 => absurd hc2 (by omega)) (fun hc2 => ?_)
    refine x_run C 15 3 (pc' := 31) (lv' := [(4, .int 0), (0, .ref o0), (1, .int (nI j)), (2, .int k), (3, .int (-1))]) (st' := [.ref o0, .int 0, .int k]) rfl ?_
    refine x_get C 18 rfl fX8_28 N 0 rfl (v := .ref (A 6)) rfl ?_
    refine x_run C 19 1 (pc' := 35) (lv' := [(4, .int 0), (0, .ref o0), (1, .int (nI j)), (2, .int k), (3, .int (-1))]) (st' := [.ref o0, .ref (A 6), .int 0, .int k]) rfl ?_
    refine x_get C 20 rfl fX8_55 N 0 rfl (v := .ref (A 15)) rfl ?_
    refine x_run C 21 1 (pc' := 39) (lv' := [(4, .int 0), (0, .ref o0), (1, .int (nI j)), (2, .int k), (3, .int (-1))]) (st' := [.int (nI j), .ref (A 15), .ref (A 6), .int 0, .int k]) rfl ?_
    refine x_ialdN C 22 rfl N 1 rfl (by omega) (by omega) ?_
    refine x_st (st' := [.int (nI c), .ref (A 6), .int 0, .int k]) (by rw [hco]) ?_
    refine x_ialdN C 23 rfl N 2 rfl (by omega) (by omega) ?_
    refine x_st (st' := [.int (nI n), .int 0, .int k]) (by rw [hin]) ?_
    refine x_run C 24 2 (pc' := 43) (lv' := [(4, .int 0), (0, .ref o0), (1, .int (nI j)), (2, .int k), (3, .int (-1))]) (st' := [.int ((nI n) - 1), .int 0, .int k]) rfl ?_
    refine x_cs C 26 (As := [.int k, .int 0, .int ((nI n) - 1)]) (rest := []) rfl vX8_135 N (c_X8_inF Y _ k 0 ((nI n) - 1)    (hk.imp id (le_pred (by omega)))) rfl rfl (Nat.le_of_ble_eq_true rfl) ⟨Nat.le_of_ble_eq_true rfl, Nat.le_of_ble_eq_true rfl⟩ ⟨Nat.zero_le _, Nat.zero_le _⟩ [] trivial (os' := [(qm, (o0, cO 8 (mo A (nI 0) su (nI sz) bl (nI ci) (nI ma) pa en wr))), (q_circuitOf, (A 15, cI Y 6 co)), (q_inputs, (A 6, cI Y 6 i1))]) rfl (st' := [.int 0]) rfl ?_
    refine x_st (st' := [.int (nI 0)]) (by simp only [nlit, nI_add, pk_mul]) ?_
    refine x_ifN_eq C 27 (by omega) rfl (tgt := 58) rfl (fun hc3 => ?_) (fun hc3 => absurd hc3 (by omega))
    refine x_run C 33 1 (pc' := 59) (lv' := [(4, .int 0), (0, .ref o0), (1, .int (nI j)), (2, .int k), (3, .int (-1))]) (st' := [.int (-1)]) rfl ?_
    exact x_iret C B rfl 34 rfl (Nat.zero_le _) (Nat.zero_le _) ⟨by first | contradiction | (simp only [if_pos hc1]; done) | (simp only [if_pos hc1]; simp only [nlit, nI_add, pk_mul]; done) | (simp only [if_pos hc1, nlit, nI_add, pk_mul]; done) | rfl | (simp only [if_pos hc1]; rfl) | (simp only [if_pos hc1, nlit, nI_add, pk_mul]; rfl), by first | contradiction | (simp only [if_pos hc1]; done) | (simp only [if_pos hc1]; simp only [nlit, nI_add, pk_mul]; done) | (simp only [if_pos hc1, nlit, nI_add, pk_mul]; done) | rfl | (simp only [if_pos hc1]; rfl) | (simp only [if_pos hc1, nlit, nI_add, pk_mul]; rfl)⟩
set_option maxHeartbeats 4000000 in
set_option maxRecDepth 100000 in
theorem c_X8_layK (Y : xD) (w : va_W) (o0 : Nat) (A : Nat → Nat) (th : Int32) (su : Int32) (sz : Nat) (bl : Int32) (ci : Nat) (ma : Nat) (pa : Int32) (en : Int32) (wr : Int32) (co : Nat → Int32) (i1 : Nat → Int32) (j : Nat) (c : Nat) (n : Nat) (k : Int32) (w_ : Int32) (qm q_circuitOf q_inputs : Nat) (e0 : w[qm]? = some (o0, cO 8 (mo A th su (nI sz) bl (nI ci) (nI ma) pa en wr))) (e1 : w[q_circuitOf]? = some (A 15, cI Y 6 co)) (e2 : w[q_inputs]? = some (A 6, cI Y 6 i1)) (N : xN w.length [qm, q_circuitOf, q_inputs]) (hj : j < ma) (h6 : ma ≤ 6) (hc6 : c < 6) (hn16 : n ≤ 16) (hco : co j = nI c) (hin : i1 c = nI n) (hk : k < 0 ∨ nI n ≤ k) (hh1 : ¬ w_ = -1) : Cf Y mX8_lay 2 [.ref o0, .int (nI j), .int k, .int w_] w (some (.int (-1))) [(qm, (o0, cO 8 (mo A (nI 0) su (nI 0) bl (nI ci) (nI ma) pa en wr))), (q_circuitOf, (A 15, cI Y 6 co)), (q_inputs, (A 6, cI Y 6 i1))] := by
  refine Ct.intro (T := tX8_lay) (by decide) oX8_lay (Nat.le_of_ble_eq_true rfl) (fun G C B => ?_)
  refine x_lay [(qm, (o0, cO 8 (mo A th su (nI sz) bl (nI ci) (nI ma) pa en wr))), (q_circuitOf, (A 15, cI Y 6 co)), (q_inputs, (A 6, cI Y 6 i1))] (lay_cons e0 (lay_cons e1 (lay_cons e2 lay_nil))) ?_
  refine x_run C 0 2 (pc' := 2) (lv' := [(0, .ref o0), (1, .int (nI j)), (2, .int k), (3, .int w_)]) (st' := [.int 0, .ref o0]) rfl ?_
  refine x_put C 2 rfl pX8_117 N 0 rfl rfl rfl (Nat.le_of_ble_eq_true rfl) (os' := [(qm, (o0, cO 8 (mo A (nI 0) su (nI sz) bl (nI ci) (nI ma) pa en wr))), (q_circuitOf, (A 15, cI Y 6 co)), (q_inputs, (A 6, cI Y 6 i1))]) rfl ?_
  refine x_run C 3 2 (pc' := 7) (lv' := [(0, .ref o0), (1, .int (nI j)), (2, .int k), (3, .int w_)]) (st' := [.int (-1), .int w_]) rfl ?_
  refine x_icmp_ne C 5 rfl (tgt := 14) rfl (fun hc1 => ?_) (fun hc1 => ?_)
  · refine x_run C 8 1 (pc' := 15) (lv' := [(0, .ref o0), (1, .int (nI j)), (2, .int k), (3, .int w_)]) (st' := [.ref o0]) rfl ?_
    refine x_cv C 9 (As := []) (rest := []) rfl vX8_144 N 0 rfl rfl (c_X8_uses Y _ o0 A (nI 0) su sz bl ci ma pa en wr qm (ovl_at 0 N rfl) (N.ov [0] (by decide) rfl) ) rfl rfl (Nat.le_of_ble_eq_true rfl) ⟨Nat.le_of_ble_eq_true rfl, Nat.le_of_ble_eq_true rfl⟩ ⟨Nat.zero_le _, Nat.zero_le _⟩ [0] ⟨rfl, trivial⟩ (os' := [(qm, (o0, cO 8 (mo A (nI 0) su (nI 0) bl (nI ci) (nI ma) pa en wr))), (q_circuitOf, (A 15, cI Y 6 co)), (q_inputs, (A 6, cI Y 6 i1))]) rfl (st' := [.int (nI sz)]) rfl ?_
    refine x_run C 10 3 (pc' := 22) (lv' := [(4, .int (nI sz)), (0, .ref o0), (1, .int (nI j)), (2, .int k), (3, .int w_)]) (st' := [.int (nI j), .ref o0]) rfl ?_
    refine x_cv C 13 (As := [.int (nI j)]) (rest := []) rfl vX8_230 N 0 rfl rfl (c_X8_isGarbled Y _ o0 A (nI 0) su 0 bl ci ma pa en wr j qm (ovl_at 0 N rfl) (N.ov [0] (by decide) rfl) (by first | assumption | omega) (by first | assumption | omega)) rfl rfl (Nat.le_of_ble_eq_true rfl) ⟨Nat.le_of_ble_eq_true rfl, Nat.le_of_ble_eq_true rfl⟩ ⟨Nat.zero_le _, Nat.zero_le _⟩ [0] ⟨rfl, trivial⟩ (os' := [(qm, (o0, cO 8 (mo A (nI 0) su (nI 0) bl (nI ci) (nI ma) pa en wr))), (q_circuitOf, (A 15, cI Y 6 co)), (q_inputs, (A 6, cI Y 6 i1))]) rfl (st' := [.int 1]) rfl ?_
    refine x_st (st' := [.int (nI 1)]) (by simp only [nlit, nI_add, pk_mul]) ?_
    refine x_ifN_eq C 14 (by omega) rfl (tgt := 58) rfl (fun hc2 => absurd hc2 (by omega)) (fun hc2 => ?_)
    refine x_run C 15 3 (pc' := 31) (lv' := [(4, .int (nI sz)), (0, .ref o0), (1, .int (nI j)), (2, .int k), (3, .int w_)]) (st' := [.ref o0, .int 0, .int k]) rfl ?_
    refine x_get C 18 rfl fX8_28 N 0 rfl (v := .ref (A 6)) rfl ?_
    refine x_run C 19 1 (pc' := 35) (lv' := [(4, .int (nI sz)), (0, .ref o0), (1, .int (nI j)), (2, .int k), (3, .int w_)]) (st' := [.ref o0, .ref (A 6), .int 0, .int k]) rfl ?_
    refine x_get C 20 rfl fX8_55 N 0 rfl (v := .ref (A 15)) rfl ?_
    refine x_run C 21 1 (pc' := 39) (lv' := [(4, .int (nI sz)), (0, .ref o0), (1, .int (nI j)), (2, .int k), (3, .int w_)]) (st' := [.int (nI j), .ref (A 15), .ref (A 6), .int 0, .int k]) rfl ?_
    refine x_ialdN C 22 rfl N 1 rfl (by omega) (by omega) ?_
    refine x_st (st' := [.int (nI c), .ref (A 6), .int 0, .int k]) (by rw [hco]) ?_
    refine x_ialdN C 23 rfl N 2 rfl (by omega) (by omega) ?_
    refine x_st (st' := [.int (nI n), .int 0, .int k]) (by rw [hin]) ?_
    refine x_run C 24 2 (pc' := 43) (lv' := [(4, .int (nI sz)), (0, .ref o0), (1, .int (nI j)), (2, .int k), (3, .int w_)]) (st' := [.int ((nI n) - 1), .int 0, .int k]) rfl ?_
    refine x_cs C 26 (As := [.int k, .int 0, .int ((nI n) - 1)]) (rest := []) rfl vX8_135 N (c_X8_inF Y _ k 0 ((nI n) - 1)    (hk.imp id (le_pred (by omega)))) rfl rfl (Nat.le_of_ble_eq_true rfl) ⟨Nat.le_of_ble_eq_true rfl, Nat.le_of_ble_eq_true rfl⟩ ⟨Nat.zero_le _, Nat.zero_le _⟩ [] trivial (os' := [(qm, (o0, cO 8 (mo A (nI 0) su (nI 0) bl (nI ci) (nI ma) pa en wr))), (q_circuitOf, (A 15, cI Y 6 co)), (q_inputs, (A 6, cI Y 6 i1))]) rfl (st' := [.int 0]) rfl ?_
    refine x_st (st' := [.int (nI 0)]) (by simp only [nlit, nI_add, pk_mul]) ?_
    refine x_ifN_eq C 27 (by omega) rfl (tgt := 58) rfl (fun hc3 => ?_) (fun hc3 => absurd hc3 (by omega))
    refine x_run C 33 1 (pc' := 59) (lv' := [(4, .int (nI sz)), (0, .ref o0), (1, .int (nI j)), (2, .int k), (3, .int w_)]) (st' := [.int (-1)]) rfl ?_
    exact x_iret C B rfl 34 rfl (Nat.zero_le _) (Nat.zero_le _) ⟨by first | contradiction | (simp only [if_neg hc1]; done) | (simp only [if_neg hc1]; simp only [nlit, nI_add, pk_mul]; done) | (simp only [if_neg hc1, nlit, nI_add, pk_mul]; done) | rfl | (simp only [if_neg hc1]; rfl) | (simp only [if_neg hc1, nlit, nI_add, pk_mul]; rfl), by first | contradiction | (simp only [if_neg hc1]; done) | (simp only [if_neg hc1]; simp only [nlit, nI_add, pk_mul]; done) | (simp only [if_neg hc1, nlit, nI_add, pk_mul]; done) | rfl | (simp only [if_neg hc1]; rfl) | (simp only [if_neg hc1, nlit, nI_add, pk_mul]; rfl)⟩
  · exact absurd hc1 hh1
set_option maxHeartbeats 4000000 in
set_option maxRecDepth 100000 in
theorem c_X8_layH (Y : xD) (w : va_W) (o0 : Nat) (A : Nat → Nat) (th : Int32) (su : Int32) (sz : Nat) (bl : Int32) (ci : Nat) (ma : Nat) (pa : Int32) (en : Int32) (wr : Int32) (co : Nat → Int32) (i1 : Nat → Int32) (j : Nat) (c : Nat) (n : Nat) (k : Nat) (w_ : Int32) (qm q_circuitOf q_inputs : Nat) (e0 : w[qm]? = some (o0, cO 8 (mo A th su (nI sz) bl (nI ci) (nI ma) pa en wr))) (e1 : w[q_circuitOf]? = some (A 15, cI Y 6 co)) (e2 : w[q_inputs]? = some (A 6, cI Y 6 i1)) (N : xN w.length [qm, q_circuitOf, q_inputs]) (hj : j < ma) (h6 : ma ≤ 6) (hc6 : c < 6) (hn16 : n ≤ 16) (hco : co j = nI c) (hin : i1 c = nI n) (hk : k < n) (hh1 : ¬ w_ = -1) (hw : w_ < -1 ∨ 0 < w_) : Cf Y mX8_lay 2 [.ref o0, .int (nI j), .int (nI k), .int w_] w (some (.int (-1))) [(qm, (o0, cO 8 (mo A (nI 0) su (nI 0) bl (nI ci) (nI ma) pa en wr))), (q_circuitOf, (A 15, cI Y 6 co)), (q_inputs, (A 6, cI Y 6 i1))] := by
  refine Ct.intro (T := tX8_lay) (by decide) oX8_lay (Nat.le_of_ble_eq_true rfl) (fun G C B => ?_)
  refine x_lay [(qm, (o0, cO 8 (mo A th su (nI sz) bl (nI ci) (nI ma) pa en wr))), (q_circuitOf, (A 15, cI Y 6 co)), (q_inputs, (A 6, cI Y 6 i1))] (lay_cons e0 (lay_cons e1 (lay_cons e2 lay_nil))) ?_
  refine x_run C 0 2 (pc' := 2) (lv' := [(0, .ref o0), (1, .int (nI j)), (2, .int (nI k)), (3, .int w_)]) (st' := [.int 0, .ref o0]) rfl ?_
  refine x_put C 2 rfl pX8_117 N 0 rfl rfl rfl (Nat.le_of_ble_eq_true rfl) (os' := [(qm, (o0, cO 8 (mo A (nI 0) su (nI sz) bl (nI ci) (nI ma) pa en wr))), (q_circuitOf, (A 15, cI Y 6 co)), (q_inputs, (A 6, cI Y 6 i1))]) rfl ?_
  refine x_run C 3 2 (pc' := 7) (lv' := [(0, .ref o0), (1, .int (nI j)), (2, .int (nI k)), (3, .int w_)]) (st' := [.int (-1), .int w_]) rfl ?_
  refine x_icmp_ne C 5 rfl (tgt := 14) rfl (fun hc1 => ?_) (fun hc1 => ?_)
  · refine x_run C 8 1 (pc' := 15) (lv' := [(0, .ref o0), (1, .int (nI j)), (2, .int (nI k)), (3, .int w_)]) (st' := [.ref o0]) rfl ?_
    refine x_cv C 9 (As := []) (rest := []) rfl vX8_144 N 0 rfl rfl (c_X8_uses Y _ o0 A (nI 0) su sz bl ci ma pa en wr qm (ovl_at 0 N rfl) (N.ov [0] (by decide) rfl) ) rfl rfl (Nat.le_of_ble_eq_true rfl) ⟨Nat.le_of_ble_eq_true rfl, Nat.le_of_ble_eq_true rfl⟩ ⟨Nat.zero_le _, Nat.zero_le _⟩ [0] ⟨rfl, trivial⟩ (os' := [(qm, (o0, cO 8 (mo A (nI 0) su (nI 0) bl (nI ci) (nI ma) pa en wr))), (q_circuitOf, (A 15, cI Y 6 co)), (q_inputs, (A 6, cI Y 6 i1))]) rfl (st' := [.int (nI sz)]) rfl ?_
    refine x_run C 10 3 (pc' := 22) (lv' := [(4, .int (nI sz)), (0, .ref o0), (1, .int (nI j)), (2, .int (nI k)), (3, .int w_)]) (st' := [.int (nI j), .ref o0]) rfl ?_
    refine x_cv C 13 (As := [.int (nI j)]) (rest := []) rfl vX8_230 N 0 rfl rfl (c_X8_isGarbled Y _ o0 A (nI 0) su 0 bl ci ma pa en wr j qm (ovl_at 0 N rfl) (N.ov [0] (by decide) rfl) (by first | assumption | omega) (by first | assumption | omega)) rfl rfl (Nat.le_of_ble_eq_true rfl) ⟨Nat.le_of_ble_eq_true rfl, Nat.le_of_ble_eq_true rfl⟩ ⟨Nat.zero_le _, Nat.zero_le _⟩ [0] ⟨rfl, trivial⟩ (os' := [(qm, (o0, cO 8 (mo A (nI 0) su (nI 0) bl (nI ci) (nI ma) pa en wr))), (q_circuitOf, (A 15, cI Y 6 co)), (q_inputs, (A 6, cI Y 6 i1))]) rfl (st' := [.int 1]) rfl ?_
    refine x_st (st' := [.int (nI 1)]) (by simp only [nlit, nI_add, pk_mul]) ?_
    refine x_ifN_eq C 14 (by omega) rfl (tgt := 58) rfl (fun hc2 => absurd hc2 (by omega)) (fun hc2 => ?_)
    refine x_run C 15 3 (pc' := 31) (lv' := [(4, .int (nI sz)), (0, .ref o0), (1, .int (nI j)), (2, .int (nI k)), (3, .int w_)]) (st' := [.ref o0, .int 0, .int (nI k)]) rfl ?_
    refine x_get C 18 rfl fX8_28 N 0 rfl (v := .ref (A 6)) rfl ?_
    refine x_run C 19 1 (pc' := 35) (lv' := [(4, .int (nI sz)), (0, .ref o0), (1, .int (nI j)), (2, .int (nI k)), (3, .int w_)]) (st' := [.ref o0, .ref (A 6), .int 0, .int (nI k)]) rfl ?_
    refine x_get C 20 rfl fX8_55 N 0 rfl (v := .ref (A 15)) rfl ?_
    refine x_run C 21 1 (pc' := 39) (lv' := [(4, .int (nI sz)), (0, .ref o0), (1, .int (nI j)), (2, .int (nI k)), (3, .int w_)]) (st' := [.int (nI j), .ref (A 15), .ref (A 6), .int 0, .int (nI k)]) rfl ?_
    refine x_ialdN C 22 rfl N 1 rfl (by omega) (by omega) ?_
    refine x_st (st' := [.int (nI c), .ref (A 6), .int 0, .int (nI k)]) (by rw [hco]) ?_
    refine x_ialdN C 23 rfl N 2 rfl (by omega) (by omega) ?_
    refine x_st (st' := [.int (nI n), .int 0, .int (nI k)]) (by rw [hin]) ?_
    refine x_run C 24 2 (pc' := 43) (lv' := [(4, .int (nI sz)), (0, .ref o0), (1, .int (nI j)), (2, .int (nI k)), (3, .int w_)]) (st' := [.int ((nI n) - 1), .int 0, .int (nI k)]) rfl ?_
    refine x_st (st' := [.int (nI (n - 1)), .int 0, .int (nI k)]) (by simp only [nlit, nI_add, pk_mul, pk_sub (show 1 ≤ n by omega)]) ?_
    refine x_st (st' := [.int (nI (n - 1)), .int (nI 0), .int (nI k)]) (by simp only [nlit, nI_add, pk_mul]) ?_
    refine x_cs C 26 (As := [.int (nI k), .int (nI 0), .int (nI (n - 1))]) (rest := []) rfl vX8_135 N (c_X8_in Y _ k 0 (n - 1)    (by first | assumption | omega) (by first | assumption | omega) (by first | assumption | omega)) rfl rfl (Nat.le_of_ble_eq_true rfl) ⟨Nat.le_of_ble_eq_true rfl, Nat.le_of_ble_eq_true rfl⟩ ⟨Nat.zero_le _, Nat.zero_le _⟩ [] trivial (os' := [(qm, (o0, cO 8 (mo A (nI 0) su (nI 0) bl (nI ci) (nI ma) pa en wr))), (q_circuitOf, (A 15, cI Y 6 co)), (q_inputs, (A 6, cI Y 6 i1))]) rfl (st' := [.int 1]) rfl ?_
    refine x_st (st' := [.int (nI 1)]) (by simp only [nlit, nI_add, pk_mul]) ?_
    refine x_ifN_eq C 27 (by omega) rfl (tgt := 58) rfl (fun hc3 => absurd hc3 (by omega)) (fun hc3 => ?_)
    refine x_run C 28 3 (pc' := 52) (lv' := [(4, .int (nI sz)), (0, .ref o0), (1, .int (nI j)), (2, .int (nI k)), (3, .int w_)]) (st' := [.int 0, .int (-1), .int w_]) rfl ?_
    refine x_cs C 31 (As := [.int w_, .int (-1), .int 0]) (rest := []) rfl vX8_135 N (c_X8_inF Y _ w_ (-1) 0    hw) rfl rfl (Nat.le_of_ble_eq_true rfl) ⟨Nat.le_of_ble_eq_true rfl, Nat.le_of_ble_eq_true rfl⟩ ⟨Nat.zero_le _, Nat.zero_le _⟩ [] trivial (os' := [(qm, (o0, cO 8 (mo A (nI 0) su (nI 0) bl (nI ci) (nI ma) pa en wr))), (q_circuitOf, (A 15, cI Y 6 co)), (q_inputs, (A 6, cI Y 6 i1))]) rfl (st' := [.int 0]) rfl ?_
    refine x_st (st' := [.int (nI 0)]) (by simp only [nlit, nI_add, pk_mul]) ?_
    refine x_ifN_ne C 32 (by omega) rfl (tgt := 60) rfl (fun hc4 => absurd hc4 (by omega)) (fun hc4 => ?_)
    refine x_run C 33 1 (pc' := 59) (lv' := [(4, .int (nI sz)), (0, .ref o0), (1, .int (nI j)), (2, .int (nI k)), (3, .int w_)]) (st' := [.int (-1)]) rfl ?_
    exact x_iret C B rfl 34 rfl (Nat.zero_le _) (Nat.zero_le _) ⟨by first | contradiction | (simp only [if_neg hc1]; done) | (simp only [if_neg hc1]; simp only [nlit, nI_add, pk_mul]; done) | (simp only [if_neg hc1, nlit, nI_add, pk_mul]; done) | rfl | (simp only [if_neg hc1]; rfl) | (simp only [if_neg hc1, nlit, nI_add, pk_mul]; rfl), by first | contradiction | (simp only [if_neg hc1]; done) | (simp only [if_neg hc1]; simp only [nlit, nI_add, pk_mul]; done) | (simp only [if_neg hc1, nlit, nI_add, pk_mul]; done) | rfl | (simp only [if_neg hc1]; rfl) | (simp only [if_neg hc1, nlit, nI_add, pk_mul]; rfl)⟩
  · exact absurd hc1 hh1
set_option maxHeartbeats 4000000 in
set_option maxRecDepth 100000 in
theorem c_X8_layM (Y : xD) (w : va_W) (o0 : Nat) (A : Nat → Nat) (th : Int32) (su : Int32) (sz : Nat) (bl : Int32) (ci : Nat) (ma : Nat) (pa : Int32) (en : Int32) (wr : Int32) (co : Nat → Int32) (i1 : Nat → Int32) (g1 : Nat → Int32) (fh : Nat → Int32) (j : Nat) (c : Nat) (n : Nat) (g : Nat) (k : Nat) (qm q_circuitOf q_inputs q_gates q_has : Nat) (e0 : w[qm]? = some (o0, cO 8 (mo A th su (nI sz) bl (nI ci) (nI ma) pa en wr))) (e1 : w[q_circuitOf]? = some (A 15, cI Y 6 co)) (e2 : w[q_inputs]? = some (A 6, cI Y 6 i1)) (e3 : w[q_gates]? = some (A 7, cI Y 6 g1)) (e4 : w[q_has]? = some (A 24, cZ Y 336 fh)) (N : xN w.length [qm, q_circuitOf, q_inputs, q_gates, q_has]) (hj : j < ma) (h6 : ma ≤ 6) (hc6 : c < 6) (hn16 : n ≤ 16) (hg40 : g ≤ 40) (hco : co j = nI c) (hin : i1 c = nI n) (hga : g1 c = nI g) (hk : k < n) : Cf Y mX8_lay 2 [.ref o0, .int (nI j), .int (nI k), .int (-1)] w (some (.int 1)) [(qm, (o0, cO 8 (mo A (nI 0) su (nI sz) bl (nI ci) (nI ma) pa en wr))), (q_circuitOf, (A 15, cI Y 6 co)), (q_inputs, (A 6, cI Y 6 i1)), (q_gates, (A 7, cI Y 6 g1)), (q_has, (A 24, cZ Y 336 (filI (upd fh (56 * j + k) 0) (56 * j + n) g 0)))] := by
  refine Ct.intro (T := tX8_lay) (by decide) oX8_lay (Nat.le_of_ble_eq_true rfl) (fun G C B => ?_)
  refine x_lay [(qm, (o0, cO 8 (mo A th su (nI sz) bl (nI ci) (nI ma) pa en wr))), (q_circuitOf, (A 15, cI Y 6 co)), (q_inputs, (A 6, cI Y 6 i1)), (q_gates, (A 7, cI Y 6 g1)), (q_has, (A 24, cZ Y 336 fh))] (lay_cons e0 (lay_cons e1 (lay_cons e2 (lay_cons e3 (lay_cons e4 lay_nil))))) ?_
  refine x_run C 0 2 (pc' := 2) (lv' := [(0, .ref o0), (1, .int (nI j)), (2, .int (nI k)), (3, .int (-1))]) (st' := [.int 0, .ref o0]) rfl ?_
  refine x_put C 2 rfl pX8_117 N 0 rfl rfl rfl (Nat.le_of_ble_eq_true rfl) (os' := [(qm, (o0, cO 8 (mo A (nI 0) su (nI sz) bl (nI ci) (nI ma) pa en wr))), (q_circuitOf, (A 15, cI Y 6 co)), (q_inputs, (A 6, cI Y 6 i1)), (q_gates, (A 7, cI Y 6 g1)), (q_has, (A 24, cZ Y 336 fh))]) rfl ?_
  refine x_run C 3 2 (pc' := 7) (lv' := [(0, .ref o0), (1, .int (nI j)), (2, .int (nI k)), (3, .int (-1))]) (st' := [.int (-1), .int (-1)]) rfl ?_
  refine x_icmp_ne C 5 rfl (tgt := 14) rfl (fun hc1 => ?_) (fun hc1 => ?_)
  · exact absurd rfl hc1
  · refine x_run C 6 2 (pc' := 18) (lv' := [(0, .ref o0), (1, .int (nI j)), (2, .int (nI k)), (3, .int (-1))]) (st' := [.int 0]) rfl ?_
    refine x_run C 10 3 (pc' := 22) (lv' := [(4, .int 0), (0, .ref o0), (1, .int (nI j)), (2, .int (nI k)), (3, .int (-1))]) (st' := [.int (nI j), .ref o0]) rfl ?_
    refine x_cv C 13 (As := [.int (nI j)]) (rest := []) rfl vX8_230 N 0 rfl rfl (c_X8_isGarbled Y _ o0 A (nI 0) su sz bl ci ma pa en wr j qm (ovl_at 0 N rfl) (N.ov [0] (by decide) rfl) (by first | assumption | omega) (by first | assumption | omega)) rfl rfl (Nat.le_of_ble_eq_true rfl) ⟨Nat.le_of_ble_eq_true rfl, Nat.le_of_ble_eq_true rfl⟩ ⟨Nat.zero_le _, Nat.zero_le _⟩ [0] ⟨rfl, trivial⟩ (os' := [(qm, (o0, cO 8 (mo A (nI 0) su (nI sz) bl (nI ci) (nI ma) pa en wr))), (q_circuitOf, (A 15, cI Y 6 co)), (q_inputs, (A 6, cI Y 6 i1)), (q_gates, (A 7, cI Y 6 g1)), (q_has, (A 24, cZ Y 336 fh))]) rfl (st' := [.int 1]) rfl ?_
    refine x_st (st' := [.int (nI 1)]) (by simp only [nlit, nI_add, pk_mul]) ?_
    refine x_ifN_eq C 14 (by omega) rfl (tgt := 58) rfl (fun hc2 => absurd hc2 (by omega)) (fun hc2 => ?_)
    refine x_run C 15 3 (pc' := 31) (lv' := [(4, .int 0), (0, .ref o0), (1, .int (nI j)), (2, .int (nI k)), (3, .int (-1))]) (st' := [.ref o0, .int 0, .int (nI k)]) rfl ?_
    refine x_get C 18 rfl fX8_28 N 0 rfl (v := .ref (A 6)) rfl ?_
    refine x_run C 19 1 (pc' := 35) (lv' := [(4, .int 0), (0, .ref o0), (1, .int (nI j)), (2, .int (nI k)), (3, .int (-1))]) (st' := [.ref o0, .ref (A 6), .int 0, .int (nI k)]) rfl ?_
    refine x_get C 20 rfl fX8_55 N 0 rfl (v := .ref (A 15)) rfl ?_
    refine x_run C 21 1 (pc' := 39) (lv' := [(4, .int 0), (0, .ref o0), (1, .int (nI j)), (2, .int (nI k)), (3, .int (-1))]) (st' := [.int (nI j), .ref (A 15), .ref (A 6), .int 0, .int (nI k)]) rfl ?_
    refine x_ialdN C 22 rfl N 1 rfl (by omega) (by omega) ?_
    refine x_st (st' := [.int (nI c), .ref (A 6), .int 0, .int (nI k)]) (by rw [hco]) ?_
    refine x_ialdN C 23 rfl N 2 rfl (by omega) (by omega) ?_
    refine x_st (st' := [.int (nI n), .int 0, .int (nI k)]) (by rw [hin]) ?_
    refine x_run C 24 2 (pc' := 43) (lv' := [(4, .int 0), (0, .ref o0), (1, .int (nI j)), (2, .int (nI k)), (3, .int (-1))]) (st' := [.int ((nI n) - 1), .int 0, .int (nI k)]) rfl ?_
    refine x_st (st' := [.int (nI (n - 1)), .int 0, .int (nI k)]) (by simp only [nlit, nI_add, pk_mul, pk_sub (show 1 ≤ n by omega)]) ?_
    refine x_st (st' := [.int (nI (n - 1)), .int (nI 0), .int (nI k)]) (by simp only [nlit, nI_add, pk_mul]) ?_
    refine x_cs C 26 (As := [.int (nI k), .int (nI 0), .int (nI (n - 1))]) (rest := []) rfl vX8_135 N (c_X8_in Y _ k 0 (n - 1)    (by first | assumption | omega) (by first | assumption | omega) (by first | assumption | omega)) rfl rfl (Nat.le_of_ble_eq_true rfl) ⟨Nat.le_of_ble_eq_true rfl, Nat.le_of_ble_eq_true rfl⟩ ⟨Nat.zero_le _, Nat.zero_le _⟩ [] trivial (os' := [(qm, (o0, cO 8 (mo A (nI 0) su (nI sz) bl (nI ci) (nI ma) pa en wr))), (q_circuitOf, (A 15, cI Y 6 co)), (q_inputs, (A 6, cI Y 6 i1)), (q_gates, (A 7, cI Y 6 g1)), (q_has, (A 24, cZ Y 336 fh))]) rfl (st' := [.int 1]) rfl ?_
    refine x_st (st' := [.int (nI 1)]) (by simp only [nlit, nI_add, pk_mul]) ?_
    refine x_ifN_eq C 27 (by omega) rfl (tgt := 58) rfl (fun hc3 => absurd hc3 (by omega)) (fun hc3 => ?_)
    refine x_run C 28 3 (pc' := 52) (lv' := [(4, .int 0), (0, .ref o0), (1, .int (nI j)), (2, .int (nI k)), (3, .int (-1))]) (st' := [.int 0, .int (-1), .int (-1)]) rfl ?_
    refine x_cs C 31 (As := [.int (-1), .int (-1), .int 0]) (rest := []) rfl vX8_135 N (c_X8_inT Y _ (-1) (-1) 0    (by decide) (by decide)) rfl rfl (Nat.le_of_ble_eq_true rfl) ⟨Nat.le_of_ble_eq_true rfl, Nat.le_of_ble_eq_true rfl⟩ ⟨Nat.zero_le _, Nat.zero_le _⟩ [] trivial (os' := [(qm, (o0, cO 8 (mo A (nI 0) su (nI sz) bl (nI ci) (nI ma) pa en wr))), (q_circuitOf, (A 15, cI Y 6 co)), (q_inputs, (A 6, cI Y 6 i1)), (q_gates, (A 7, cI Y 6 g1)), (q_has, (A 24, cZ Y 336 fh))]) rfl (st' := [.int 1]) rfl ?_
    refine x_st (st' := [.int (nI 1)]) (by simp only [nlit, nI_add, pk_mul]) ?_
    refine x_ifN_ne C 32 (by omega) rfl (tgt := 60) rfl (fun hc4 => ?_) (fun hc4 => absurd hc4 (by omega))
    refine x_run C 35 1 (pc' := 61) (lv' := [(4, .int 0), (0, .ref o0), (1, .int (nI j)), (2, .int (nI k)), (3, .int (-1))]) (st' := [.int (-1)]) rfl ?_
    refine x_if_ne C 36 rfl (tgt := 74) rfl (fun hc5 => ?_) (fun hc5 => ?_)
    · refine x_run C 42 4 (pc' := 81) (lv' := [(5, .int 0), (4, .int 0), (0, .ref o0), (1, .int (nI j)), (2, .int (nI k)), (3, .int (-1))]) (st' := [.int 16, .int 0]) rfl ?_
      refine x_st (st' := [.int (nI 16), .int 0]) (by simp only [nlit, nI_add, pk_mul]) ?_
      refine x_st (st' := [.int (nI 16), .int (nI 0)]) (by simp only [nlit, nI_add, pk_mul]) ?_
      refine x_icmpN_ge C 46 (by omega) (by omega) rfl (tgt := 114) rfl (fun hc6 => absurd hc6 (by omega)) (fun hc6 => ?_)
      refine x_run C 47 1 (pc' := 85) (lv' := [(5, .int 0), (4, .int 0), (0, .ref o0), (1, .int (nI j)), (2, .int (nI k)), (3, .int (-1))]) (st' := [.int (-1)]) rfl ?_
      refine x_if_ne C 48 rfl (tgt := 114) rfl (fun hc7 => ?_) (fun hc7 => ?_)
      · refine x_run C 63 1 (pc' := 115) (lv' := [(5, .int 0), (4, .int 0), (0, .ref o0), (1, .int (nI j)), (2, .int (nI k)), (3, .int (-1))]) (st' := [.ref o0]) rfl ?_
        refine x_get C 64 rfl fX8_82 N 0 rfl (v := .ref (A 24)) rfl ?_
        refine x_run C 65 6 (pc' := 125) (lv' := [(5, .int 0), (4, .int 0), (0, .ref o0), (1, .int (nI j)), (2, .int (nI k)), (3, .int (-1))]) (st' := [.int (-1), .int ((56 * (nI j)) + (nI k)), .ref (A 24)]) rfl ?_
        refine x_if_ne C 71 rfl (tgt := 132) rfl (fun hc8 => ?_) (fun hc8 => ?_)
        · refine x_run C 74 1 (pc' := 133) (lv' := [(5, .int 0), (4, .int 0), (0, .ref o0), (1, .int (nI j)), (2, .int (nI k)), (3, .int (-1))]) (st' := [.int 0, .int ((56 * (nI j)) + (nI k)), .ref (A 24)]) rfl ?_
          refine x_st (st' := [.int 0, .int (nI ((56 * j) + k)), .ref (A 24)]) (by simp only [nlit, nI_add, pk_mul]) ?_
          refine x_zastN C 75 rfl N 4 rfl (by omega) (by omega) (os' := [(qm, (o0, cO 8 (mo A (nI 0) su (nI sz) bl (nI ci) (nI ma) pa en wr))), (q_circuitOf, (A 15, cI Y 6 co)), (q_inputs, (A 6, cI Y 6 i1)), (q_gates, (A 7, cI Y 6 g1)), (q_has, (A 24, cZ Y 336 (upd fh ((56 * j) + k) (vp_nar .boolean 0))))]) rfl ?_
          refine x_ov (os' := [(qm, (o0, cO 8 (mo A (nI 0) su (nI sz) bl (nI ci) (nI ma) pa en wr))), (q_circuitOf, (A 15, cI Y 6 co)), (q_inputs, (A 6, cI Y 6 i1)), (q_gates, (A 7, cI Y 6 g1)), (q_has, (A 24, cZ Y 336 (upd fh ((56 * j) + k) 0)))]) (by rw [show vp_nar .boolean 0 = 0 from rfl]) ?_
          refine x_run C 76 2 (pc' := 136) (lv' := [(5, .int 0), (4, .int 0), (0, .ref o0), (1, .int (nI j)), (2, .int (nI k)), (3, .int (-1))]) (st' := [.int (nI j), .ref o0]) rfl ?_
          refine x_cv C 78 (As := [.int (nI j)]) (rest := []) rfl vX8_241 N 0 rfl rfl (c_X8_drops Y _ o0 A (nI 0) su sz bl ci ma pa en wr co i1 g1 (upd fh ((56 * j) + k) 0) j c n g qm q_circuitOf q_inputs q_gates q_has (ovl_at 0 N rfl) (ovl_at 1 N rfl) (ovl_at 2 N rfl) (ovl_at 3 N rfl) (ovl_at 4 N rfl) (N.ov [0, 1, 2, 3, 4] (by decide) rfl) (by first | assumption | omega) (by first | assumption | omega) (by first | assumption | omega) (by first | assumption | omega) (by first | assumption | omega) (by first | assumption | omega) (by first | assumption | omega)) rfl rfl (Nat.le_of_ble_eq_true rfl) ⟨Nat.le_of_ble_eq_true rfl, Nat.le_of_ble_eq_true rfl⟩ ⟨Nat.zero_le _, Nat.zero_le _⟩ [0, 1, 2, 3, 4] ⟨rfl, rfl, rfl, rfl, rfl, trivial⟩ (os' := [(qm, (o0, cO 8 (mo A (nI 0) su (nI sz) bl (nI ci) (nI ma) pa en wr))), (q_circuitOf, (A 15, cI Y 6 co)), (q_inputs, (A 6, cI Y 6 i1)), (q_gates, (A 7, cI Y 6 g1)), (q_has, (A 24, cZ Y 336 (filI (upd fh ((56 * j) + k) 0) (56 * j + n) g 0)))]) rfl (st' := []) rfl ?_
          refine x_run C 79 1 (pc' := 140) (lv' := [(5, .int 0), (4, .int 0), (0, .ref o0), (1, .int (nI j)), (2, .int (nI k)), (3, .int (-1))]) (st' := [.int 1]) rfl ?_
          exact x_iret C B rfl 80 rfl (Nat.zero_le _) (Nat.zero_le _) ⟨by first | contradiction | (simp only [if_pos hc1, if_neg hc5, if_neg hc7, if_neg hc8]; done) | (simp only [if_pos hc1, if_neg hc5, if_neg hc7, if_neg hc8]; simp only [nlit, nI_add, pk_mul]; done) | (simp only [if_pos hc1, if_neg hc5, if_neg hc7, if_neg hc8, nlit, nI_add, pk_mul]; done) | rfl | (simp only [if_pos hc1, if_neg hc5, if_neg hc7, if_neg hc8]; rfl) | (simp only [if_pos hc1, if_neg hc5, if_neg hc7, if_neg hc8, nlit, nI_add, pk_mul]; rfl), by first | contradiction | (simp only [if_pos hc1, if_neg hc5, if_neg hc7, if_neg hc8]; done) | (simp only [if_pos hc1, if_neg hc5, if_neg hc7, if_neg hc8]; simp only [nlit, nI_add, pk_mul]; done) | (simp only [if_pos hc1, if_neg hc5, if_neg hc7, if_neg hc8, nlit, nI_add, pk_mul]; done) | rfl | (simp only [if_pos hc1, if_neg hc5, if_neg hc7, if_neg hc8]; rfl) | (simp only [if_pos hc1, if_neg hc5, if_neg hc7, if_neg hc8, nlit, nI_add, pk_mul]; rfl)⟩
        · exact absurd hc8 (by decide)
      · exact absurd hc7 (by decide)
    · exact absurd hc5 (by decide)
set_option maxHeartbeats 4000000 in
set_option maxRecDepth 100000 in
theorem c_X8_layS (Y : xD) (w : va_W) (o0 : Nat) (A : Nat → Nat) (th : Int32) (su : Int32) (sz : Nat) (bl : Int32) (ci : Nat) (ma : Nat) (pa : Int32) (en : Int32) (wr : Int32) (co : Nat → Int32) (i1 : Nat → Int32) (j : Nat) (c : Nat) (n : Nat) (k : Nat) (qm q_circuitOf q_inputs : Nat) (e0 : w[qm]? = some (o0, cO 8 (mo A th su (nI sz) bl (nI ci) (nI ma) pa en wr))) (e1 : w[q_circuitOf]? = some (A 15, cI Y 6 co)) (e2 : w[q_inputs]? = some (A 6, cI Y 6 i1)) (N : xN w.length [qm, q_circuitOf, q_inputs]) (hj : j < ma) (h6 : ma ≤ 6) (hc6 : c < 6) (hn16 : n ≤ 16) (hco : co j = nI c) (hin : i1 c = nI n) (hk : k < n) (hs : sz < 16) : Cf Y mX8_lay 2 [.ref o0, .int (nI j), .int (nI k), .int 0] w (some (.int (-4))) [(qm, (o0, cO 8 (mo A (nI 0) su (nI 0) bl (nI ci) (nI ma) pa en wr))), (q_circuitOf, (A 15, cI Y 6 co)), (q_inputs, (A 6, cI Y 6 i1))] := by
  refine Ct.intro (T := tX8_lay) (by decide) oX8_lay (Nat.le_of_ble_eq_true rfl) (fun G C B => ?_)
  refine x_lay [(qm, (o0, cO 8 (mo A th su (nI sz) bl (nI ci) (nI ma) pa en wr))), (q_circuitOf, (A 15, cI Y 6 co)), (q_inputs, (A 6, cI Y 6 i1))] (lay_cons e0 (lay_cons e1 (lay_cons e2 lay_nil))) ?_
  refine x_run C 0 2 (pc' := 2) (lv' := [(0, .ref o0), (1, .int (nI j)), (2, .int (nI k)), (3, .int 0)]) (st' := [.int 0, .ref o0]) rfl ?_
  refine x_put C 2 rfl pX8_117 N 0 rfl rfl rfl (Nat.le_of_ble_eq_true rfl) (os' := [(qm, (o0, cO 8 (mo A (nI 0) su (nI sz) bl (nI ci) (nI ma) pa en wr))), (q_circuitOf, (A 15, cI Y 6 co)), (q_inputs, (A 6, cI Y 6 i1))]) rfl ?_
  refine x_run C 3 2 (pc' := 7) (lv' := [(0, .ref o0), (1, .int (nI j)), (2, .int (nI k)), (3, .int 0)]) (st' := [.int (-1), .int 0]) rfl ?_
  refine x_icmp_ne C 5 rfl (tgt := 14) rfl (fun hc1 => ?_) (fun hc1 => ?_)
  · refine x_run C 8 1 (pc' := 15) (lv' := [(0, .ref o0), (1, .int (nI j)), (2, .int (nI k)), (3, .int 0)]) (st' := [.ref o0]) rfl ?_
    refine x_cv C 9 (As := []) (rest := []) rfl vX8_144 N 0 rfl rfl (c_X8_uses Y _ o0 A (nI 0) su sz bl ci ma pa en wr qm (ovl_at 0 N rfl) (N.ov [0] (by decide) rfl) ) rfl rfl (Nat.le_of_ble_eq_true rfl) ⟨Nat.le_of_ble_eq_true rfl, Nat.le_of_ble_eq_true rfl⟩ ⟨Nat.zero_le _, Nat.zero_le _⟩ [0] ⟨rfl, trivial⟩ (os' := [(qm, (o0, cO 8 (mo A (nI 0) su (nI 0) bl (nI ci) (nI ma) pa en wr))), (q_circuitOf, (A 15, cI Y 6 co)), (q_inputs, (A 6, cI Y 6 i1))]) rfl (st' := [.int (nI sz)]) rfl ?_
    refine x_run C 10 3 (pc' := 22) (lv' := [(4, .int (nI sz)), (0, .ref o0), (1, .int (nI j)), (2, .int (nI k)), (3, .int 0)]) (st' := [.int (nI j), .ref o0]) rfl ?_
    refine x_cv C 13 (As := [.int (nI j)]) (rest := []) rfl vX8_230 N 0 rfl rfl (c_X8_isGarbled Y _ o0 A (nI 0) su 0 bl ci ma pa en wr j qm (ovl_at 0 N rfl) (N.ov [0] (by decide) rfl) (by first | assumption | omega) (by first | assumption | omega)) rfl rfl (Nat.le_of_ble_eq_true rfl) ⟨Nat.le_of_ble_eq_true rfl, Nat.le_of_ble_eq_true rfl⟩ ⟨Nat.zero_le _, Nat.zero_le _⟩ [0] ⟨rfl, trivial⟩ (os' := [(qm, (o0, cO 8 (mo A (nI 0) su (nI 0) bl (nI ci) (nI ma) pa en wr))), (q_circuitOf, (A 15, cI Y 6 co)), (q_inputs, (A 6, cI Y 6 i1))]) rfl (st' := [.int 1]) rfl ?_
    refine x_st (st' := [.int (nI 1)]) (by simp only [nlit, nI_add, pk_mul]) ?_
    refine x_ifN_eq C 14 (by omega) rfl (tgt := 58) rfl (fun hc2 => absurd hc2 (by omega)) (fun hc2 => ?_)
    refine x_run C 15 3 (pc' := 31) (lv' := [(4, .int (nI sz)), (0, .ref o0), (1, .int (nI j)), (2, .int (nI k)), (3, .int 0)]) (st' := [.ref o0, .int 0, .int (nI k)]) rfl ?_
    refine x_get C 18 rfl fX8_28 N 0 rfl (v := .ref (A 6)) rfl ?_
    refine x_run C 19 1 (pc' := 35) (lv' := [(4, .int (nI sz)), (0, .ref o0), (1, .int (nI j)), (2, .int (nI k)), (3, .int 0)]) (st' := [.ref o0, .ref (A 6), .int 0, .int (nI k)]) rfl ?_
    refine x_get C 20 rfl fX8_55 N 0 rfl (v := .ref (A 15)) rfl ?_
    refine x_run C 21 1 (pc' := 39) (lv' := [(4, .int (nI sz)), (0, .ref o0), (1, .int (nI j)), (2, .int (nI k)), (3, .int 0)]) (st' := [.int (nI j), .ref (A 15), .ref (A 6), .int 0, .int (nI k)]) rfl ?_
    refine x_ialdN C 22 rfl N 1 rfl (by omega) (by omega) ?_
    refine x_st (st' := [.int (nI c), .ref (A 6), .int 0, .int (nI k)]) (by rw [hco]) ?_
    refine x_ialdN C 23 rfl N 2 rfl (by omega) (by omega) ?_
    refine x_st (st' := [.int (nI n), .int 0, .int (nI k)]) (by rw [hin]) ?_
    refine x_run C 24 2 (pc' := 43) (lv' := [(4, .int (nI sz)), (0, .ref o0), (1, .int (nI j)), (2, .int (nI k)), (3, .int 0)]) (st' := [.int ((nI n) - 1), .int 0, .int (nI k)]) rfl ?_
    refine x_st (st' := [.int (nI (n - 1)), .int 0, .int (nI k)]) (by simp only [nlit, nI_add, pk_mul, pk_sub (show 1 ≤ n by omega)]) ?_
    refine x_st (st' := [.int (nI (n - 1)), .int (nI 0), .int (nI k)]) (by simp only [nlit, nI_add, pk_mul]) ?_
    refine x_cs C 26 (As := [.int (nI k), .int (nI 0), .int (nI (n - 1))]) (rest := []) rfl vX8_135 N (c_X8_in Y _ k 0 (n - 1)    (by first | assumption | omega) (by first | assumption | omega) (by first | assumption | omega)) rfl rfl (Nat.le_of_ble_eq_true rfl) ⟨Nat.le_of_ble_eq_true rfl, Nat.le_of_ble_eq_true rfl⟩ ⟨Nat.zero_le _, Nat.zero_le _⟩ [] trivial (os' := [(qm, (o0, cO 8 (mo A (nI 0) su (nI 0) bl (nI ci) (nI ma) pa en wr))), (q_circuitOf, (A 15, cI Y 6 co)), (q_inputs, (A 6, cI Y 6 i1))]) rfl (st' := [.int 1]) rfl ?_
    refine x_st (st' := [.int (nI 1)]) (by simp only [nlit, nI_add, pk_mul]) ?_
    refine x_ifN_eq C 27 (by omega) rfl (tgt := 58) rfl (fun hc3 => absurd hc3 (by omega)) (fun hc3 => ?_)
    refine x_run C 28 3 (pc' := 52) (lv' := [(4, .int (nI sz)), (0, .ref o0), (1, .int (nI j)), (2, .int (nI k)), (3, .int 0)]) (st' := [.int 0, .int (-1), .int 0]) rfl ?_
    refine x_cs C 31 (As := [.int 0, .int (-1), .int 0]) (rest := []) rfl vX8_135 N (c_X8_inT Y _ 0 (-1) 0    (by decide) (by decide)) rfl rfl (Nat.le_of_ble_eq_true rfl) ⟨Nat.le_of_ble_eq_true rfl, Nat.le_of_ble_eq_true rfl⟩ ⟨Nat.zero_le _, Nat.zero_le _⟩ [] trivial (os' := [(qm, (o0, cO 8 (mo A (nI 0) su (nI 0) bl (nI ci) (nI ma) pa en wr))), (q_circuitOf, (A 15, cI Y 6 co)), (q_inputs, (A 6, cI Y 6 i1))]) rfl (st' := [.int 1]) rfl ?_
    refine x_st (st' := [.int (nI 1)]) (by simp only [nlit, nI_add, pk_mul]) ?_
    refine x_ifN_ne C 32 (by omega) rfl (tgt := 60) rfl (fun hc4 => ?_) (fun hc4 => absurd hc4 (by omega))
    refine x_run C 35 1 (pc' := 61) (lv' := [(4, .int (nI sz)), (0, .ref o0), (1, .int (nI j)), (2, .int (nI k)), (3, .int 0)]) (st' := [.int 0]) rfl ?_
    refine x_st (st' := [.int (nI 0)]) (by simp only [nlit, nI_add, pk_mul]) ?_
    refine x_ifN_ne C 36 (by omega) rfl (tgt := 74) rfl (fun hc5 => absurd hc5 (by omega)) (fun hc5 => ?_)
    refine x_run C 37 2 (pc' := 68) (lv' := [(4, .int (nI sz)), (0, .ref o0), (1, .int (nI j)), (2, .int (nI k)), (3, .int 0)]) (st' := [.int 16, .int (nI sz)]) rfl ?_
    refine x_st (st' := [.int (nI 16), .int (nI sz)]) (by simp only [nlit, nI_add, pk_mul]) ?_
    refine x_icmpN_ge C 39 (by omega) (by omega) rfl (tgt := 74) rfl (fun hc6 => ?_) (fun hc6 => ?_)
    · exact absurd hc6 (by omega)
    · refine x_run C 40 1 (pc' := 73) (lv' := [(4, .int (nI sz)), (0, .ref o0), (1, .int (nI j)), (2, .int (nI k)), (3, .int 0)]) (st' := [.int (-4)]) rfl ?_
      exact x_iret C B rfl 41 rfl (Nat.zero_le _) (Nat.zero_le _) ⟨by first | contradiction | (simp only [if_neg hc1]; done) | (simp only [if_neg hc1]; simp only [nlit, nI_add, pk_mul]; done) | (simp only [if_neg hc1, nlit, nI_add, pk_mul]; done) | rfl | (simp only [if_neg hc1]; rfl) | (simp only [if_neg hc1, nlit, nI_add, pk_mul]; rfl), by first | contradiction | (simp only [if_neg hc1]; done) | (simp only [if_neg hc1]; simp only [nlit, nI_add, pk_mul]; done) | (simp only [if_neg hc1, nlit, nI_add, pk_mul]; done) | rfl | (simp only [if_neg hc1]; rfl) | (simp only [if_neg hc1, nlit, nI_add, pk_mul]; rfl)⟩
  · exact absurd hc1 (by decide)
set_option maxHeartbeats 4000000 in
set_option maxRecDepth 100000 in
theorem c_X8_lay (Y : xD) (w : va_W) (o0 : Nat) (A : Nat → Nat) (th : Int32) (su : Int32) (sz : Nat) (bl : Int32) (ci : Nat) (ma : Nat) (pa : Int32) (en : Int32) (wr : Int32) (co : Nat → Int32) (i1 : Nat → Int32) (g1 : Nat → Int32) (fh : Nat → Int32) (fn : Nat → Nat) (tq : Nat → Nat) (j : Nat) (c : Nat) (n : Nat) (g : Nat) (k : Nat) (qm q_circuitOf q_inputs q_gates q_has q_now q_tape : Nat) (e0 : w[qm]? = some (o0, cO 8 (mo A th su (nI sz) bl (nI ci) (nI ma) pa en wr))) (e1 : w[q_circuitOf]? = some (A 15, cI Y 6 co)) (e2 : w[q_inputs]? = some (A 6, cI Y 6 i1)) (e3 : w[q_gates]? = some (A 7, cI Y 6 g1)) (e4 : w[q_has]? = some (A 24, cZ Y 336 fh)) (e5 : w[q_now]? = some (A 23, cI Y 5376 (iF fn))) (e6 : w[q_tape]? = some (A 0, cI Y 4000 (iF tq))) (N : xN w.length [qm, q_circuitOf, q_inputs, q_gates, q_has, q_now, q_tape]) (hj : j < ma) (h6 : ma ≤ 6) (hc6 : c < 6) (hn16 : n ≤ 16) (hg40 : g ≤ 40) (hco : co j = nI c) (hin : i1 c = nI n) (hga : g1 c = nI g) (hk : k < n) (h16 : 16 ≤ sz) (h4 : sz ≤ 4000) : Cf Y mX8_lay 2 [.ref o0, .int (nI j), .int (nI k), .int 0] w (some (.int 1)) [(qm, (o0, cO 8 (mo A (nI 0) su (nI 0) bl (nI ci) (nI ma) pa en wr))), (q_circuitOf, (A 15, cI Y 6 co)), (q_inputs, (A 6, cI Y 6 i1)), (q_gates, (A 7, cI Y 6 g1)), (q_has, (A 24, cZ Y 336 (filI (upd fh (56 * j + k) 1) (56 * j + n) g 0))), (q_now, (A 23, cI Y 5376 (iF (filN fn (16 * (56 * j + k)) 16 tq)))), (q_tape, (A 0, cI Y 4000 (iF tq)))] := by
  refine Ct.intro (T := tX8_lay) (by decide) oX8_lay (Nat.le_of_ble_eq_true rfl) (fun G C B => ?_)
  refine x_lay [(qm, (o0, cO 8 (mo A th su (nI sz) bl (nI ci) (nI ma) pa en wr))), (q_circuitOf, (A 15, cI Y 6 co)), (q_inputs, (A 6, cI Y 6 i1)), (q_gates, (A 7, cI Y 6 g1)), (q_has, (A 24, cZ Y 336 fh)), (q_now, (A 23, cI Y 5376 (iF fn))), (q_tape, (A 0, cI Y 4000 (iF tq)))] (lay_cons e0 (lay_cons e1 (lay_cons e2 (lay_cons e3 (lay_cons e4 (lay_cons e5 (lay_cons e6 lay_nil))))))) ?_
  refine x_run C 0 2 (pc' := 2) (lv' := [(0, .ref o0), (1, .int (nI j)), (2, .int (nI k)), (3, .int 0)]) (st' := [.int 0, .ref o0]) rfl ?_
  refine x_put C 2 rfl pX8_117 N 0 rfl rfl rfl (Nat.le_of_ble_eq_true rfl) (os' := [(qm, (o0, cO 8 (mo A (nI 0) su (nI sz) bl (nI ci) (nI ma) pa en wr))), (q_circuitOf, (A 15, cI Y 6 co)), (q_inputs, (A 6, cI Y 6 i1)), (q_gates, (A 7, cI Y 6 g1)), (q_has, (A 24, cZ Y 336 fh)), (q_now, (A 23, cI Y 5376 (iF fn))), (q_tape, (A 0, cI Y 4000 (iF tq)))]) rfl ?_
  refine x_run C 3 2 (pc' := 7) (lv' := [(0, .ref o0), (1, .int (nI j)), (2, .int (nI k)), (3, .int 0)]) (st' := [.int (-1), .int 0]) rfl ?_
  refine x_icmp_ne C 5 rfl (tgt := 14) rfl (fun hc1 => ?_) (fun hc1 => ?_)
  · refine x_run C 8 1 (pc' := 15) (lv' := [(0, .ref o0), (1, .int (nI j)), (2, .int (nI k)), (3, .int 0)]) (st' := [.ref o0]) rfl ?_
    refine x_cv C 9 (As := []) (rest := []) rfl vX8_144 N 0 rfl rfl (c_X8_uses Y _ o0 A (nI 0) su sz bl ci ma pa en wr qm (ovl_at 0 N rfl) (N.ov [0] (by decide) rfl) ) rfl rfl (Nat.le_of_ble_eq_true rfl) ⟨Nat.le_of_ble_eq_true rfl, Nat.le_of_ble_eq_true rfl⟩ ⟨Nat.zero_le _, Nat.zero_le _⟩ [0] ⟨rfl, trivial⟩ (os' := [(qm, (o0, cO 8 (mo A (nI 0) su (nI 0) bl (nI ci) (nI ma) pa en wr))), (q_circuitOf, (A 15, cI Y 6 co)), (q_inputs, (A 6, cI Y 6 i1)), (q_gates, (A 7, cI Y 6 g1)), (q_has, (A 24, cZ Y 336 fh)), (q_now, (A 23, cI Y 5376 (iF fn))), (q_tape, (A 0, cI Y 4000 (iF tq)))]) rfl (st' := [.int (nI sz)]) rfl ?_
    refine x_run C 10 3 (pc' := 22) (lv' := [(4, .int (nI sz)), (0, .ref o0), (1, .int (nI j)), (2, .int (nI k)), (3, .int 0)]) (st' := [.int (nI j), .ref o0]) rfl ?_
    refine x_cv C 13 (As := [.int (nI j)]) (rest := []) rfl vX8_230 N 0 rfl rfl (c_X8_isGarbled Y _ o0 A (nI 0) su 0 bl ci ma pa en wr j qm (ovl_at 0 N rfl) (N.ov [0] (by decide) rfl) (by first | assumption | omega) (by first | assumption | omega)) rfl rfl (Nat.le_of_ble_eq_true rfl) ⟨Nat.le_of_ble_eq_true rfl, Nat.le_of_ble_eq_true rfl⟩ ⟨Nat.zero_le _, Nat.zero_le _⟩ [0] ⟨rfl, trivial⟩ (os' := [(qm, (o0, cO 8 (mo A (nI 0) su (nI 0) bl (nI ci) (nI ma) pa en wr))), (q_circuitOf, (A 15, cI Y 6 co)), (q_inputs, (A 6, cI Y 6 i1)), (q_gates, (A 7, cI Y 6 g1)), (q_has, (A 24, cZ Y 336 fh)), (q_now, (A 23, cI Y 5376 (iF fn))), (q_tape, (A 0, cI Y 4000 (iF tq)))]) rfl (st' := [.int 1]) rfl ?_
    refine x_st (st' := [.int (nI 1)]) (by simp only [nlit, nI_add, pk_mul]) ?_
    refine x_ifN_eq C 14 (by omega) rfl (tgt := 58) rfl (fun hc2 => absurd hc2 (by omega)) (fun hc2 => ?_)
    refine x_run C 15 3 (pc' := 31) (lv' := [(4, .int (nI sz)), (0, .ref o0), (1, .int (nI j)), (2, .int (nI k)), (3, .int 0)]) (st' := [.ref o0, .int 0, .int (nI k)]) rfl ?_
    refine x_get C 18 rfl fX8_28 N 0 rfl (v := .ref (A 6)) rfl ?_
    refine x_run C 19 1 (pc' := 35) (lv' := [(4, .int (nI sz)), (0, .ref o0), (1, .int (nI j)), (2, .int (nI k)), (3, .int 0)]) (st' := [.ref o0, .ref (A 6), .int 0, .int (nI k)]) rfl ?_
    refine x_get C 20 rfl fX8_55 N 0 rfl (v := .ref (A 15)) rfl ?_
    refine x_run C 21 1 (pc' := 39) (lv' := [(4, .int (nI sz)), (0, .ref o0), (1, .int (nI j)), (2, .int (nI k)), (3, .int 0)]) (st' := [.int (nI j), .ref (A 15), .ref (A 6), .int 0, .int (nI k)]) rfl ?_
    refine x_ialdN C 22 rfl N 1 rfl (by omega) (by omega) ?_
    refine x_st (st' := [.int (nI c), .ref (A 6), .int 0, .int (nI k)]) (by rw [hco]) ?_
    refine x_ialdN C 23 rfl N 2 rfl (by omega) (by omega) ?_
    refine x_st (st' := [.int (nI n), .int 0, .int (nI k)]) (by rw [hin]) ?_
    refine x_run C 24 2 (pc' := 43) (lv' := [(4, .int (nI sz)), (0, .ref o0), (1, .int (nI j)), (2, .int (nI k)), (3, .int 0)]) (st' := [.int ((nI n) - 1), .int 0, .int (nI k)]) rfl ?_
    refine x_st (st' := [.int (nI (n - 1)), .int 0, .int (nI k)]) (by simp only [nlit, nI_add, pk_mul, pk_sub (show 1 ≤ n by omega)]) ?_
    refine x_st (st' := [.int (nI (n - 1)), .int (nI 0), .int (nI k)]) (by simp only [nlit, nI_add, pk_mul]) ?_
    refine x_cs C 26 (As := [.int (nI k), .int (nI 0), .int (nI (n - 1))]) (rest := []) rfl vX8_135 N (c_X8_in Y _ k 0 (n - 1)    (by first | assumption | omega) (by first | assumption | omega) (by first | assumption | omega)) rfl rfl (Nat.le_of_ble_eq_true rfl) ⟨Nat.le_of_ble_eq_true rfl, Nat.le_of_ble_eq_true rfl⟩ ⟨Nat.zero_le _, Nat.zero_le _⟩ [] trivial (os' := [(qm, (o0, cO 8 (mo A (nI 0) su (nI 0) bl (nI ci) (nI ma) pa en wr))), (q_circuitOf, (A 15, cI Y 6 co)), (q_inputs, (A 6, cI Y 6 i1)), (q_gates, (A 7, cI Y 6 g1)), (q_has, (A 24, cZ Y 336 fh)), (q_now, (A 23, cI Y 5376 (iF fn))), (q_tape, (A 0, cI Y 4000 (iF tq)))]) rfl (st' := [.int 1]) rfl ?_
    refine x_st (st' := [.int (nI 1)]) (by simp only [nlit, nI_add, pk_mul]) ?_
    refine x_ifN_eq C 27 (by omega) rfl (tgt := 58) rfl (fun hc3 => absurd hc3 (by omega)) (fun hc3 => ?_)
    refine x_run C 28 3 (pc' := 52) (lv' := [(4, .int (nI sz)), (0, .ref o0), (1, .int (nI j)), (2, .int (nI k)), (3, .int 0)]) (st' := [.int 0, .int (-1), .int 0]) rfl ?_
    refine x_cs C 31 (As := [.int 0, .int (-1), .int 0]) (rest := []) rfl vX8_135 N (c_X8_inT Y _ 0 (-1) 0    (by decide) (by decide)) rfl rfl (Nat.le_of_ble_eq_true rfl) ⟨Nat.le_of_ble_eq_true rfl, Nat.le_of_ble_eq_true rfl⟩ ⟨Nat.zero_le _, Nat.zero_le _⟩ [] trivial (os' := [(qm, (o0, cO 8 (mo A (nI 0) su (nI 0) bl (nI ci) (nI ma) pa en wr))), (q_circuitOf, (A 15, cI Y 6 co)), (q_inputs, (A 6, cI Y 6 i1)), (q_gates, (A 7, cI Y 6 g1)), (q_has, (A 24, cZ Y 336 fh)), (q_now, (A 23, cI Y 5376 (iF fn))), (q_tape, (A 0, cI Y 4000 (iF tq)))]) rfl (st' := [.int 1]) rfl ?_
    refine x_st (st' := [.int (nI 1)]) (by simp only [nlit, nI_add, pk_mul]) ?_
    refine x_ifN_ne C 32 (by omega) rfl (tgt := 60) rfl (fun hc4 => ?_) (fun hc4 => absurd hc4 (by omega))
    refine x_run C 35 1 (pc' := 61) (lv' := [(4, .int (nI sz)), (0, .ref o0), (1, .int (nI j)), (2, .int (nI k)), (3, .int 0)]) (st' := [.int 0]) rfl ?_
    refine x_st (st' := [.int (nI 0)]) (by simp only [nlit, nI_add, pk_mul]) ?_
    refine x_ifN_ne C 36 (by omega) rfl (tgt := 74) rfl (fun hc5 => absurd hc5 (by omega)) (fun hc5 => ?_)
    refine x_run C 37 2 (pc' := 68) (lv' := [(4, .int (nI sz)), (0, .ref o0), (1, .int (nI j)), (2, .int (nI k)), (3, .int 0)]) (st' := [.int 16, .int (nI sz)]) rfl ?_
    refine x_st (st' := [.int (nI 16), .int (nI sz)]) (by simp only [nlit, nI_add, pk_mul]) ?_
    refine x_icmpN_ge C 39 (by omega) (by omega) rfl (tgt := 74) rfl (fun hc6 => ?_) (fun hc6 => ?_)
    · refine x_run C 42 2 (pc' := 77) (lv' := [(5, .int 0), (4, .int (nI sz)), (0, .ref o0), (1, .int (nI j)), (2, .int (nI k)), (3, .int 0)]) (st' := []) rfl ?_
      have L77 : ∀ i : Nat, 0 ≤ i → i ≤ 16 → X G Y 0 0 77 [(0, .ref o0), (1, .int (nI j)), (2, .int (nI k)), (3, .int 0), (4, .int (nI sz)), (5, .int (nI i))] [] (ovl w [(qm, (o0, cO 8 (mo A (nI 0) su (nI 0) bl (nI ci) (nI ma) pa en wr))), (q_circuitOf, (A 15, cI Y 6 co)), (q_inputs, (A 6, cI Y 6 i1)), (q_gates, (A 7, cI Y 6 g1)), (q_has, (A 24, cZ Y 336 fh)), (q_now, (A 23, cI Y 5376 (iF (filN fn (16 * (56 * j + k)) i tq)))), (q_tape, (A 0, cI Y 4000 (iF tq)))]) := by
        intro i lo77 hi77
        revert lo77
        refine x_up (fun i => 0 ≤ i → X G Y 0 0 77 [(0, .ref o0), (1, .int (nI j)), (2, .int (nI k)), (3, .int 0), (4, .int (nI sz)), (5, .int (nI i))] [] (ovl w [(qm, (o0, cO 8 (mo A (nI 0) su (nI 0) bl (nI ci) (nI ma) pa en wr))), (q_circuitOf, (A 15, cI Y 6 co)), (q_inputs, (A 6, cI Y 6 i1)), (q_gates, (A 7, cI Y 6 g1)), (q_has, (A 24, cZ Y 336 fh)), (q_now, (A 23, cI Y 5376 (iF (filN fn (16 * (56 * j + k)) i tq)))), (q_tape, (A 0, cI Y 4000 (iF tq)))])) 16 ?_ ?_ i hi77
        · intro lo77
          refine x_run C 44 2 (pc' := 81) (lv' := [(0, .ref o0), (1, .int (nI j)), (2, .int (nI k)), (3, .int 0), (4, .int (nI sz)), (5, .int (nI 16))]) (st' := [.int 16, .int (nI 16)]) rfl ?_
          refine x_st (st' := [.int (nI 16), .int (nI 16)]) (by simp only [nlit, nI_add, pk_mul]) ?_
          refine x_icmpN_ge C 46 (by omega) (by omega) rfl (tgt := 114) rfl (fun hc7 => ?_) (fun hc7 => ?_)
          · refine x_run C 63 1 (pc' := 115) (lv' := [(0, .ref o0), (1, .int (nI j)), (2, .int (nI k)), (3, .int 0), (4, .int (nI sz)), (5, .int (nI 16))]) (st' := [.ref o0]) rfl ?_
            refine x_get C 64 rfl fX8_82 N 0 rfl (v := .ref (A 24)) rfl ?_
            refine x_run C 65 6 (pc' := 125) (lv' := [(0, .ref o0), (1, .int (nI j)), (2, .int (nI k)), (3, .int 0), (4, .int (nI sz)), (5, .int (nI 16))]) (st' := [.int 0, .int ((56 * (nI j)) + (nI k)), .ref (A 24)]) rfl ?_
            refine x_st (st' := [.int (nI 0), .int ((56 * (nI j)) + (nI k)), .ref (A 24)]) (by simp only [nlit, nI_add, pk_mul]) ?_
            refine x_ifN_ne C 71 (by omega) rfl (tgt := 132) rfl (fun hc8 => absurd hc8 (by omega)) (fun hc8 => ?_)
            refine x_run C 72 2 (pc' := 133) (lv' := [(0, .ref o0), (1, .int (nI j)), (2, .int (nI k)), (3, .int 0), (4, .int (nI sz)), (5, .int (nI 16))]) (st' := [.int 1, .int ((56 * (nI j)) + (nI k)), .ref (A 24)]) rfl ?_
            refine x_st (st' := [.int 1, .int (nI ((56 * j) + k)), .ref (A 24)]) (by simp only [nlit, nI_add, pk_mul]) ?_
            refine x_zastN C 75 rfl N 4 rfl (by omega) (by omega) (os' := [(qm, (o0, cO 8 (mo A (nI 0) su (nI 0) bl (nI ci) (nI ma) pa en wr))), (q_circuitOf, (A 15, cI Y 6 co)), (q_inputs, (A 6, cI Y 6 i1)), (q_gates, (A 7, cI Y 6 g1)), (q_has, (A 24, cZ Y 336 (upd fh ((56 * j) + k) (vp_nar .boolean 1)))), (q_now, (A 23, cI Y 5376 (iF (filN fn (16 * (56 * j + k)) 16 tq)))), (q_tape, (A 0, cI Y 4000 (iF tq)))]) rfl ?_
            refine x_ov (os' := [(qm, (o0, cO 8 (mo A (nI 0) su (nI 0) bl (nI ci) (nI ma) pa en wr))), (q_circuitOf, (A 15, cI Y 6 co)), (q_inputs, (A 6, cI Y 6 i1)), (q_gates, (A 7, cI Y 6 g1)), (q_has, (A 24, cZ Y 336 (upd fh ((56 * j) + k) 1))), (q_now, (A 23, cI Y 5376 (iF (filN fn (16 * (56 * j + k)) 16 tq)))), (q_tape, (A 0, cI Y 4000 (iF tq)))]) (by rw [show vp_nar .boolean 1 = 1 from rfl]) ?_
            refine x_run C 76 2 (pc' := 136) (lv' := [(0, .ref o0), (1, .int (nI j)), (2, .int (nI k)), (3, .int 0), (4, .int (nI sz)), (5, .int (nI 16))]) (st' := [.int (nI j), .ref o0]) rfl ?_
            refine x_cv C 78 (As := [.int (nI j)]) (rest := []) rfl vX8_241 N 0 rfl rfl (c_X8_drops Y _ o0 A (nI 0) su 0 bl ci ma pa en wr co i1 g1 (upd fh ((56 * j) + k) 1) j c n g qm q_circuitOf q_inputs q_gates q_has (ovl_at 0 N rfl) (ovl_at 1 N rfl) (ovl_at 2 N rfl) (ovl_at 3 N rfl) (ovl_at 4 N rfl) (N.ov [0, 1, 2, 3, 4] (by decide) rfl) (by first | assumption | omega) (by first | assumption | omega) (by first | assumption | omega) (by first | assumption | omega) (by first | assumption | omega) (by first | assumption | omega) (by first | assumption | omega)) rfl rfl (Nat.le_of_ble_eq_true rfl) ⟨Nat.le_of_ble_eq_true rfl, Nat.le_of_ble_eq_true rfl⟩ ⟨Nat.zero_le _, Nat.zero_le _⟩ [0, 1, 2, 3, 4] ⟨rfl, rfl, rfl, rfl, rfl, trivial⟩ (os' := [(qm, (o0, cO 8 (mo A (nI 0) su (nI 0) bl (nI ci) (nI ma) pa en wr))), (q_circuitOf, (A 15, cI Y 6 co)), (q_inputs, (A 6, cI Y 6 i1)), (q_gates, (A 7, cI Y 6 g1)), (q_has, (A 24, cZ Y 336 (filI (upd fh ((56 * j) + k) 1) (56 * j + n) g 0))), (q_now, (A 23, cI Y 5376 (iF (filN fn (16 * (56 * j + k)) 16 tq)))), (q_tape, (A 0, cI Y 4000 (iF tq)))]) rfl (st' := []) rfl ?_
            refine x_run C 79 1 (pc' := 140) (lv' := [(0, .ref o0), (1, .int (nI j)), (2, .int (nI k)), (3, .int 0), (4, .int (nI sz)), (5, .int (nI 16))]) (st' := [.int 1]) rfl ?_
            exact x_iret C B rfl 80 rfl (Nat.zero_le _) (Nat.zero_le _) ⟨by first | contradiction | (simp only [if_neg hc1]; done) | (simp only [if_neg hc1]; simp only [nlit, nI_add, pk_mul]; done) | (simp only [if_neg hc1, nlit, nI_add, pk_mul]; done) | rfl | (simp only [if_neg hc1]; rfl) | (simp only [if_neg hc1, nlit, nI_add, pk_mul]; rfl), by first | contradiction | (simp only [if_neg hc1]; done) | (simp only [if_neg hc1]; simp only [nlit, nI_add, pk_mul]; done) | (simp only [if_neg hc1, nlit, nI_add, pk_mul]; done) | rfl | (simp only [if_neg hc1]; rfl) | (simp only [if_neg hc1, nlit, nI_add, pk_mul]; rfl)⟩
          · exact absurd hc7 (by omega)
        · intro i hi77 ih77 lo77
          refine x_run C 44 2 (pc' := 81) (lv' := [(0, .ref o0), (1, .int (nI j)), (2, .int (nI k)), (3, .int 0), (4, .int (nI sz)), (5, .int (nI i))]) (st' := [.int 16, .int (nI i)]) rfl ?_
          refine x_st (st' := [.int (nI 16), .int (nI i)]) (by simp only [nlit, nI_add, pk_mul]) ?_
          refine x_icmpN_ge C 46 (by omega) (by omega) rfl (tgt := 114) rfl (fun hc9 => ?_) (fun hc9 => ?_)
          · exact absurd hc9 (by omega)
          · refine x_run C 47 1 (pc' := 85) (lv' := [(0, .ref o0), (1, .int (nI j)), (2, .int (nI k)), (3, .int 0), (4, .int (nI sz)), (5, .int (nI i))]) (st' := [.int 0]) rfl ?_
            refine x_st (st' := [.int (nI 0)]) (by simp only [nlit, nI_add, pk_mul]) ?_
            refine x_ifN_ne C 48 (by omega) rfl (tgt := 114) rfl (fun hc10 => absurd hc10 (by omega)) (fun hc10 => ?_)
            refine x_run C 49 1 (pc' := 89) (lv' := [(0, .ref o0), (1, .int (nI j)), (2, .int (nI k)), (3, .int 0), (4, .int (nI sz)), (5, .int (nI i))]) (st' := [.ref o0]) rfl ?_
            refine x_get C 50 rfl fX8_79 N 0 rfl (v := .ref (A 23)) rfl ?_
            refine x_run C 51 2 (pc' := 94) (lv' := [(0, .ref o0), (1, .int (nI j)), (2, .int (nI k)), (3, .int 0), (4, .int (nI sz)), (5, .int (nI i))]) (st' := [.int (nI k), .int (nI j), .ref (A 23)]) rfl ?_
            refine x_cs C 53 (As := [.int (nI j), .int (nI k)]) (rest := [.ref (A 23)]) rfl vX8_210 N (c_X8_placeOf Y _ j k    ) rfl rfl (Nat.le_of_ble_eq_true rfl) ⟨Nat.le_of_ble_eq_true rfl, Nat.le_of_ble_eq_true rfl⟩ ⟨Nat.zero_le _, Nat.zero_le _⟩ [] trivial (os' := [(qm, (o0, cO 8 (mo A (nI 0) su (nI 0) bl (nI ci) (nI ma) pa en wr))), (q_circuitOf, (A 15, cI Y 6 co)), (q_inputs, (A 6, cI Y 6 i1)), (q_gates, (A 7, cI Y 6 g1)), (q_has, (A 24, cZ Y 336 fh)), (q_now, (A 23, cI Y 5376 (iF (filN fn (16 * (56 * j + k)) i tq)))), (q_tape, (A 0, cI Y 4000 (iF tq)))]) rfl (st' := [.int (nI (16 * (56 * j + k))), .ref (A 23)]) rfl ?_
            refine x_run C 54 3 (pc' := 101) (lv' := [(0, .ref o0), (1, .int (nI j)), (2, .int (nI k)), (3, .int 0), (4, .int (nI sz)), (5, .int (nI i))]) (st' := [.ref o0, .int ((nI (16 * (56 * j + k))) + (nI i)), .ref (A 23)]) rfl ?_
            refine x_get C 57 rfl fX8_7 N 0 rfl (v := .ref (A 0)) rfl ?_
            refine x_run C 58 1 (pc' := 106) (lv' := [(0, .ref o0), (1, .int (nI j)), (2, .int (nI k)), (3, .int 0), (4, .int (nI sz)), (5, .int (nI i))]) (st' := [.int (nI i), .ref (A 0), .int ((nI (16 * (56 * j + k))) + (nI i)), .ref (A 23)]) rfl ?_
            refine x_ialdN C 59 rfl N 6 rfl (by omega) (by omega) ?_
            refine x_st (st' := [.int (nI (tq i)), .int ((nI (16 * (56 * j + k))) + (nI i)), .ref (A 23)]) rfl ?_
            refine x_st (st' := [.int (nI (tq i)), .int (nI ((16 * (56 * j + k)) + i)), .ref (A 23)]) (by simp only [nlit, nI_add, pk_mul]) ?_
            refine x_iastN C 60 rfl N 5 rfl (by omega) (by omega) (os' := [(qm, (o0, cO 8 (mo A (nI 0) su (nI 0) bl (nI ci) (nI ma) pa en wr))), (q_circuitOf, (A 15, cI Y 6 co)), (q_inputs, (A 6, cI Y 6 i1)), (q_gates, (A 7, cI Y 6 g1)), (q_has, (A 24, cZ Y 336 fh)), (q_now, (A 23, cI Y 5376 (upd (iF (filN fn (16 * (56 * j + k)) i tq)) ((16 * (56 * j + k)) + i) (nI (tq i))))), (q_tape, (A 0, cI Y 4000 (iF tq)))]) rfl ?_
            refine x_ov (os' := [(qm, (o0, cO 8 (mo A (nI 0) su (nI 0) bl (nI ci) (nI ma) pa en wr))), (q_circuitOf, (A 15, cI Y 6 co)), (q_inputs, (A 6, cI Y 6 i1)), (q_gates, (A 7, cI Y 6 g1)), (q_has, (A 24, cZ Y 336 fh)), (q_now, (A 23, cI Y 5376 (iF (updN (filN fn (16 * (56 * j + k)) i tq) ((16 * (56 * j + k)) + i) (tq i))))), (q_tape, (A 0, cI Y 4000 (iF tq)))]) (by rw [upd_iF]) ?_
            refine x_run C 61 2 (pc' := 77) (lv' := [(5, .int ((nI i) + 1)), (0, .ref o0), (1, .int (nI j)), (2, .int (nI k)), (3, .int 0), (4, .int (nI sz))]) (st' := []) rfl ?_
            refine x_sub (lv' := [(0, .ref o0), (1, .int (nI j)), (2, .int (nI k)), (3, .int 0), (4, .int (nI sz)), (5, .int ((nI i) + 1))]) [1, 2, 3, 4, 5, 0] rfl ?_
            refine x_loc (lv' := [(0, .ref o0), (1, .int (nI j)), (2, .int (nI k)), (3, .int 0), (4, .int (nI sz)), (5, .int (nI (i + 1)))]) (by simp only [nlit, nI_add, pk_mul]) ?_
            refine x_ov (os' := [(qm, (o0, cO 8 (mo A (nI 0) su (nI 0) bl (nI ci) (nI ma) pa en wr))), (q_circuitOf, (A 15, cI Y 6 co)), (q_inputs, (A 6, cI Y 6 i1)), (q_gates, (A 7, cI Y 6 g1)), (q_has, (A 24, cZ Y 336 fh)), (q_now, (A 23, cI Y 5376 (iF (filN fn (16 * (56 * j + k)) (i + 1) tq)))), (q_tape, (A 0, cI Y 4000 (iF tq)))]) (by rw [← filN_s]) ?_
            exact ih77 (by omega)
      refine x_sub (lv' := [(0, .ref o0), (1, .int (nI j)), (2, .int (nI k)), (3, .int 0), (4, .int (nI sz)), (5, .int 0)]) [2, 3, 4, 5, 1, 0] rfl ?_
      refine x_loc (lv' := [(0, .ref o0), (1, .int (nI j)), (2, .int (nI k)), (3, .int 0), (4, .int (nI sz)), (5, .int (nI 0))]) (by simp only [nlit, nI_add, pk_mul]) ?_
      refine x_ov (os' := [(qm, (o0, cO 8 (mo A (nI 0) su (nI 0) bl (nI ci) (nI ma) pa en wr))), (q_circuitOf, (A 15, cI Y 6 co)), (q_inputs, (A 6, cI Y 6 i1)), (q_gates, (A 7, cI Y 6 g1)), (q_has, (A 24, cZ Y 336 fh)), (q_now, (A 23, cI Y 5376 (iF (filN fn (16 * (56 * j + k)) 0 tq)))), (q_tape, (A 0, cI Y 4000 (iF tq)))]) (by rw [filN_0]) ?_
      exact L77 0 (Nat.le_refl _) (by omega)
    · exact absurd hc6 (by omega)
  · exact absurd hc1 (by decide)
set_option maxHeartbeats 4000000 in
set_option maxRecDepth 100000 in
theorem c_X8_toldF (Y : xD) (w : va_W) (o0 : Nat) (A : Nat → Nat) (th : Int32) (su : Int32) (sz : Nat) (bl : Int32) (ci : Nat) (ma : Nat) (pa : Int32) (en : Int32) (wr : Int32) (x : Int32) (x0 : Int32) (qm : Nat) (e0 : w[qm]? = some (o0, cO 8 (mo A th su (nI sz) bl (nI ci) (nI ma) pa en wr))) (N : xN w.length [qm]) (hx : x < 0 ∨ nI ma ≤ x) (h6 : ma ≤ 6) : Cf Y mX8_told 2 [.ref o0, .int x, .int x0] w (some (.int (-1))) [(qm, (o0, cO 8 (mo A (nI 0) su (nI sz) bl (nI ci) (nI ma) pa en wr)))] := by
  refine Ct.intro (T := tX8_told) (by decide) oX8_told (Nat.le_of_ble_eq_true rfl) (fun G C B => ?_)
  refine x_lay [(qm, (o0, cO 8 (mo A th su (nI sz) bl (nI ci) (nI ma) pa en wr)))] (lay_cons e0 lay_nil) ?_
  refine x_run C 0 2 (pc' := 2) (lv' := [(0, .ref o0), (1, .int x), (2, .int x0)]) (st' := [.int 0, .ref o0]) rfl ?_
  refine x_put C 2 rfl pX8_117 N 0 rfl rfl rfl (Nat.le_of_ble_eq_true rfl) (os' := [(qm, (o0, cO 8 (mo A (nI 0) su (nI sz) bl (nI ci) (nI ma) pa en wr)))]) rfl ?_
  refine x_run C 3 2 (pc' := 7) (lv' := [(0, .ref o0), (1, .int x), (2, .int x0)]) (st' := [.int x, .ref o0]) rfl ?_
  refine x_cv C 5 (As := [.int x]) (rest := []) rfl vX8_230 N 0 rfl rfl (c_X8_isGarbledF Y _ o0 A (nI 0) su sz bl ci ma pa en wr x qm (ovl_at 0 N rfl) (N.ov [0] (by decide) rfl) hx (by first | assumption | omega)) rfl rfl (Nat.le_of_ble_eq_true rfl) ⟨Nat.le_of_ble_eq_true rfl, Nat.le_of_ble_eq_true rfl⟩ ⟨Nat.zero_le _, Nat.zero_le _⟩ [0] ⟨rfl, trivial⟩ (os' := [(qm, (o0, cO 8 (mo A (nI 0) su (nI sz) bl (nI ci) (nI ma) pa en wr)))]) rfl (st' := [.int 0]) rfl ?_
  refine x_st (st' := [.int (nI 0)]) (by simp only [nlit, nI_add, pk_mul]) ?_
  refine x_ifN_eq C 6 (by omega) rfl (tgt := 23) rfl (fun hc1 => ?_) (fun hc1 => absurd hc1 (by omega))
  refine x_run C 12 1 (pc' := 24) (lv' := [(0, .ref o0), (1, .int x), (2, .int x0)]) (st' := [.int (-1)]) rfl ?_
  exact x_iret C B rfl 13 rfl (Nat.zero_le _) (Nat.zero_le _) ⟨by first | rfl | (simp only [nlit, nI_add, pk_mul]; done), by first | rfl | (simp only [nlit, nI_add, pk_mul]; done)⟩
set_option maxHeartbeats 4000000 in
set_option maxRecDepth 100000 in
theorem c_X8_toldV (Y : xD) (w : va_W) (o0 : Nat) (A : Nat → Nat) (th : Int32) (su : Int32) (sz : Nat) (bl : Int32) (ci : Nat) (ma : Nat) (pa : Int32) (en : Int32) (wr : Int32) (co : Nat → Int32) (wy : Nat → Int32) (kn : Nat → Int32) (sp : Nat → Int32) (wk : Nat → Int32) (i1 : Nat → Int32) (g1 : Nat → Int32) (t1 : Nat → Int32) (fh : Nat → Int32) (j : Nat) (c : Nat) (y : Nat) (kd : Nat) (n : Nat) (g : Nat) (tb : Nat) (x : Int32) (qm q_circuitOf q_way q_kind q_spent q_worked q_inputs q_gates q_tabled q_has : Nat) (e0 : w[qm]? = some (o0, cO 8 (mo A th su (nI sz) bl (nI ci) (nI ma) pa en wr))) (e1 : w[q_circuitOf]? = some (A 15, cI Y 6 co)) (e2 : w[q_way]? = some (A 16, cI Y 6 wy)) (e3 : w[q_kind]? = some (A 17, cI Y 6 kn)) (e4 : w[q_spent]? = some (A 18, cI Y 6 sp)) (e5 : w[q_worked]? = some (A 19, cI Y 6 wk)) (e6 : w[q_inputs]? = some (A 6, cI Y 6 i1)) (e7 : w[q_gates]? = some (A 7, cI Y 6 g1)) (e8 : w[q_tabled]? = some (A 9, cI Y 6 t1)) (e9 : w[q_has]? = some (A 24, cZ Y 336 fh)) (N : xN w.length [qm, q_circuitOf, q_way, q_kind, q_spent, q_worked, q_inputs, q_gates, q_tabled, q_has]) (hj : j < ma) (h6 : ma ≤ 6) (hc6 : c < 6) (hn16 : n ≤ 16) (hg40 : g ≤ 40) (hco : co j = nI c) (hwy : wy j = nI y) (hkn : kn j = nI kd) (hin : i1 c = nI n) (hga : g1 c = nI g) (htb : t1 c = nI tb) (hy3 : y < 3) (htb4 : tb ≤ 40) (hx : x < 0 ∨ nI 6 < x) : Cf Y mX8_told 2 [.ref o0, .int (nI j), .int x] w (some (.int (-1))) [(qm, (o0, cO 8 (mo A (nI 0) su (nI sz) bl (nI ci) (nI ma) pa en wr))), (q_circuitOf, (A 15, cI Y 6 co)), (q_way, (A 16, cI Y 6 wy)), (q_kind, (A 17, cI Y 6 kn)), (q_spent, (A 18, cI Y 6 sp)), (q_worked, (A 19, cI Y 6 wk)), (q_inputs, (A 6, cI Y 6 i1)), (q_gates, (A 7, cI Y 6 g1)), (q_tabled, (A 9, cI Y 6 t1)), (q_has, (A 24, cZ Y 336 fh))] := by
  refine Ct.intro (T := tX8_told) (by decide) oX8_told (Nat.le_of_ble_eq_true rfl) (fun G C B => ?_)
  refine x_lay [(qm, (o0, cO 8 (mo A th su (nI sz) bl (nI ci) (nI ma) pa en wr))), (q_circuitOf, (A 15, cI Y 6 co)), (q_way, (A 16, cI Y 6 wy)), (q_kind, (A 17, cI Y 6 kn)), (q_spent, (A 18, cI Y 6 sp)), (q_worked, (A 19, cI Y 6 wk)), (q_inputs, (A 6, cI Y 6 i1)), (q_gates, (A 7, cI Y 6 g1)), (q_tabled, (A 9, cI Y 6 t1)), (q_has, (A 24, cZ Y 336 fh))] (lay_cons e0 (lay_cons e1 (lay_cons e2 (lay_cons e3 (lay_cons e4 (lay_cons e5 (lay_cons e6 (lay_cons e7 (lay_cons e8 (lay_cons e9 lay_nil)))))))))) ?_
  refine x_run C 0 2 (pc' := 2) (lv' := [(0, .ref o0), (1, .int (nI j)), (2, .int x)]) (st' := [.int 0, .ref o0]) rfl ?_
  refine x_put C 2 rfl pX8_117 N 0 rfl rfl rfl (Nat.le_of_ble_eq_true rfl) (os' := [(qm, (o0, cO 8 (mo A (nI 0) su (nI sz) bl (nI ci) (nI ma) pa en wr))), (q_circuitOf, (A 15, cI Y 6 co)), (q_way, (A 16, cI Y 6 wy)), (q_kind, (A 17, cI Y 6 kn)), (q_spent, (A 18, cI Y 6 sp)), (q_worked, (A 19, cI Y 6 wk)), (q_inputs, (A 6, cI Y 6 i1)), (q_gates, (A 7, cI Y 6 g1)), (q_tabled, (A 9, cI Y 6 t1)), (q_has, (A 24, cZ Y 336 fh))]) rfl ?_
  refine x_run C 3 2 (pc' := 7) (lv' := [(0, .ref o0), (1, .int (nI j)), (2, .int x)]) (st' := [.int (nI j), .ref o0]) rfl ?_
  refine x_cv C 5 (As := [.int (nI j)]) (rest := []) rfl vX8_230 N 0 rfl rfl (c_X8_isGarbled Y _ o0 A (nI 0) su sz bl ci ma pa en wr j qm (ovl_at 0 N rfl) (N.ov [0] (by decide) rfl) (by first | assumption | omega) (by first | assumption | omega)) rfl rfl (Nat.le_of_ble_eq_true rfl) ⟨Nat.le_of_ble_eq_true rfl, Nat.le_of_ble_eq_true rfl⟩ ⟨Nat.zero_le _, Nat.zero_le _⟩ [0] ⟨rfl, trivial⟩ (os' := [(qm, (o0, cO 8 (mo A (nI 0) su (nI sz) bl (nI ci) (nI ma) pa en wr))), (q_circuitOf, (A 15, cI Y 6 co)), (q_way, (A 16, cI Y 6 wy)), (q_kind, (A 17, cI Y 6 kn)), (q_spent, (A 18, cI Y 6 sp)), (q_worked, (A 19, cI Y 6 wk)), (q_inputs, (A 6, cI Y 6 i1)), (q_gates, (A 7, cI Y 6 g1)), (q_tabled, (A 9, cI Y 6 t1)), (q_has, (A 24, cZ Y 336 fh))]) rfl (st' := [.int 1]) rfl ?_
  refine x_st (st' := [.int (nI 1)]) (by simp only [nlit, nI_add, pk_mul]) ?_
  refine x_ifN_eq C 6 (by omega) rfl (tgt := 23) rfl (fun hc1 => absurd hc1 (by omega)) (fun hc1 => ?_)
  refine x_run C 7 3 (pc' := 17) (lv' := [(0, .ref o0), (1, .int (nI j)), (2, .int x)]) (st' := [.int 6, .int 0, .int x]) rfl ?_
  refine x_cs C 10 (As := [.int x, .int 0, .int 6]) (rest := []) rfl vX8_135 N (c_X8_inF Y _ x 0 6    hx) rfl rfl (Nat.le_of_ble_eq_true rfl) ⟨Nat.le_of_ble_eq_true rfl, Nat.le_of_ble_eq_true rfl⟩ ⟨Nat.zero_le _, Nat.zero_le _⟩ [] trivial (os' := [(qm, (o0, cO 8 (mo A (nI 0) su (nI sz) bl (nI ci) (nI ma) pa en wr))), (q_circuitOf, (A 15, cI Y 6 co)), (q_way, (A 16, cI Y 6 wy)), (q_kind, (A 17, cI Y 6 kn)), (q_spent, (A 18, cI Y 6 sp)), (q_worked, (A 19, cI Y 6 wk)), (q_inputs, (A 6, cI Y 6 i1)), (q_gates, (A 7, cI Y 6 g1)), (q_tabled, (A 9, cI Y 6 t1)), (q_has, (A 24, cZ Y 336 fh))]) rfl (st' := [.int 0]) rfl ?_
  refine x_st (st' := [.int (nI 0)]) (by simp only [nlit, nI_add, pk_mul]) ?_
  refine x_ifN_ne C 11 (by omega) rfl (tgt := 25) rfl (fun hc2 => absurd hc2 (by omega)) (fun hc2 => ?_)
  refine x_run C 12 1 (pc' := 24) (lv' := [(0, .ref o0), (1, .int (nI j)), (2, .int x)]) (st' := [.int (-1)]) rfl ?_
  exact x_iret C B rfl 13 rfl (Nat.zero_le _) (Nat.zero_le _) ⟨by rfl, rfl⟩
set_option maxHeartbeats 4000000 in
set_option maxRecDepth 100000 in
theorem c_X8_toldV0 (Y : xD) (w : va_W) (o0 : Nat) (A : Nat → Nat) (th : Int32) (su : Int32) (sz : Nat) (bl : Int32) (ci : Nat) (ma : Nat) (pa : Int32) (en : Int32) (wr : Int32) (co : Nat → Int32) (wy : Nat → Int32) (kn : Nat → Int32) (sp : Nat → Int32) (wk : Nat → Int32) (i1 : Nat → Int32) (g1 : Nat → Int32) (t1 : Nat → Int32) (fh : Nat → Int32) (j : Nat) (c : Nat) (y : Nat) (kd : Nat) (n : Nat) (g : Nat) (tb : Nat) (qm q_circuitOf q_way q_kind q_spent q_worked q_inputs q_gates q_tabled q_has : Nat) (e0 : w[qm]? = some (o0, cO 8 (mo A th su (nI sz) bl (nI ci) (nI ma) pa en wr))) (e1 : w[q_circuitOf]? = some (A 15, cI Y 6 co)) (e2 : w[q_way]? = some (A 16, cI Y 6 wy)) (e3 : w[q_kind]? = some (A 17, cI Y 6 kn)) (e4 : w[q_spent]? = some (A 18, cI Y 6 sp)) (e5 : w[q_worked]? = some (A 19, cI Y 6 wk)) (e6 : w[q_inputs]? = some (A 6, cI Y 6 i1)) (e7 : w[q_gates]? = some (A 7, cI Y 6 g1)) (e8 : w[q_tabled]? = some (A 9, cI Y 6 t1)) (e9 : w[q_has]? = some (A 24, cZ Y 336 fh)) (N : xN w.length [qm, q_circuitOf, q_way, q_kind, q_spent, q_worked, q_inputs, q_gates, q_tabled, q_has]) (hj : j < ma) (h6 : ma ≤ 6) (hc6 : c < 6) (hn16 : n ≤ 16) (hg40 : g ≤ 40) (hco : co j = nI c) (hwy : wy j = nI y) (hkn : kn j = nI kd) (hin : i1 c = nI n) (hga : g1 c = nI g) (htb : t1 c = nI tb) (hy3 : y < 3) (htb4 : tb ≤ 40) : Cf Y mX8_told 2 [.ref o0, .int (nI j), .int 0] w (some (.int (tdR 0 c y kd tb (sp j) (lwM fh j (n + g)) (wk j)))) [(qm, (o0, cO 8 (mo A (nI 0) su (nI sz) bl (nI ci) (nI ma) pa en wr))), (q_circuitOf, (A 15, cI Y 6 co)), (q_way, (A 16, cI Y 6 wy)), (q_kind, (A 17, cI Y 6 kn)), (q_spent, (A 18, cI Y 6 sp)), (q_worked, (A 19, cI Y 6 wk)), (q_inputs, (A 6, cI Y 6 i1)), (q_gates, (A 7, cI Y 6 g1)), (q_tabled, (A 9, cI Y 6 t1)), (q_has, (A 24, cZ Y 336 fh))] := by
  refine Ct.intro (T := tX8_told) (by decide) oX8_told (Nat.le_of_ble_eq_true rfl) (fun G C B => ?_)
  refine x_lay [(qm, (o0, cO 8 (mo A th su (nI sz) bl (nI ci) (nI ma) pa en wr))), (q_circuitOf, (A 15, cI Y 6 co)), (q_way, (A 16, cI Y 6 wy)), (q_kind, (A 17, cI Y 6 kn)), (q_spent, (A 18, cI Y 6 sp)), (q_worked, (A 19, cI Y 6 wk)), (q_inputs, (A 6, cI Y 6 i1)), (q_gates, (A 7, cI Y 6 g1)), (q_tabled, (A 9, cI Y 6 t1)), (q_has, (A 24, cZ Y 336 fh))] (lay_cons e0 (lay_cons e1 (lay_cons e2 (lay_cons e3 (lay_cons e4 (lay_cons e5 (lay_cons e6 (lay_cons e7 (lay_cons e8 (lay_cons e9 lay_nil)))))))))) ?_
  refine x_run C 0 2 (pc' := 2) (lv' := [(0, .ref o0), (1, .int (nI j)), (2, .int 0)]) (st' := [.int 0, .ref o0]) rfl ?_
  refine x_put C 2 rfl pX8_117 N 0 rfl rfl rfl (Nat.le_of_ble_eq_true rfl) (os' := [(qm, (o0, cO 8 (mo A (nI 0) su (nI sz) bl (nI ci) (nI ma) pa en wr))), (q_circuitOf, (A 15, cI Y 6 co)), (q_way, (A 16, cI Y 6 wy)), (q_kind, (A 17, cI Y 6 kn)), (q_spent, (A 18, cI Y 6 sp)), (q_worked, (A 19, cI Y 6 wk)), (q_inputs, (A 6, cI Y 6 i1)), (q_gates, (A 7, cI Y 6 g1)), (q_tabled, (A 9, cI Y 6 t1)), (q_has, (A 24, cZ Y 336 fh))]) rfl ?_
  refine x_run C 3 2 (pc' := 7) (lv' := [(0, .ref o0), (1, .int (nI j)), (2, .int 0)]) (st' := [.int (nI j), .ref o0]) rfl ?_
  refine x_cv C 5 (As := [.int (nI j)]) (rest := []) rfl vX8_230 N 0 rfl rfl (c_X8_isGarbled Y _ o0 A (nI 0) su sz bl ci ma pa en wr j qm (ovl_at 0 N rfl) (N.ov [0] (by decide) rfl) (by first | assumption | omega) (by first | assumption | omega)) rfl rfl (Nat.le_of_ble_eq_true rfl) ⟨Nat.le_of_ble_eq_true rfl, Nat.le_of_ble_eq_true rfl⟩ ⟨Nat.zero_le _, Nat.zero_le _⟩ [0] ⟨rfl, trivial⟩ (os' := [(qm, (o0, cO 8 (mo A (nI 0) su (nI sz) bl (nI ci) (nI ma) pa en wr))), (q_circuitOf, (A 15, cI Y 6 co)), (q_way, (A 16, cI Y 6 wy)), (q_kind, (A 17, cI Y 6 kn)), (q_spent, (A 18, cI Y 6 sp)), (q_worked, (A 19, cI Y 6 wk)), (q_inputs, (A 6, cI Y 6 i1)), (q_gates, (A 7, cI Y 6 g1)), (q_tabled, (A 9, cI Y 6 t1)), (q_has, (A 24, cZ Y 336 fh))]) rfl (st' := [.int 1]) rfl ?_
  refine x_st (st' := [.int (nI 1)]) (by simp only [nlit, nI_add, pk_mul]) ?_
  refine x_ifN_eq C 6 (by omega) rfl (tgt := 23) rfl (fun hc1 => absurd hc1 (by omega)) (fun hc1 => ?_)
  refine x_run C 7 3 (pc' := 17) (lv' := [(0, .ref o0), (1, .int (nI j)), (2, .int 0)]) (st' := [.int 6, .int 0, .int 0]) rfl ?_
  refine x_st (st' := [.int (nI 6), .int (nI 0), .int (nI 0)]) (by simp only [nlit, nI_add, pk_mul]) ?_
  refine x_cs C 10 (As := [.int (nI 0), .int (nI 0), .int (nI 6)]) (rest := []) rfl vX8_135 N (c_X8_in Y _ 0 0 6    (by first | assumption | omega) (by first | assumption | omega) (by first | assumption | omega)) rfl rfl (Nat.le_of_ble_eq_true rfl) ⟨Nat.le_of_ble_eq_true rfl, Nat.le_of_ble_eq_true rfl⟩ ⟨Nat.zero_le _, Nat.zero_le _⟩ [] trivial (os' := [(qm, (o0, cO 8 (mo A (nI 0) su (nI sz) bl (nI ci) (nI ma) pa en wr))), (q_circuitOf, (A 15, cI Y 6 co)), (q_way, (A 16, cI Y 6 wy)), (q_kind, (A 17, cI Y 6 kn)), (q_spent, (A 18, cI Y 6 sp)), (q_worked, (A 19, cI Y 6 wk)), (q_inputs, (A 6, cI Y 6 i1)), (q_gates, (A 7, cI Y 6 g1)), (q_tabled, (A 9, cI Y 6 t1)), (q_has, (A 24, cZ Y 336 fh))]) rfl (st' := [.int 1]) rfl ?_
  refine x_st (st' := [.int (nI 1)]) (by simp only [nlit, nI_add, pk_mul]) ?_
  refine x_ifN_ne C 11 (by omega) rfl (tgt := 25) rfl (fun hc2 => ?_) (fun hc2 => absurd hc2 (by omega))
  refine x_run C 14 1 (pc' := 26) (lv' := [(0, .ref o0), (1, .int (nI j)), (2, .int 0)]) (st' := [.ref o0]) rfl ?_
  refine x_get C 15 rfl fX8_55 N 0 rfl (v := .ref (A 15)) rfl ?_
  refine x_run C 16 1 (pc' := 30) (lv' := [(0, .ref o0), (1, .int (nI j)), (2, .int 0)]) (st' := [.int (nI j), .ref (A 15)]) rfl ?_
  refine x_ialdN C 17 rfl N 1 rfl (by omega) (by omega) ?_
  refine x_st (st' := [.int (nI c)]) (by rw [hco]) ?_
  refine x_run C 18 2 (pc' := 33) (lv' := [(3, .int (nI c)), (0, .ref o0), (1, .int (nI j)), (2, .int 0)]) (st' := [.int 0]) rfl ?_
  refine x_tin C 20 rfl (by decide) (by decide) (off := 39) rfl (tgt := 72) rfl ?_
  refine x_run C 21 1 (pc' := 73) (lv' := [(3, .int (nI c)), (0, .ref o0), (1, .int (nI j)), (2, .int 0)]) (st' := [.int (nI c)]) rfl ?_
  exact x_iret C B rfl 22 rfl (Nat.zero_le _) (Nat.zero_le _) ⟨by rfl, rfl⟩
set_option maxHeartbeats 4000000 in
set_option maxRecDepth 100000 in
theorem c_X8_toldV1 (Y : xD) (w : va_W) (o0 : Nat) (A : Nat → Nat) (th : Int32) (su : Int32) (sz : Nat) (bl : Int32) (ci : Nat) (ma : Nat) (pa : Int32) (en : Int32) (wr : Int32) (co : Nat → Int32) (wy : Nat → Int32) (kn : Nat → Int32) (sp : Nat → Int32) (wk : Nat → Int32) (i1 : Nat → Int32) (g1 : Nat → Int32) (t1 : Nat → Int32) (fh : Nat → Int32) (j : Nat) (c : Nat) (y : Nat) (kd : Nat) (n : Nat) (g : Nat) (tb : Nat) (qm q_circuitOf q_way q_kind q_spent q_worked q_inputs q_gates q_tabled q_has : Nat) (e0 : w[qm]? = some (o0, cO 8 (mo A th su (nI sz) bl (nI ci) (nI ma) pa en wr))) (e1 : w[q_circuitOf]? = some (A 15, cI Y 6 co)) (e2 : w[q_way]? = some (A 16, cI Y 6 wy)) (e3 : w[q_kind]? = some (A 17, cI Y 6 kn)) (e4 : w[q_spent]? = some (A 18, cI Y 6 sp)) (e5 : w[q_worked]? = some (A 19, cI Y 6 wk)) (e6 : w[q_inputs]? = some (A 6, cI Y 6 i1)) (e7 : w[q_gates]? = some (A 7, cI Y 6 g1)) (e8 : w[q_tabled]? = some (A 9, cI Y 6 t1)) (e9 : w[q_has]? = some (A 24, cZ Y 336 fh)) (N : xN w.length [qm, q_circuitOf, q_way, q_kind, q_spent, q_worked, q_inputs, q_gates, q_tabled, q_has]) (hj : j < ma) (h6 : ma ≤ 6) (hc6 : c < 6) (hn16 : n ≤ 16) (hg40 : g ≤ 40) (hco : co j = nI c) (hwy : wy j = nI y) (hkn : kn j = nI kd) (hin : i1 c = nI n) (hga : g1 c = nI g) (htb : t1 c = nI tb) (hy3 : y < 3) (htb4 : tb ≤ 40) : Cf Y mX8_told 2 [.ref o0, .int (nI j), .int 1] w (some (.int (tdR 1 c y kd tb (sp j) (lwM fh j (n + g)) (wk j)))) [(qm, (o0, cO 8 (mo A (nI 0) su (nI sz) bl (nI ci) (nI ma) pa en wr))), (q_circuitOf, (A 15, cI Y 6 co)), (q_way, (A 16, cI Y 6 wy)), (q_kind, (A 17, cI Y 6 kn)), (q_spent, (A 18, cI Y 6 sp)), (q_worked, (A 19, cI Y 6 wk)), (q_inputs, (A 6, cI Y 6 i1)), (q_gates, (A 7, cI Y 6 g1)), (q_tabled, (A 9, cI Y 6 t1)), (q_has, (A 24, cZ Y 336 fh))] := by
  refine Ct.intro (T := tX8_told) (by decide) oX8_told (Nat.le_of_ble_eq_true rfl) (fun G C B => ?_)
  refine x_lay [(qm, (o0, cO 8 (mo A th su (nI sz) bl (nI ci) (nI ma) pa en wr))), (q_circuitOf, (A 15, cI Y 6 co)), (q_way, (A 16, cI Y 6 wy)), (q_kind, (A 17, cI Y 6 kn)), (q_spent, (A 18, cI Y 6 sp)), (q_worked, (A 19, cI Y 6 wk)), (q_inputs, (A 6, cI Y 6 i1)), (q_gates, (A 7, cI Y 6 g1)), (q_tabled, (A 9, cI Y 6 t1)), (q_has, (A 24, cZ Y 336 fh))] (lay_cons e0 (lay_cons e1 (lay_cons e2 (lay_cons e3 (lay_cons e4 (lay_cons e5 (lay_cons e6 (lay_cons e7 (lay_cons e8 (lay_cons e9 lay_nil)))))))))) ?_
  refine x_run C 0 2 (pc' := 2) (lv' := [(0, .ref o0), (1, .int (nI j)), (2, .int 1)]) (st' := [.int 0, .ref o0]) rfl ?_
  refine x_put C 2 rfl pX8_117 N 0 rfl rfl rfl (Nat.le_of_ble_eq_true rfl) (os' := [(qm, (o0, cO 8 (mo A (nI 0) su (nI sz) bl (nI ci) (nI ma) pa en wr))), (q_circuitOf, (A 15, cI Y 6 co)), (q_way, (A 16, cI Y 6 wy)), (q_kind, (A 17, cI Y 6 kn)), (q_spent, (A 18, cI Y 6 sp)), (q_worked, (A 19, cI Y 6 wk)), (q_inputs, (A 6, cI Y 6 i1)), (q_gates, (A 7, cI Y 6 g1)), (q_tabled, (A 9, cI Y 6 t1)), (q_has, (A 24, cZ Y 336 fh))]) rfl ?_
  refine x_run C 3 2 (pc' := 7) (lv' := [(0, .ref o0), (1, .int (nI j)), (2, .int 1)]) (st' := [.int (nI j), .ref o0]) rfl ?_
  refine x_cv C 5 (As := [.int (nI j)]) (rest := []) rfl vX8_230 N 0 rfl rfl (c_X8_isGarbled Y _ o0 A (nI 0) su sz bl ci ma pa en wr j qm (ovl_at 0 N rfl) (N.ov [0] (by decide) rfl) (by first | assumption | omega) (by first | assumption | omega)) rfl rfl (Nat.le_of_ble_eq_true rfl) ⟨Nat.le_of_ble_eq_true rfl, Nat.le_of_ble_eq_true rfl⟩ ⟨Nat.zero_le _, Nat.zero_le _⟩ [0] ⟨rfl, trivial⟩ (os' := [(qm, (o0, cO 8 (mo A (nI 0) su (nI sz) bl (nI ci) (nI ma) pa en wr))), (q_circuitOf, (A 15, cI Y 6 co)), (q_way, (A 16, cI Y 6 wy)), (q_kind, (A 17, cI Y 6 kn)), (q_spent, (A 18, cI Y 6 sp)), (q_worked, (A 19, cI Y 6 wk)), (q_inputs, (A 6, cI Y 6 i1)), (q_gates, (A 7, cI Y 6 g1)), (q_tabled, (A 9, cI Y 6 t1)), (q_has, (A 24, cZ Y 336 fh))]) rfl (st' := [.int 1]) rfl ?_
  refine x_st (st' := [.int (nI 1)]) (by simp only [nlit, nI_add, pk_mul]) ?_
  refine x_ifN_eq C 6 (by omega) rfl (tgt := 23) rfl (fun hc1 => absurd hc1 (by omega)) (fun hc1 => ?_)
  refine x_run C 7 3 (pc' := 17) (lv' := [(0, .ref o0), (1, .int (nI j)), (2, .int 1)]) (st' := [.int 6, .int 0, .int 1]) rfl ?_
  refine x_st (st' := [.int (nI 6), .int (nI 0), .int (nI 1)]) (by simp only [nlit, nI_add, pk_mul]) ?_
  refine x_cs C 10 (As := [.int (nI 1), .int (nI 0), .int (nI 6)]) (rest := []) rfl vX8_135 N (c_X8_in Y _ 1 0 6    (by first | assumption | omega) (by first | assumption | omega) (by first | assumption | omega)) rfl rfl (Nat.le_of_ble_eq_true rfl) ⟨Nat.le_of_ble_eq_true rfl, Nat.le_of_ble_eq_true rfl⟩ ⟨Nat.zero_le _, Nat.zero_le _⟩ [] trivial (os' := [(qm, (o0, cO 8 (mo A (nI 0) su (nI sz) bl (nI ci) (nI ma) pa en wr))), (q_circuitOf, (A 15, cI Y 6 co)), (q_way, (A 16, cI Y 6 wy)), (q_kind, (A 17, cI Y 6 kn)), (q_spent, (A 18, cI Y 6 sp)), (q_worked, (A 19, cI Y 6 wk)), (q_inputs, (A 6, cI Y 6 i1)), (q_gates, (A 7, cI Y 6 g1)), (q_tabled, (A 9, cI Y 6 t1)), (q_has, (A 24, cZ Y 336 fh))]) rfl (st' := [.int 1]) rfl ?_
  refine x_st (st' := [.int (nI 1)]) (by simp only [nlit, nI_add, pk_mul]) ?_
  refine x_ifN_ne C 11 (by omega) rfl (tgt := 25) rfl (fun hc2 => ?_) (fun hc2 => absurd hc2 (by omega))
  refine x_run C 14 1 (pc' := 26) (lv' := [(0, .ref o0), (1, .int (nI j)), (2, .int 1)]) (st' := [.ref o0]) rfl ?_
  refine x_get C 15 rfl fX8_55 N 0 rfl (v := .ref (A 15)) rfl ?_
  refine x_run C 16 1 (pc' := 30) (lv' := [(0, .ref o0), (1, .int (nI j)), (2, .int 1)]) (st' := [.int (nI j), .ref (A 15)]) rfl ?_
  refine x_ialdN C 17 rfl N 1 rfl (by omega) (by omega) ?_
  refine x_st (st' := [.int (nI c)]) (by rw [hco]) ?_
  refine x_run C 18 2 (pc' := 33) (lv' := [(3, .int (nI c)), (0, .ref o0), (1, .int (nI j)), (2, .int 1)]) (st' := [.int 1]) rfl ?_
  refine x_tin C 20 rfl (by decide) (by decide) (off := 41) rfl (tgt := 74) rfl ?_
  refine x_run C 23 1 (pc' := 75) (lv' := [(3, .int (nI c)), (0, .ref o0), (1, .int (nI j)), (2, .int 1)]) (st' := [.ref o0]) rfl ?_
  refine x_get C 24 rfl fX8_58 N 0 rfl (v := .ref (A 16)) rfl ?_
  refine x_run C 25 1 (pc' := 79) (lv' := [(3, .int (nI c)), (0, .ref o0), (1, .int (nI j)), (2, .int 1)]) (st' := [.int (nI j), .ref (A 16)]) rfl ?_
  refine x_ialdN C 26 rfl N 2 rfl (by omega) (by omega) ?_
  refine x_st (st' := [.int (nI y)]) (by rw [hwy]) ?_
  exact x_iret C B rfl 27 rfl (Nat.zero_le _) (Nat.zero_le _) ⟨by rfl, rfl⟩
set_option maxHeartbeats 4000000 in
set_option maxRecDepth 100000 in
theorem c_X8_toldV2 (Y : xD) (w : va_W) (o0 : Nat) (A : Nat → Nat) (th : Int32) (su : Int32) (sz : Nat) (bl : Int32) (ci : Nat) (ma : Nat) (pa : Int32) (en : Int32) (wr : Int32) (co : Nat → Int32) (wy : Nat → Int32) (kn : Nat → Int32) (sp : Nat → Int32) (wk : Nat → Int32) (i1 : Nat → Int32) (g1 : Nat → Int32) (t1 : Nat → Int32) (fh : Nat → Int32) (j : Nat) (c : Nat) (y : Nat) (kd : Nat) (n : Nat) (g : Nat) (tb : Nat) (qm q_circuitOf q_way q_kind q_spent q_worked q_inputs q_gates q_tabled q_has : Nat) (e0 : w[qm]? = some (o0, cO 8 (mo A th su (nI sz) bl (nI ci) (nI ma) pa en wr))) (e1 : w[q_circuitOf]? = some (A 15, cI Y 6 co)) (e2 : w[q_way]? = some (A 16, cI Y 6 wy)) (e3 : w[q_kind]? = some (A 17, cI Y 6 kn)) (e4 : w[q_spent]? = some (A 18, cI Y 6 sp)) (e5 : w[q_worked]? = some (A 19, cI Y 6 wk)) (e6 : w[q_inputs]? = some (A 6, cI Y 6 i1)) (e7 : w[q_gates]? = some (A 7, cI Y 6 g1)) (e8 : w[q_tabled]? = some (A 9, cI Y 6 t1)) (e9 : w[q_has]? = some (A 24, cZ Y 336 fh)) (N : xN w.length [qm, q_circuitOf, q_way, q_kind, q_spent, q_worked, q_inputs, q_gates, q_tabled, q_has]) (hj : j < ma) (h6 : ma ≤ 6) (hc6 : c < 6) (hn16 : n ≤ 16) (hg40 : g ≤ 40) (hco : co j = nI c) (hwy : wy j = nI y) (hkn : kn j = nI kd) (hin : i1 c = nI n) (hga : g1 c = nI g) (htb : t1 c = nI tb) (hy3 : y < 3) (htb4 : tb ≤ 40) : Cf Y mX8_told 2 [.ref o0, .int (nI j), .int 2] w (some (.int (tdR 2 c y kd tb (sp j) (lwM fh j (n + g)) (wk j)))) [(qm, (o0, cO 8 (mo A (nI 0) su (nI sz) bl (nI ci) (nI ma) pa en wr))), (q_circuitOf, (A 15, cI Y 6 co)), (q_way, (A 16, cI Y 6 wy)), (q_kind, (A 17, cI Y 6 kn)), (q_spent, (A 18, cI Y 6 sp)), (q_worked, (A 19, cI Y 6 wk)), (q_inputs, (A 6, cI Y 6 i1)), (q_gates, (A 7, cI Y 6 g1)), (q_tabled, (A 9, cI Y 6 t1)), (q_has, (A 24, cZ Y 336 fh))] := by
  refine Ct.intro (T := tX8_told) (by decide) oX8_told (Nat.le_of_ble_eq_true rfl) (fun G C B => ?_)
  refine x_lay [(qm, (o0, cO 8 (mo A th su (nI sz) bl (nI ci) (nI ma) pa en wr))), (q_circuitOf, (A 15, cI Y 6 co)), (q_way, (A 16, cI Y 6 wy)), (q_kind, (A 17, cI Y 6 kn)), (q_spent, (A 18, cI Y 6 sp)), (q_worked, (A 19, cI Y 6 wk)), (q_inputs, (A 6, cI Y 6 i1)), (q_gates, (A 7, cI Y 6 g1)), (q_tabled, (A 9, cI Y 6 t1)), (q_has, (A 24, cZ Y 336 fh))] (lay_cons e0 (lay_cons e1 (lay_cons e2 (lay_cons e3 (lay_cons e4 (lay_cons e5 (lay_cons e6 (lay_cons e7 (lay_cons e8 (lay_cons e9 lay_nil)))))))))) ?_
  refine x_run C 0 2 (pc' := 2) (lv' := [(0, .ref o0), (1, .int (nI j)), (2, .int 2)]) (st' := [.int 0, .ref o0]) rfl ?_
  refine x_put C 2 rfl pX8_117 N 0 rfl rfl rfl (Nat.le_of_ble_eq_true rfl) (os' := [(qm, (o0, cO 8 (mo A (nI 0) su (nI sz) bl (nI ci) (nI ma) pa en wr))), (q_circuitOf, (A 15, cI Y 6 co)), (q_way, (A 16, cI Y 6 wy)), (q_kind, (A 17, cI Y 6 kn)), (q_spent, (A 18, cI Y 6 sp)), (q_worked, (A 19, cI Y 6 wk)), (q_inputs, (A 6, cI Y 6 i1)), (q_gates, (A 7, cI Y 6 g1)), (q_tabled, (A 9, cI Y 6 t1)), (q_has, (A 24, cZ Y 336 fh))]) rfl ?_
  refine x_run C 3 2 (pc' := 7) (lv' := [(0, .ref o0), (1, .int (nI j)), (2, .int 2)]) (st' := [.int (nI j), .ref o0]) rfl ?_
  refine x_cv C 5 (As := [.int (nI j)]) (rest := []) rfl vX8_230 N 0 rfl rfl (c_X8_isGarbled Y _ o0 A (nI 0) su sz bl ci ma pa en wr j qm (ovl_at 0 N rfl) (N.ov [0] (by decide) rfl) (by first | assumption | omega) (by first | assumption | omega)) rfl rfl (Nat.le_of_ble_eq_true rfl) ⟨Nat.le_of_ble_eq_true rfl, Nat.le_of_ble_eq_true rfl⟩ ⟨Nat.zero_le _, Nat.zero_le _⟩ [0] ⟨rfl, trivial⟩ (os' := [(qm, (o0, cO 8 (mo A (nI 0) su (nI sz) bl (nI ci) (nI ma) pa en wr))), (q_circuitOf, (A 15, cI Y 6 co)), (q_way, (A 16, cI Y 6 wy)), (q_kind, (A 17, cI Y 6 kn)), (q_spent, (A 18, cI Y 6 sp)), (q_worked, (A 19, cI Y 6 wk)), (q_inputs, (A 6, cI Y 6 i1)), (q_gates, (A 7, cI Y 6 g1)), (q_tabled, (A 9, cI Y 6 t1)), (q_has, (A 24, cZ Y 336 fh))]) rfl (st' := [.int 1]) rfl ?_
  refine x_st (st' := [.int (nI 1)]) (by simp only [nlit, nI_add, pk_mul]) ?_
  refine x_ifN_eq C 6 (by omega) rfl (tgt := 23) rfl (fun hc1 => absurd hc1 (by omega)) (fun hc1 => ?_)
  refine x_run C 7 3 (pc' := 17) (lv' := [(0, .ref o0), (1, .int (nI j)), (2, .int 2)]) (st' := [.int 6, .int 0, .int 2]) rfl ?_
  refine x_st (st' := [.int (nI 6), .int (nI 0), .int (nI 2)]) (by simp only [nlit, nI_add, pk_mul]) ?_
  refine x_cs C 10 (As := [.int (nI 2), .int (nI 0), .int (nI 6)]) (rest := []) rfl vX8_135 N (c_X8_in Y _ 2 0 6    (by first | assumption | omega) (by first | assumption | omega) (by first | assumption | omega)) rfl rfl (Nat.le_of_ble_eq_true rfl) ⟨Nat.le_of_ble_eq_true rfl, Nat.le_of_ble_eq_true rfl⟩ ⟨Nat.zero_le _, Nat.zero_le _⟩ [] trivial (os' := [(qm, (o0, cO 8 (mo A (nI 0) su (nI sz) bl (nI ci) (nI ma) pa en wr))), (q_circuitOf, (A 15, cI Y 6 co)), (q_way, (A 16, cI Y 6 wy)), (q_kind, (A 17, cI Y 6 kn)), (q_spent, (A 18, cI Y 6 sp)), (q_worked, (A 19, cI Y 6 wk)), (q_inputs, (A 6, cI Y 6 i1)), (q_gates, (A 7, cI Y 6 g1)), (q_tabled, (A 9, cI Y 6 t1)), (q_has, (A 24, cZ Y 336 fh))]) rfl (st' := [.int 1]) rfl ?_
  refine x_st (st' := [.int (nI 1)]) (by simp only [nlit, nI_add, pk_mul]) ?_
  refine x_ifN_ne C 11 (by omega) rfl (tgt := 25) rfl (fun hc2 => ?_) (fun hc2 => absurd hc2 (by omega))
  refine x_run C 14 1 (pc' := 26) (lv' := [(0, .ref o0), (1, .int (nI j)), (2, .int 2)]) (st' := [.ref o0]) rfl ?_
  refine x_get C 15 rfl fX8_55 N 0 rfl (v := .ref (A 15)) rfl ?_
  refine x_run C 16 1 (pc' := 30) (lv' := [(0, .ref o0), (1, .int (nI j)), (2, .int 2)]) (st' := [.int (nI j), .ref (A 15)]) rfl ?_
  refine x_ialdN C 17 rfl N 1 rfl (by omega) (by omega) ?_
  refine x_st (st' := [.int (nI c)]) (by rw [hco]) ?_
  refine x_run C 18 2 (pc' := 33) (lv' := [(3, .int (nI c)), (0, .ref o0), (1, .int (nI j)), (2, .int 2)]) (st' := [.int 2]) rfl ?_
  refine x_tin C 20 rfl (by decide) (by decide) (off := 48) rfl (tgt := 81) rfl ?_
  refine x_run C 28 1 (pc' := 82) (lv' := [(3, .int (nI c)), (0, .ref o0), (1, .int (nI j)), (2, .int 2)]) (st' := [.ref o0]) rfl ?_
  refine x_get C 29 rfl fX8_61 N 0 rfl (v := .ref (A 17)) rfl ?_
  refine x_run C 30 1 (pc' := 86) (lv' := [(3, .int (nI c)), (0, .ref o0), (1, .int (nI j)), (2, .int 2)]) (st' := [.int (nI j), .ref (A 17)]) rfl ?_
  refine x_ialdN C 31 rfl N 3 rfl (by omega) (by omega) ?_
  refine x_st (st' := [.int (nI kd)]) (by rw [hkn]) ?_
  exact x_iret C B rfl 32 rfl (Nat.zero_le _) (Nat.zero_le _) ⟨by rfl, rfl⟩
set_option maxHeartbeats 4000000 in
set_option maxRecDepth 100000 in
theorem c_X8_toldV3 (Y : xD) (w : va_W) (o0 : Nat) (A : Nat → Nat) (th : Int32) (su : Int32) (sz : Nat) (bl : Int32) (ci : Nat) (ma : Nat) (pa : Int32) (en : Int32) (wr : Int32) (co : Nat → Int32) (wy : Nat → Int32) (kn : Nat → Int32) (sp : Nat → Int32) (wk : Nat → Int32) (i1 : Nat → Int32) (g1 : Nat → Int32) (t1 : Nat → Int32) (fh : Nat → Int32) (j : Nat) (c : Nat) (y : Nat) (kd : Nat) (n : Nat) (g : Nat) (tb : Nat) (qm q_circuitOf q_way q_kind q_spent q_worked q_inputs q_gates q_tabled q_has : Nat) (e0 : w[qm]? = some (o0, cO 8 (mo A th su (nI sz) bl (nI ci) (nI ma) pa en wr))) (e1 : w[q_circuitOf]? = some (A 15, cI Y 6 co)) (e2 : w[q_way]? = some (A 16, cI Y 6 wy)) (e3 : w[q_kind]? = some (A 17, cI Y 6 kn)) (e4 : w[q_spent]? = some (A 18, cI Y 6 sp)) (e5 : w[q_worked]? = some (A 19, cI Y 6 wk)) (e6 : w[q_inputs]? = some (A 6, cI Y 6 i1)) (e7 : w[q_gates]? = some (A 7, cI Y 6 g1)) (e8 : w[q_tabled]? = some (A 9, cI Y 6 t1)) (e9 : w[q_has]? = some (A 24, cZ Y 336 fh)) (N : xN w.length [qm, q_circuitOf, q_way, q_kind, q_spent, q_worked, q_inputs, q_gates, q_tabled, q_has]) (hj : j < ma) (h6 : ma ≤ 6) (hc6 : c < 6) (hn16 : n ≤ 16) (hg40 : g ≤ 40) (hco : co j = nI c) (hwy : wy j = nI y) (hkn : kn j = nI kd) (hin : i1 c = nI n) (hga : g1 c = nI g) (htb : t1 c = nI tb) (hy3 : y < 3) (htb4 : tb ≤ 40) : Cf Y mX8_told 2 [.ref o0, .int (nI j), .int 3] w (some (.int (tdR 3 c y kd tb (sp j) (lwM fh j (n + g)) (wk j)))) [(qm, (o0, cO 8 (mo A (nI 0) su (nI sz) bl (nI ci) (nI ma) pa en wr))), (q_circuitOf, (A 15, cI Y 6 co)), (q_way, (A 16, cI Y 6 wy)), (q_kind, (A 17, cI Y 6 kn)), (q_spent, (A 18, cI Y 6 sp)), (q_worked, (A 19, cI Y 6 wk)), (q_inputs, (A 6, cI Y 6 i1)), (q_gates, (A 7, cI Y 6 g1)), (q_tabled, (A 9, cI Y 6 t1)), (q_has, (A 24, cZ Y 336 fh))] := by
  refine Ct.intro (T := tX8_told) (by decide) oX8_told (Nat.le_of_ble_eq_true rfl) (fun G C B => ?_)
  refine x_lay [(qm, (o0, cO 8 (mo A th su (nI sz) bl (nI ci) (nI ma) pa en wr))), (q_circuitOf, (A 15, cI Y 6 co)), (q_way, (A 16, cI Y 6 wy)), (q_kind, (A 17, cI Y 6 kn)), (q_spent, (A 18, cI Y 6 sp)), (q_worked, (A 19, cI Y 6 wk)), (q_inputs, (A 6, cI Y 6 i1)), (q_gates, (A 7, cI Y 6 g1)), (q_tabled, (A 9, cI Y 6 t1)), (q_has, (A 24, cZ Y 336 fh))] (lay_cons e0 (lay_cons e1 (lay_cons e2 (lay_cons e3 (lay_cons e4 (lay_cons e5 (lay_cons e6 (lay_cons e7 (lay_cons e8 (lay_cons e9 lay_nil)))))))))) ?_
  refine x_run C 0 2 (pc' := 2) (lv' := [(0, .ref o0), (1, .int (nI j)), (2, .int 3)]) (st' := [.int 0, .ref o0]) rfl ?_
  refine x_put C 2 rfl pX8_117 N 0 rfl rfl rfl (Nat.le_of_ble_eq_true rfl) (os' := [(qm, (o0, cO 8 (mo A (nI 0) su (nI sz) bl (nI ci) (nI ma) pa en wr))), (q_circuitOf, (A 15, cI Y 6 co)), (q_way, (A 16, cI Y 6 wy)), (q_kind, (A 17, cI Y 6 kn)), (q_spent, (A 18, cI Y 6 sp)), (q_worked, (A 19, cI Y 6 wk)), (q_inputs, (A 6, cI Y 6 i1)), (q_gates, (A 7, cI Y 6 g1)), (q_tabled, (A 9, cI Y 6 t1)), (q_has, (A 24, cZ Y 336 fh))]) rfl ?_
  refine x_run C 3 2 (pc' := 7) (lv' := [(0, .ref o0), (1, .int (nI j)), (2, .int 3)]) (st' := [.int (nI j), .ref o0]) rfl ?_
  refine x_cv C 5 (As := [.int (nI j)]) (rest := []) rfl vX8_230 N 0 rfl rfl (c_X8_isGarbled Y _ o0 A (nI 0) su sz bl ci ma pa en wr j qm (ovl_at 0 N rfl) (N.ov [0] (by decide) rfl) (by first | assumption | omega) (by first | assumption | omega)) rfl rfl (Nat.le_of_ble_eq_true rfl) ⟨Nat.le_of_ble_eq_true rfl, Nat.le_of_ble_eq_true rfl⟩ ⟨Nat.zero_le _, Nat.zero_le _⟩ [0] ⟨rfl, trivial⟩ (os' := [(qm, (o0, cO 8 (mo A (nI 0) su (nI sz) bl (nI ci) (nI ma) pa en wr))), (q_circuitOf, (A 15, cI Y 6 co)), (q_way, (A 16, cI Y 6 wy)), (q_kind, (A 17, cI Y 6 kn)), (q_spent, (A 18, cI Y 6 sp)), (q_worked, (A 19, cI Y 6 wk)), (q_inputs, (A 6, cI Y 6 i1)), (q_gates, (A 7, cI Y 6 g1)), (q_tabled, (A 9, cI Y 6 t1)), (q_has, (A 24, cZ Y 336 fh))]) rfl (st' := [.int 1]) rfl ?_
  refine x_st (st' := [.int (nI 1)]) (by simp only [nlit, nI_add, pk_mul]) ?_
  refine x_ifN_eq C 6 (by omega) rfl (tgt := 23) rfl (fun hc1 => absurd hc1 (by omega)) (fun hc1 => ?_)
  refine x_run C 7 3 (pc' := 17) (lv' := [(0, .ref o0), (1, .int (nI j)), (2, .int 3)]) (st' := [.int 6, .int 0, .int 3]) rfl ?_
  refine x_st (st' := [.int (nI 6), .int (nI 0), .int (nI 3)]) (by simp only [nlit, nI_add, pk_mul]) ?_
  refine x_cs C 10 (As := [.int (nI 3), .int (nI 0), .int (nI 6)]) (rest := []) rfl vX8_135 N (c_X8_in Y _ 3 0 6    (by first | assumption | omega) (by first | assumption | omega) (by first | assumption | omega)) rfl rfl (Nat.le_of_ble_eq_true rfl) ⟨Nat.le_of_ble_eq_true rfl, Nat.le_of_ble_eq_true rfl⟩ ⟨Nat.zero_le _, Nat.zero_le _⟩ [] trivial (os' := [(qm, (o0, cO 8 (mo A (nI 0) su (nI sz) bl (nI ci) (nI ma) pa en wr))), (q_circuitOf, (A 15, cI Y 6 co)), (q_way, (A 16, cI Y 6 wy)), (q_kind, (A 17, cI Y 6 kn)), (q_spent, (A 18, cI Y 6 sp)), (q_worked, (A 19, cI Y 6 wk)), (q_inputs, (A 6, cI Y 6 i1)), (q_gates, (A 7, cI Y 6 g1)), (q_tabled, (A 9, cI Y 6 t1)), (q_has, (A 24, cZ Y 336 fh))]) rfl (st' := [.int 1]) rfl ?_
  refine x_st (st' := [.int (nI 1)]) (by simp only [nlit, nI_add, pk_mul]) ?_
  refine x_ifN_ne C 11 (by omega) rfl (tgt := 25) rfl (fun hc2 => ?_) (fun hc2 => absurd hc2 (by omega))
  refine x_run C 14 1 (pc' := 26) (lv' := [(0, .ref o0), (1, .int (nI j)), (2, .int 3)]) (st' := [.ref o0]) rfl ?_
  refine x_get C 15 rfl fX8_55 N 0 rfl (v := .ref (A 15)) rfl ?_
  refine x_run C 16 1 (pc' := 30) (lv' := [(0, .ref o0), (1, .int (nI j)), (2, .int 3)]) (st' := [.int (nI j), .ref (A 15)]) rfl ?_
  refine x_ialdN C 17 rfl N 1 rfl (by omega) (by omega) ?_
  refine x_st (st' := [.int (nI c)]) (by rw [hco]) ?_
  refine x_run C 18 2 (pc' := 33) (lv' := [(3, .int (nI c)), (0, .ref o0), (1, .int (nI j)), (2, .int 3)]) (st' := [.int 3]) rfl ?_
  refine x_tin C 20 rfl (by decide) (by decide) (off := 55) rfl (tgt := 88) rfl ?_
  refine x_run C 33 1 (pc' := 89) (lv' := [(3, .int (nI c)), (0, .ref o0), (1, .int (nI j)), (2, .int 3)]) (st' := [.ref o0]) rfl ?_
  refine x_get C 34 rfl fX8_37 N 0 rfl (v := .ref (A 9)) rfl ?_
  refine x_run C 35 1 (pc' := 93) (lv' := [(3, .int (nI c)), (0, .ref o0), (1, .int (nI j)), (2, .int 3)]) (st' := [.int (nI c), .ref (A 9)]) rfl ?_
  refine x_ialdN C 36 rfl N 8 rfl (by omega) (by omega) ?_
  refine x_st (st' := [.int (nI tb)]) (by rw [htb]) ?_
  refine x_run C 37 2 (pc' := 96) (lv' := [(3, .int (nI c)), (0, .ref o0), (1, .int (nI j)), (2, .int 3)]) (st' := [.ref o0, .int 4, .int (nI tb)]) rfl ?_
  refine x_get C 39 rfl fX8_58 N 0 rfl (v := .ref (A 16)) rfl ?_
  refine x_run C 40 1 (pc' := 100) (lv' := [(3, .int (nI c)), (0, .ref o0), (1, .int (nI j)), (2, .int 3)]) (st' := [.int (nI j), .ref (A 16), .int 4, .int (nI tb)]) rfl ?_
  refine x_ialdN C 41 rfl N 2 rfl (by omega) (by omega) ?_
  refine x_st (st' := [.int (nI y), .int 4, .int (nI tb)]) (by rw [hwy]) ?_
  refine x_run C 42 2 (pc' := 103) (lv' := [(3, .int (nI c)), (0, .ref o0), (1, .int (nI j)), (2, .int 3)]) (st' := [.int ((nI tb) * (4 - (nI y)))]) rfl ?_
  exact x_iret C B rfl 44 rfl (Nat.zero_le _) (Nat.zero_le _) ⟨by simp only [nlit, pk_sub (show y ≤ 4 by omega), pk_mul]; rfl, rfl⟩
set_option maxHeartbeats 4000000 in
set_option maxRecDepth 100000 in
theorem c_X8_toldV4 (Y : xD) (w : va_W) (o0 : Nat) (A : Nat → Nat) (th : Int32) (su : Int32) (sz : Nat) (bl : Int32) (ci : Nat) (ma : Nat) (pa : Int32) (en : Int32) (wr : Int32) (co : Nat → Int32) (wy : Nat → Int32) (kn : Nat → Int32) (sp : Nat → Int32) (wk : Nat → Int32) (i1 : Nat → Int32) (g1 : Nat → Int32) (t1 : Nat → Int32) (fh : Nat → Int32) (j : Nat) (c : Nat) (y : Nat) (kd : Nat) (n : Nat) (g : Nat) (tb : Nat) (qm q_circuitOf q_way q_kind q_spent q_worked q_inputs q_gates q_tabled q_has : Nat) (e0 : w[qm]? = some (o0, cO 8 (mo A th su (nI sz) bl (nI ci) (nI ma) pa en wr))) (e1 : w[q_circuitOf]? = some (A 15, cI Y 6 co)) (e2 : w[q_way]? = some (A 16, cI Y 6 wy)) (e3 : w[q_kind]? = some (A 17, cI Y 6 kn)) (e4 : w[q_spent]? = some (A 18, cI Y 6 sp)) (e5 : w[q_worked]? = some (A 19, cI Y 6 wk)) (e6 : w[q_inputs]? = some (A 6, cI Y 6 i1)) (e7 : w[q_gates]? = some (A 7, cI Y 6 g1)) (e8 : w[q_tabled]? = some (A 9, cI Y 6 t1)) (e9 : w[q_has]? = some (A 24, cZ Y 336 fh)) (N : xN w.length [qm, q_circuitOf, q_way, q_kind, q_spent, q_worked, q_inputs, q_gates, q_tabled, q_has]) (hj : j < ma) (h6 : ma ≤ 6) (hc6 : c < 6) (hn16 : n ≤ 16) (hg40 : g ≤ 40) (hco : co j = nI c) (hwy : wy j = nI y) (hkn : kn j = nI kd) (hin : i1 c = nI n) (hga : g1 c = nI g) (htb : t1 c = nI tb) (hy3 : y < 3) (htb4 : tb ≤ 40) : Cf Y mX8_told 2 [.ref o0, .int (nI j), .int 4] w (some (.int (tdR 4 c y kd tb (sp j) (lwM fh j (n + g)) (wk j)))) [(qm, (o0, cO 8 (mo A (nI 0) su (nI sz) bl (nI ci) (nI ma) pa en wr))), (q_circuitOf, (A 15, cI Y 6 co)), (q_way, (A 16, cI Y 6 wy)), (q_kind, (A 17, cI Y 6 kn)), (q_spent, (A 18, cI Y 6 sp)), (q_worked, (A 19, cI Y 6 wk)), (q_inputs, (A 6, cI Y 6 i1)), (q_gates, (A 7, cI Y 6 g1)), (q_tabled, (A 9, cI Y 6 t1)), (q_has, (A 24, cZ Y 336 fh))] := by
  refine Ct.intro (T := tX8_told) (by decide) oX8_told (Nat.le_of_ble_eq_true rfl) (fun G C B => ?_)
  refine x_lay [(qm, (o0, cO 8 (mo A th su (nI sz) bl (nI ci) (nI ma) pa en wr))), (q_circuitOf, (A 15, cI Y 6 co)), (q_way, (A 16, cI Y 6 wy)), (q_kind, (A 17, cI Y 6 kn)), (q_spent, (A 18, cI Y 6 sp)), (q_worked, (A 19, cI Y 6 wk)), (q_inputs, (A 6, cI Y 6 i1)), (q_gates, (A 7, cI Y 6 g1)), (q_tabled, (A 9, cI Y 6 t1)), (q_has, (A 24, cZ Y 336 fh))] (lay_cons e0 (lay_cons e1 (lay_cons e2 (lay_cons e3 (lay_cons e4 (lay_cons e5 (lay_cons e6 (lay_cons e7 (lay_cons e8 (lay_cons e9 lay_nil)))))))))) ?_
  refine x_run C 0 2 (pc' := 2) (lv' := [(0, .ref o0), (1, .int (nI j)), (2, .int 4)]) (st' := [.int 0, .ref o0]) rfl ?_
  refine x_put C 2 rfl pX8_117 N 0 rfl rfl rfl (Nat.le_of_ble_eq_true rfl) (os' := [(qm, (o0, cO 8 (mo A (nI 0) su (nI sz) bl (nI ci) (nI ma) pa en wr))), (q_circuitOf, (A 15, cI Y 6 co)), (q_way, (A 16, cI Y 6 wy)), (q_kind, (A 17, cI Y 6 kn)), (q_spent, (A 18, cI Y 6 sp)), (q_worked, (A 19, cI Y 6 wk)), (q_inputs, (A 6, cI Y 6 i1)), (q_gates, (A 7, cI Y 6 g1)), (q_tabled, (A 9, cI Y 6 t1)), (q_has, (A 24, cZ Y 336 fh))]) rfl ?_
  refine x_run C 3 2 (pc' := 7) (lv' := [(0, .ref o0), (1, .int (nI j)), (2, .int 4)]) (st' := [.int (nI j), .ref o0]) rfl ?_
  refine x_cv C 5 (As := [.int (nI j)]) (rest := []) rfl vX8_230 N 0 rfl rfl (c_X8_isGarbled Y _ o0 A (nI 0) su sz bl ci ma pa en wr j qm (ovl_at 0 N rfl) (N.ov [0] (by decide) rfl) (by first | assumption | omega) (by first | assumption | omega)) rfl rfl (Nat.le_of_ble_eq_true rfl) ⟨Nat.le_of_ble_eq_true rfl, Nat.le_of_ble_eq_true rfl⟩ ⟨Nat.zero_le _, Nat.zero_le _⟩ [0] ⟨rfl, trivial⟩ (os' := [(qm, (o0, cO 8 (mo A (nI 0) su (nI sz) bl (nI ci) (nI ma) pa en wr))), (q_circuitOf, (A 15, cI Y 6 co)), (q_way, (A 16, cI Y 6 wy)), (q_kind, (A 17, cI Y 6 kn)), (q_spent, (A 18, cI Y 6 sp)), (q_worked, (A 19, cI Y 6 wk)), (q_inputs, (A 6, cI Y 6 i1)), (q_gates, (A 7, cI Y 6 g1)), (q_tabled, (A 9, cI Y 6 t1)), (q_has, (A 24, cZ Y 336 fh))]) rfl (st' := [.int 1]) rfl ?_
  refine x_st (st' := [.int (nI 1)]) (by simp only [nlit, nI_add, pk_mul]) ?_
  refine x_ifN_eq C 6 (by omega) rfl (tgt := 23) rfl (fun hc1 => absurd hc1 (by omega)) (fun hc1 => ?_)
  refine x_run C 7 3 (pc' := 17) (lv' := [(0, .ref o0), (1, .int (nI j)), (2, .int 4)]) (st' := [.int 6, .int 0, .int 4]) rfl ?_
  refine x_st (st' := [.int (nI 6), .int (nI 0), .int (nI 4)]) (by simp only [nlit, nI_add, pk_mul]) ?_
  refine x_cs C 10 (As := [.int (nI 4), .int (nI 0), .int (nI 6)]) (rest := []) rfl vX8_135 N (c_X8_in Y _ 4 0 6    (by first | assumption | omega) (by first | assumption | omega) (by first | assumption | omega)) rfl rfl (Nat.le_of_ble_eq_true rfl) ⟨Nat.le_of_ble_eq_true rfl, Nat.le_of_ble_eq_true rfl⟩ ⟨Nat.zero_le _, Nat.zero_le _⟩ [] trivial (os' := [(qm, (o0, cO 8 (mo A (nI 0) su (nI sz) bl (nI ci) (nI ma) pa en wr))), (q_circuitOf, (A 15, cI Y 6 co)), (q_way, (A 16, cI Y 6 wy)), (q_kind, (A 17, cI Y 6 kn)), (q_spent, (A 18, cI Y 6 sp)), (q_worked, (A 19, cI Y 6 wk)), (q_inputs, (A 6, cI Y 6 i1)), (q_gates, (A 7, cI Y 6 g1)), (q_tabled, (A 9, cI Y 6 t1)), (q_has, (A 24, cZ Y 336 fh))]) rfl (st' := [.int 1]) rfl ?_
  refine x_st (st' := [.int (nI 1)]) (by simp only [nlit, nI_add, pk_mul]) ?_
  refine x_ifN_ne C 11 (by omega) rfl (tgt := 25) rfl (fun hc2 => ?_) (fun hc2 => absurd hc2 (by omega))
  refine x_run C 14 1 (pc' := 26) (lv' := [(0, .ref o0), (1, .int (nI j)), (2, .int 4)]) (st' := [.ref o0]) rfl ?_
  refine x_get C 15 rfl fX8_55 N 0 rfl (v := .ref (A 15)) rfl ?_
  refine x_run C 16 1 (pc' := 30) (lv' := [(0, .ref o0), (1, .int (nI j)), (2, .int 4)]) (st' := [.int (nI j), .ref (A 15)]) rfl ?_
  refine x_ialdN C 17 rfl N 1 rfl (by omega) (by omega) ?_
  refine x_st (st' := [.int (nI c)]) (by rw [hco]) ?_
  refine x_run C 18 2 (pc' := 33) (lv' := [(3, .int (nI c)), (0, .ref o0), (1, .int (nI j)), (2, .int 4)]) (st' := [.int 4]) rfl ?_
  refine x_tin C 20 rfl (by decide) (by decide) (off := 71) rfl (tgt := 104) rfl ?_
  refine x_run C 45 1 (pc' := 105) (lv' := [(3, .int (nI c)), (0, .ref o0), (1, .int (nI j)), (2, .int 4)]) (st' := [.ref o0]) rfl ?_
  refine x_get C 46 rfl fX8_64 N 0 rfl (v := .ref (A 18)) rfl ?_
  refine x_run C 47 1 (pc' := 109) (lv' := [(3, .int (nI c)), (0, .ref o0), (1, .int (nI j)), (2, .int 4)]) (st' := [.int (nI j), .ref (A 18)]) rfl ?_
  refine x_ialdN C 48 rfl N 4 rfl (by omega) (by omega) ?_
  exact x_iret C B rfl 49 rfl (Nat.zero_le _) (Nat.zero_le _) ⟨by rfl, rfl⟩
set_option maxHeartbeats 4000000 in
set_option maxRecDepth 100000 in
theorem c_X8_toldV5 (Y : xD) (w : va_W) (o0 : Nat) (A : Nat → Nat) (th : Int32) (su : Int32) (sz : Nat) (bl : Int32) (ci : Nat) (ma : Nat) (pa : Int32) (en : Int32) (wr : Int32) (co : Nat → Int32) (wy : Nat → Int32) (kn : Nat → Int32) (sp : Nat → Int32) (wk : Nat → Int32) (i1 : Nat → Int32) (g1 : Nat → Int32) (t1 : Nat → Int32) (fh : Nat → Int32) (j : Nat) (c : Nat) (y : Nat) (kd : Nat) (n : Nat) (g : Nat) (tb : Nat) (qm q_circuitOf q_way q_kind q_spent q_worked q_inputs q_gates q_tabled q_has : Nat) (e0 : w[qm]? = some (o0, cO 8 (mo A th su (nI sz) bl (nI ci) (nI ma) pa en wr))) (e1 : w[q_circuitOf]? = some (A 15, cI Y 6 co)) (e2 : w[q_way]? = some (A 16, cI Y 6 wy)) (e3 : w[q_kind]? = some (A 17, cI Y 6 kn)) (e4 : w[q_spent]? = some (A 18, cI Y 6 sp)) (e5 : w[q_worked]? = some (A 19, cI Y 6 wk)) (e6 : w[q_inputs]? = some (A 6, cI Y 6 i1)) (e7 : w[q_gates]? = some (A 7, cI Y 6 g1)) (e8 : w[q_tabled]? = some (A 9, cI Y 6 t1)) (e9 : w[q_has]? = some (A 24, cZ Y 336 fh)) (N : xN w.length [qm, q_circuitOf, q_way, q_kind, q_spent, q_worked, q_inputs, q_gates, q_tabled, q_has]) (hj : j < ma) (h6 : ma ≤ 6) (hc6 : c < 6) (hn16 : n ≤ 16) (hg40 : g ≤ 40) (hco : co j = nI c) (hwy : wy j = nI y) (hkn : kn j = nI kd) (hin : i1 c = nI n) (hga : g1 c = nI g) (htb : t1 c = nI tb) (hy3 : y < 3) (htb4 : tb ≤ 40) : Cf Y mX8_told 2 [.ref o0, .int (nI j), .int 5] w (some (.int (tdR 5 c y kd tb (sp j) (lwM fh j (n + g)) (wk j)))) [(qm, (o0, cO 8 (mo A (nI 0) su (nI sz) bl (nI ci) (nI ma) pa en wr))), (q_circuitOf, (A 15, cI Y 6 co)), (q_way, (A 16, cI Y 6 wy)), (q_kind, (A 17, cI Y 6 kn)), (q_spent, (A 18, cI Y 6 sp)), (q_worked, (A 19, cI Y 6 wk)), (q_inputs, (A 6, cI Y 6 i1)), (q_gates, (A 7, cI Y 6 g1)), (q_tabled, (A 9, cI Y 6 t1)), (q_has, (A 24, cZ Y 336 fh))] := by
  refine Ct.intro (T := tX8_told) (by decide) oX8_told (Nat.le_of_ble_eq_true rfl) (fun G C B => ?_)
  refine x_lay [(qm, (o0, cO 8 (mo A th su (nI sz) bl (nI ci) (nI ma) pa en wr))), (q_circuitOf, (A 15, cI Y 6 co)), (q_way, (A 16, cI Y 6 wy)), (q_kind, (A 17, cI Y 6 kn)), (q_spent, (A 18, cI Y 6 sp)), (q_worked, (A 19, cI Y 6 wk)), (q_inputs, (A 6, cI Y 6 i1)), (q_gates, (A 7, cI Y 6 g1)), (q_tabled, (A 9, cI Y 6 t1)), (q_has, (A 24, cZ Y 336 fh))] (lay_cons e0 (lay_cons e1 (lay_cons e2 (lay_cons e3 (lay_cons e4 (lay_cons e5 (lay_cons e6 (lay_cons e7 (lay_cons e8 (lay_cons e9 lay_nil)))))))))) ?_
  refine x_run C 0 2 (pc' := 2) (lv' := [(0, .ref o0), (1, .int (nI j)), (2, .int 5)]) (st' := [.int 0, .ref o0]) rfl ?_
  refine x_put C 2 rfl pX8_117 N 0 rfl rfl rfl (Nat.le_of_ble_eq_true rfl) (os' := [(qm, (o0, cO 8 (mo A (nI 0) su (nI sz) bl (nI ci) (nI ma) pa en wr))), (q_circuitOf, (A 15, cI Y 6 co)), (q_way, (A 16, cI Y 6 wy)), (q_kind, (A 17, cI Y 6 kn)), (q_spent, (A 18, cI Y 6 sp)), (q_worked, (A 19, cI Y 6 wk)), (q_inputs, (A 6, cI Y 6 i1)), (q_gates, (A 7, cI Y 6 g1)), (q_tabled, (A 9, cI Y 6 t1)), (q_has, (A 24, cZ Y 336 fh))]) rfl ?_
  refine x_run C 3 2 (pc' := 7) (lv' := [(0, .ref o0), (1, .int (nI j)), (2, .int 5)]) (st' := [.int (nI j), .ref o0]) rfl ?_
  refine x_cv C 5 (As := [.int (nI j)]) (rest := []) rfl vX8_230 N 0 rfl rfl (c_X8_isGarbled Y _ o0 A (nI 0) su sz bl ci ma pa en wr j qm (ovl_at 0 N rfl) (N.ov [0] (by decide) rfl) (by first | assumption | omega) (by first | assumption | omega)) rfl rfl (Nat.le_of_ble_eq_true rfl) ⟨Nat.le_of_ble_eq_true rfl, Nat.le_of_ble_eq_true rfl⟩ ⟨Nat.zero_le _, Nat.zero_le _⟩ [0] ⟨rfl, trivial⟩ (os' := [(qm, (o0, cO 8 (mo A (nI 0) su (nI sz) bl (nI ci) (nI ma) pa en wr))), (q_circuitOf, (A 15, cI Y 6 co)), (q_way, (A 16, cI Y 6 wy)), (q_kind, (A 17, cI Y 6 kn)), (q_spent, (A 18, cI Y 6 sp)), (q_worked, (A 19, cI Y 6 wk)), (q_inputs, (A 6, cI Y 6 i1)), (q_gates, (A 7, cI Y 6 g1)), (q_tabled, (A 9, cI Y 6 t1)), (q_has, (A 24, cZ Y 336 fh))]) rfl (st' := [.int 1]) rfl ?_
  refine x_st (st' := [.int (nI 1)]) (by simp only [nlit, nI_add, pk_mul]) ?_
  refine x_ifN_eq C 6 (by omega) rfl (tgt := 23) rfl (fun hc1 => absurd hc1 (by omega)) (fun hc1 => ?_)
  refine x_run C 7 3 (pc' := 17) (lv' := [(0, .ref o0), (1, .int (nI j)), (2, .int 5)]) (st' := [.int 6, .int 0, .int 5]) rfl ?_
  refine x_st (st' := [.int (nI 6), .int (nI 0), .int (nI 5)]) (by simp only [nlit, nI_add, pk_mul]) ?_
  refine x_cs C 10 (As := [.int (nI 5), .int (nI 0), .int (nI 6)]) (rest := []) rfl vX8_135 N (c_X8_in Y _ 5 0 6    (by first | assumption | omega) (by first | assumption | omega) (by first | assumption | omega)) rfl rfl (Nat.le_of_ble_eq_true rfl) ⟨Nat.le_of_ble_eq_true rfl, Nat.le_of_ble_eq_true rfl⟩ ⟨Nat.zero_le _, Nat.zero_le _⟩ [] trivial (os' := [(qm, (o0, cO 8 (mo A (nI 0) su (nI sz) bl (nI ci) (nI ma) pa en wr))), (q_circuitOf, (A 15, cI Y 6 co)), (q_way, (A 16, cI Y 6 wy)), (q_kind, (A 17, cI Y 6 kn)), (q_spent, (A 18, cI Y 6 sp)), (q_worked, (A 19, cI Y 6 wk)), (q_inputs, (A 6, cI Y 6 i1)), (q_gates, (A 7, cI Y 6 g1)), (q_tabled, (A 9, cI Y 6 t1)), (q_has, (A 24, cZ Y 336 fh))]) rfl (st' := [.int 1]) rfl ?_
  refine x_st (st' := [.int (nI 1)]) (by simp only [nlit, nI_add, pk_mul]) ?_
  refine x_ifN_ne C 11 (by omega) rfl (tgt := 25) rfl (fun hc2 => ?_) (fun hc2 => absurd hc2 (by omega))
  refine x_run C 14 1 (pc' := 26) (lv' := [(0, .ref o0), (1, .int (nI j)), (2, .int 5)]) (st' := [.ref o0]) rfl ?_
  refine x_get C 15 rfl fX8_55 N 0 rfl (v := .ref (A 15)) rfl ?_
  refine x_run C 16 1 (pc' := 30) (lv' := [(0, .ref o0), (1, .int (nI j)), (2, .int 5)]) (st' := [.int (nI j), .ref (A 15)]) rfl ?_
  refine x_ialdN C 17 rfl N 1 rfl (by omega) (by omega) ?_
  refine x_st (st' := [.int (nI c)]) (by rw [hco]) ?_
  refine x_run C 18 2 (pc' := 33) (lv' := [(3, .int (nI c)), (0, .ref o0), (1, .int (nI j)), (2, .int 5)]) (st' := [.int 5]) rfl ?_
  refine x_tin C 20 rfl (by decide) (by decide) (off := 78) rfl (tgt := 111) rfl ?_
  refine x_run C 50 4 (pc' := 117) (lv' := [(5, .int 0), (4, .int 0), (3, .int (nI c)), (0, .ref o0), (1, .int (nI j)), (2, .int 5)]) (st' := []) rfl ?_
  have L117 : ∀ k : Nat, 0 ≤ k → k ≤ (n + g) → X G Y 0 0 117 [(0, .ref o0), (1, .int (nI j)), (2, .int 5), (3, .int (nI c)), (4, .int (nI (lwM fh j k))), (5, .int (nI k))] [] (ovl w [(qm, (o0, cO 8 (mo A (nI 0) su (nI sz) bl (nI ci) (nI ma) pa en wr))), (q_circuitOf, (A 15, cI Y 6 co)), (q_way, (A 16, cI Y 6 wy)), (q_kind, (A 17, cI Y 6 kn)), (q_spent, (A 18, cI Y 6 sp)), (q_worked, (A 19, cI Y 6 wk)), (q_inputs, (A 6, cI Y 6 i1)), (q_gates, (A 7, cI Y 6 g1)), (q_tabled, (A 9, cI Y 6 t1)), (q_has, (A 24, cZ Y 336 fh))]) := by
    intro k lo117 hi117
    revert lo117
    refine x_up (fun k => 0 ≤ k → X G Y 0 0 117 [(0, .ref o0), (1, .int (nI j)), (2, .int 5), (3, .int (nI c)), (4, .int (nI (lwM fh j k))), (5, .int (nI k))] [] (ovl w [(qm, (o0, cO 8 (mo A (nI 0) su (nI sz) bl (nI ci) (nI ma) pa en wr))), (q_circuitOf, (A 15, cI Y 6 co)), (q_way, (A 16, cI Y 6 wy)), (q_kind, (A 17, cI Y 6 kn)), (q_spent, (A 18, cI Y 6 sp)), (q_worked, (A 19, cI Y 6 wk)), (q_inputs, (A 6, cI Y 6 i1)), (q_gates, (A 7, cI Y 6 g1)), (q_tabled, (A 9, cI Y 6 t1)), (q_has, (A 24, cZ Y 336 fh))])) (n + g) ?_ ?_ k hi117
    · intro lo117
      refine x_run C 54 3 (pc' := 121) (lv' := [(0, .ref o0), (1, .int (nI j)), (2, .int 5), (3, .int (nI c)), (4, .int (nI (lwM fh j (n + g)))), (5, .int (nI (n + g)))]) (st' := [.int (nI c), .ref o0, .int (nI (n + g))]) rfl ?_
      refine x_cv C 57 (As := [.int (nI c)]) (rest := [.int (nI (n + g))]) rfl vX8_199 N 0 rfl rfl (c_X8_wiresOf Y _ o0 A (nI 0) su sz bl ci ma pa en wr i1 g1 c n g qm q_inputs q_gates (ovl_at 0 N rfl) (ovl_at 6 N rfl) (ovl_at 7 N rfl) (N.ov [0, 6, 7] (by decide) rfl) (by first | assumption | omega) (by first | assumption | omega) (by first | assumption | omega)) rfl rfl (Nat.le_of_ble_eq_true rfl) ⟨Nat.le_of_ble_eq_true rfl, Nat.le_of_ble_eq_true rfl⟩ ⟨Nat.zero_le _, Nat.zero_le _⟩ [0, 6, 7] ⟨rfl, rfl, rfl, trivial⟩ (os' := [(qm, (o0, cO 8 (mo A (nI 0) su (nI sz) bl (nI ci) (nI ma) pa en wr))), (q_circuitOf, (A 15, cI Y 6 co)), (q_way, (A 16, cI Y 6 wy)), (q_kind, (A 17, cI Y 6 kn)), (q_spent, (A 18, cI Y 6 sp)), (q_worked, (A 19, cI Y 6 wk)), (q_inputs, (A 6, cI Y 6 i1)), (q_gates, (A 7, cI Y 6 g1)), (q_tabled, (A 9, cI Y 6 t1)), (q_has, (A 24, cZ Y 336 fh))]) rfl (st' := [.int (nI (n + g)), .int (nI (n + g))]) rfl ?_
      refine x_icmpN_ge C 58 (by omega) (by omega) rfl (tgt := 158) rfl (fun hc3 => ?_) (fun hc3 => ?_)
      · refine x_run C 76 1 (pc' := 160) (lv' := [(0, .ref o0), (1, .int (nI j)), (2, .int 5), (3, .int (nI c)), (4, .int (nI (lwM fh j (n + g)))), (5, .int (nI (n + g)))]) (st' := [.int (nI (lwM fh j (n + g)))]) rfl ?_
        exact x_iret C B rfl 77 rfl (Nat.zero_le _) (Nat.zero_le _) ⟨by rfl, rfl⟩
      · exact absurd hc3 (by omega)
    · intro k hi117 ih117 lo117
      refine x_run C 54 3 (pc' := 121) (lv' := [(0, .ref o0), (1, .int (nI j)), (2, .int 5), (3, .int (nI c)), (4, .int (nI (lwM fh j k))), (5, .int (nI k))]) (st' := [.int (nI c), .ref o0, .int (nI k)]) rfl ?_
      refine x_cv C 57 (As := [.int (nI c)]) (rest := [.int (nI k)]) rfl vX8_199 N 0 rfl rfl (c_X8_wiresOf Y _ o0 A (nI 0) su sz bl ci ma pa en wr i1 g1 c n g qm q_inputs q_gates (ovl_at 0 N rfl) (ovl_at 6 N rfl) (ovl_at 7 N rfl) (N.ov [0, 6, 7] (by decide) rfl) (by first | assumption | omega) (by first | assumption | omega) (by first | assumption | omega)) rfl rfl (Nat.le_of_ble_eq_true rfl) ⟨Nat.le_of_ble_eq_true rfl, Nat.le_of_ble_eq_true rfl⟩ ⟨Nat.zero_le _, Nat.zero_le _⟩ [0, 6, 7] ⟨rfl, rfl, rfl, trivial⟩ (os' := [(qm, (o0, cO 8 (mo A (nI 0) su (nI sz) bl (nI ci) (nI ma) pa en wr))), (q_circuitOf, (A 15, cI Y 6 co)), (q_way, (A 16, cI Y 6 wy)), (q_kind, (A 17, cI Y 6 kn)), (q_spent, (A 18, cI Y 6 sp)), (q_worked, (A 19, cI Y 6 wk)), (q_inputs, (A 6, cI Y 6 i1)), (q_gates, (A 7, cI Y 6 g1)), (q_tabled, (A 9, cI Y 6 t1)), (q_has, (A 24, cZ Y 336 fh))]) rfl (st' := [.int (nI (n + g)), .int (nI k)]) rfl ?_
      refine x_icmpN_ge C 58 (by omega) (by omega) rfl (tgt := 158) rfl (fun hc4 => ?_) (fun hc4 => ?_)
      · exact absurd hc4 (by omega)
      · refine x_run C 59 2 (pc' := 130) (lv' := [(0, .ref o0), (1, .int (nI j)), (2, .int 5), (3, .int (nI c)), (4, .int (nI (lwM fh j k))), (5, .int (nI k))]) (st' := [.ref o0, .int (nI (lwM fh j k))]) rfl ?_
        refine x_get C 61 rfl fX8_82 N 0 rfl (v := .ref (A 24)) rfl ?_
        refine x_run C 62 5 (pc' := 140) (lv' := [(0, .ref o0), (1, .int (nI j)), (2, .int 5), (3, .int (nI c)), (4, .int (nI (lwM fh j k))), (5, .int (nI k))]) (st' := [.int ((56 * (nI j)) + (nI k)), .ref (A 24), .int (nI (lwM fh j k))]) rfl ?_
        refine x_st (st' := [.int (nI ((56 * j) + k)), .ref (A 24), .int (nI (lwM fh j k))]) (by simp only [nlit, nI_add, pk_mul]) ?_
        refine x_zaldN C 67 rfl N 9 rfl (by omega) (by omega) ?_
        refine x_if_eq C 68 rfl (tgt := 148) rfl (fun hc5 => ?_) (fun hc5 => ?_)
        · refine x_run C 71 5 (pc' := 117) (lv' := [(5, .int ((nI k) + 1)), (4, .int ((nI (lwM fh j k)) + 0)), (0, .ref o0), (1, .int (nI j)), (2, .int 5), (3, .int (nI c))]) (st' := []) rfl ?_
          refine x_sub (lv' := [(0, .ref o0), (1, .int (nI j)), (2, .int 5), (3, .int (nI c)), (4, .int ((nI (lwM fh j k)) + 0)), (5, .int ((nI k) + 1))]) [2, 3, 4, 5, 1, 0] rfl ?_
          refine x_loc (lv' := [(0, .ref o0), (1, .int (nI j)), (2, .int 5), (3, .int (nI c)), (4, .int (nI (lwM fh j (k + 1)))), (5, .int (nI (k + 1)))]) (by simp only [lwM, if_pos hc5]; simp only [nlit, nI_add]) ?_
          exact ih117 (by omega)
        · refine x_run C 69 2 (pc' := 149) (lv' := [(0, .ref o0), (1, .int (nI j)), (2, .int 5), (3, .int (nI c)), (4, .int (nI (lwM fh j k))), (5, .int (nI k))]) (st' := [.int 1, .int (nI (lwM fh j k))]) rfl ?_
          refine x_run C 72 4 (pc' := 117) (lv' := [(5, .int ((nI k) + 1)), (4, .int ((nI (lwM fh j k)) + 1)), (0, .ref o0), (1, .int (nI j)), (2, .int 5), (3, .int (nI c))]) (st' := []) rfl ?_
          refine x_sub (lv' := [(0, .ref o0), (1, .int (nI j)), (2, .int 5), (3, .int (nI c)), (4, .int ((nI (lwM fh j k)) + 1)), (5, .int ((nI k) + 1))]) [2, 3, 4, 5, 1, 0] rfl ?_
          refine x_loc (lv' := [(0, .ref o0), (1, .int (nI j)), (2, .int 5), (3, .int (nI c)), (4, .int (nI (lwM fh j (k + 1)))), (5, .int (nI (k + 1)))]) (by simp only [lwM, if_neg hc5]; simp only [nlit, nI_add]) ?_
          exact ih117 (by omega)
  refine x_sub (lv' := [(0, .ref o0), (1, .int (nI j)), (2, .int 5), (3, .int (nI c)), (4, .int 0), (5, .int 0)]) [3, 4, 5, 2, 1, 0] rfl ?_
  refine x_loc (lv' := [(0, .ref o0), (1, .int (nI j)), (2, .int 5), (3, .int (nI c)), (4, .int (nI (lwM fh j 0))), (5, .int (nI 0))]) (by rfl) ?_
  exact L117 0 (Nat.le_refl _) (by omega)
set_option maxHeartbeats 4000000 in
set_option maxRecDepth 100000 in
theorem c_X8_toldV6 (Y : xD) (w : va_W) (o0 : Nat) (A : Nat → Nat) (th : Int32) (su : Int32) (sz : Nat) (bl : Int32) (ci : Nat) (ma : Nat) (pa : Int32) (en : Int32) (wr : Int32) (co : Nat → Int32) (wy : Nat → Int32) (kn : Nat → Int32) (sp : Nat → Int32) (wk : Nat → Int32) (i1 : Nat → Int32) (g1 : Nat → Int32) (t1 : Nat → Int32) (fh : Nat → Int32) (j : Nat) (c : Nat) (y : Nat) (kd : Nat) (n : Nat) (g : Nat) (tb : Nat) (qm q_circuitOf q_way q_kind q_spent q_worked q_inputs q_gates q_tabled q_has : Nat) (e0 : w[qm]? = some (o0, cO 8 (mo A th su (nI sz) bl (nI ci) (nI ma) pa en wr))) (e1 : w[q_circuitOf]? = some (A 15, cI Y 6 co)) (e2 : w[q_way]? = some (A 16, cI Y 6 wy)) (e3 : w[q_kind]? = some (A 17, cI Y 6 kn)) (e4 : w[q_spent]? = some (A 18, cI Y 6 sp)) (e5 : w[q_worked]? = some (A 19, cI Y 6 wk)) (e6 : w[q_inputs]? = some (A 6, cI Y 6 i1)) (e7 : w[q_gates]? = some (A 7, cI Y 6 g1)) (e8 : w[q_tabled]? = some (A 9, cI Y 6 t1)) (e9 : w[q_has]? = some (A 24, cZ Y 336 fh)) (N : xN w.length [qm, q_circuitOf, q_way, q_kind, q_spent, q_worked, q_inputs, q_gates, q_tabled, q_has]) (hj : j < ma) (h6 : ma ≤ 6) (hc6 : c < 6) (hn16 : n ≤ 16) (hg40 : g ≤ 40) (hco : co j = nI c) (hwy : wy j = nI y) (hkn : kn j = nI kd) (hin : i1 c = nI n) (hga : g1 c = nI g) (htb : t1 c = nI tb) (hy3 : y < 3) (htb4 : tb ≤ 40) : Cf Y mX8_told 2 [.ref o0, .int (nI j), .int 6] w (some (.int (tdR 6 c y kd tb (sp j) (lwM fh j (n + g)) (wk j)))) [(qm, (o0, cO 8 (mo A (nI 0) su (nI sz) bl (nI ci) (nI ma) pa en wr))), (q_circuitOf, (A 15, cI Y 6 co)), (q_way, (A 16, cI Y 6 wy)), (q_kind, (A 17, cI Y 6 kn)), (q_spent, (A 18, cI Y 6 sp)), (q_worked, (A 19, cI Y 6 wk)), (q_inputs, (A 6, cI Y 6 i1)), (q_gates, (A 7, cI Y 6 g1)), (q_tabled, (A 9, cI Y 6 t1)), (q_has, (A 24, cZ Y 336 fh))] := by
  refine Ct.intro (T := tX8_told) (by decide) oX8_told (Nat.le_of_ble_eq_true rfl) (fun G C B => ?_)
  refine x_lay [(qm, (o0, cO 8 (mo A th su (nI sz) bl (nI ci) (nI ma) pa en wr))), (q_circuitOf, (A 15, cI Y 6 co)), (q_way, (A 16, cI Y 6 wy)), (q_kind, (A 17, cI Y 6 kn)), (q_spent, (A 18, cI Y 6 sp)), (q_worked, (A 19, cI Y 6 wk)), (q_inputs, (A 6, cI Y 6 i1)), (q_gates, (A 7, cI Y 6 g1)), (q_tabled, (A 9, cI Y 6 t1)), (q_has, (A 24, cZ Y 336 fh))] (lay_cons e0 (lay_cons e1 (lay_cons e2 (lay_cons e3 (lay_cons e4 (lay_cons e5 (lay_cons e6 (lay_cons e7 (lay_cons e8 (lay_cons e9 lay_nil)))))))))) ?_
  refine x_run C 0 2 (pc' := 2) (lv' := [(0, .ref o0), (1, .int (nI j)), (2, .int 6)]) (st' := [.int 0, .ref o0]) rfl ?_
  refine x_put C 2 rfl pX8_117 N 0 rfl rfl rfl (Nat.le_of_ble_eq_true rfl) (os' := [(qm, (o0, cO 8 (mo A (nI 0) su (nI sz) bl (nI ci) (nI ma) pa en wr))), (q_circuitOf, (A 15, cI Y 6 co)), (q_way, (A 16, cI Y 6 wy)), (q_kind, (A 17, cI Y 6 kn)), (q_spent, (A 18, cI Y 6 sp)), (q_worked, (A 19, cI Y 6 wk)), (q_inputs, (A 6, cI Y 6 i1)), (q_gates, (A 7, cI Y 6 g1)), (q_tabled, (A 9, cI Y 6 t1)), (q_has, (A 24, cZ Y 336 fh))]) rfl ?_
  refine x_run C 3 2 (pc' := 7) (lv' := [(0, .ref o0), (1, .int (nI j)), (2, .int 6)]) (st' := [.int (nI j), .ref o0]) rfl ?_
  refine x_cv C 5 (As := [.int (nI j)]) (rest := []) rfl vX8_230 N 0 rfl rfl (c_X8_isGarbled Y _ o0 A (nI 0) su sz bl ci ma pa en wr j qm (ovl_at 0 N rfl) (N.ov [0] (by decide) rfl) (by first | assumption | omega) (by first | assumption | omega)) rfl rfl (Nat.le_of_ble_eq_true rfl) ⟨Nat.le_of_ble_eq_true rfl, Nat.le_of_ble_eq_true rfl⟩ ⟨Nat.zero_le _, Nat.zero_le _⟩ [0] ⟨rfl, trivial⟩ (os' := [(qm, (o0, cO 8 (mo A (nI 0) su (nI sz) bl (nI ci) (nI ma) pa en wr))), (q_circuitOf, (A 15, cI Y 6 co)), (q_way, (A 16, cI Y 6 wy)), (q_kind, (A 17, cI Y 6 kn)), (q_spent, (A 18, cI Y 6 sp)), (q_worked, (A 19, cI Y 6 wk)), (q_inputs, (A 6, cI Y 6 i1)), (q_gates, (A 7, cI Y 6 g1)), (q_tabled, (A 9, cI Y 6 t1)), (q_has, (A 24, cZ Y 336 fh))]) rfl (st' := [.int 1]) rfl ?_
  refine x_st (st' := [.int (nI 1)]) (by simp only [nlit, nI_add, pk_mul]) ?_
  refine x_ifN_eq C 6 (by omega) rfl (tgt := 23) rfl (fun hc1 => absurd hc1 (by omega)) (fun hc1 => ?_)
  refine x_run C 7 3 (pc' := 17) (lv' := [(0, .ref o0), (1, .int (nI j)), (2, .int 6)]) (st' := [.int 6, .int 0, .int 6]) rfl ?_
  refine x_st (st' := [.int (nI 6), .int (nI 0), .int (nI 6)]) (by simp only [nlit, nI_add, pk_mul]) ?_
  refine x_cs C 10 (As := [.int (nI 6), .int (nI 0), .int (nI 6)]) (rest := []) rfl vX8_135 N (c_X8_in Y _ 6 0 6    (by first | assumption | omega) (by first | assumption | omega) (by first | assumption | omega)) rfl rfl (Nat.le_of_ble_eq_true rfl) ⟨Nat.le_of_ble_eq_true rfl, Nat.le_of_ble_eq_true rfl⟩ ⟨Nat.zero_le _, Nat.zero_le _⟩ [] trivial (os' := [(qm, (o0, cO 8 (mo A (nI 0) su (nI sz) bl (nI ci) (nI ma) pa en wr))), (q_circuitOf, (A 15, cI Y 6 co)), (q_way, (A 16, cI Y 6 wy)), (q_kind, (A 17, cI Y 6 kn)), (q_spent, (A 18, cI Y 6 sp)), (q_worked, (A 19, cI Y 6 wk)), (q_inputs, (A 6, cI Y 6 i1)), (q_gates, (A 7, cI Y 6 g1)), (q_tabled, (A 9, cI Y 6 t1)), (q_has, (A 24, cZ Y 336 fh))]) rfl (st' := [.int 1]) rfl ?_
  refine x_st (st' := [.int (nI 1)]) (by simp only [nlit, nI_add, pk_mul]) ?_
  refine x_ifN_ne C 11 (by omega) rfl (tgt := 25) rfl (fun hc2 => ?_) (fun hc2 => absurd hc2 (by omega))
  refine x_run C 14 1 (pc' := 26) (lv' := [(0, .ref o0), (1, .int (nI j)), (2, .int 6)]) (st' := [.ref o0]) rfl ?_
  refine x_get C 15 rfl fX8_55 N 0 rfl (v := .ref (A 15)) rfl ?_
  refine x_run C 16 1 (pc' := 30) (lv' := [(0, .ref o0), (1, .int (nI j)), (2, .int 6)]) (st' := [.int (nI j), .ref (A 15)]) rfl ?_
  refine x_ialdN C 17 rfl N 1 rfl (by omega) (by omega) ?_
  refine x_st (st' := [.int (nI c)]) (by rw [hco]) ?_
  refine x_run C 18 2 (pc' := 33) (lv' := [(3, .int (nI c)), (0, .ref o0), (1, .int (nI j)), (2, .int 6)]) (st' := [.int 6]) rfl ?_
  refine x_tout C 20 rfl (by decide) (tgt := 161) rfl ?_
  refine x_run C 78 1 (pc' := 162) (lv' := [(3, .int (nI c)), (0, .ref o0), (1, .int (nI j)), (2, .int 6)]) (st' := [.ref o0]) rfl ?_
  refine x_get C 79 rfl fX8_67 N 0 rfl (v := .ref (A 19)) rfl ?_
  refine x_run C 80 1 (pc' := 166) (lv' := [(3, .int (nI c)), (0, .ref o0), (1, .int (nI j)), (2, .int 6)]) (st' := [.int (nI j), .ref (A 19)]) rfl ?_
  refine x_ialdN C 81 rfl N 5 rfl (by omega) (by omega) ?_
  exact x_iret C B rfl 82 rfl (Nat.zero_le _) (Nat.zero_le _) ⟨by rfl, rfl⟩
set_option maxHeartbeats 4000000 in
theorem c_X8_told (Y : xD) (w : va_W) (o0 : Nat) (A : Nat → Nat) (th : Int32) (su : Int32) (sz : Nat) (bl : Int32) (ci : Nat) (ma : Nat) (pa : Int32) (en : Int32) (wr : Int32) (co : Nat → Int32) (wy : Nat → Int32) (kn : Nat → Int32) (sp : Nat → Int32) (wk : Nat → Int32) (i1 : Nat → Int32) (g1 : Nat → Int32) (t1 : Nat → Int32) (fh : Nat → Int32) (j : Nat) (c : Nat) (y : Nat) (kd : Nat) (n : Nat) (g : Nat) (tb : Nat) (x : Int32) (qm q_circuitOf q_way q_kind q_spent q_worked q_inputs q_gates q_tabled q_has : Nat) (e0 : w[qm]? = some (o0, cO 8 (mo A th su (nI sz) bl (nI ci) (nI ma) pa en wr))) (e1 : w[q_circuitOf]? = some (A 15, cI Y 6 co)) (e2 : w[q_way]? = some (A 16, cI Y 6 wy)) (e3 : w[q_kind]? = some (A 17, cI Y 6 kn)) (e4 : w[q_spent]? = some (A 18, cI Y 6 sp)) (e5 : w[q_worked]? = some (A 19, cI Y 6 wk)) (e6 : w[q_inputs]? = some (A 6, cI Y 6 i1)) (e7 : w[q_gates]? = some (A 7, cI Y 6 g1)) (e8 : w[q_tabled]? = some (A 9, cI Y 6 t1)) (e9 : w[q_has]? = some (A 24, cZ Y 336 fh)) (N : xN w.length [qm, q_circuitOf, q_way, q_kind, q_spent, q_worked, q_inputs, q_gates, q_tabled, q_has]) (hj : j < ma) (h6 : ma ≤ 6) (hc6 : c < 6) (hn16 : n ≤ 16) (hg40 : g ≤ 40) (hco : co j = nI c) (hwy : wy j = nI y) (hkn : kn j = nI kd) (hin : i1 c = nI n) (hga : g1 c = nI g) (htb : t1 c = nI tb) (hy3 : y < 3) (htb4 : tb ≤ 40) : Cf Y mX8_told 2 [.ref o0, .int (nI j), .int x] w (some (.int (tdR x c y kd tb (sp j) (lwM fh j (n + g)) (wk j)))) [(qm, (o0, cO 8 (mo A (nI 0) su (nI sz) bl (nI ci) (nI ma) pa en wr))), (q_circuitOf, (A 15, cI Y 6 co)), (q_way, (A 16, cI Y 6 wy)), (q_kind, (A 17, cI Y 6 kn)), (q_spent, (A 18, cI Y 6 sp)), (q_worked, (A 19, cI Y 6 wk)), (q_inputs, (A 6, cI Y 6 i1)), (q_gates, (A 7, cI Y 6 g1)), (q_tabled, (A 9, cI Y 6 t1)), (q_has, (A 24, cZ Y 336 fh))] := by
  by_cases hx : x < 0 ∨ nI 6 < x
  · have h := c_X8_toldV Y w o0 A th su sz bl ci ma pa en wr co wy kn sp wk i1 g1 t1 fh j c y kd n g tb x qm q_circuitOf q_way q_kind q_spent q_worked q_inputs q_gates q_tabled q_has e0 e1 e2 e3 e4 e5 e6 e7 e8 e9 N hj h6 hc6 hn16 hg40 hco hwy hkn hin hga htb hy3 htb4 hx
    have e : (tdR x c y kd tb (sp j) (lwM fh j (n + g)) (wk j)) = -1 := by
      unfold tdR
      rw [if_neg (show ¬ x = 0 from ov_0 (m := 6) (k := 0) (by decide) (by decide) hx), if_neg (show ¬ x = 1 from ov_0 (m := 6) (k := 1) (by decide) (by decide) hx), if_neg (show ¬ x = 2 from ov_0 (m := 6) (k := 2) (by decide) (by decide) hx), if_neg (show ¬ x = 3 from ov_0 (m := 6) (k := 3) (by decide) (by decide) hx), if_neg (show ¬ x = 4 from ov_0 (m := 6) (k := 4) (by decide) (by decide) hx), if_neg (show ¬ x = 5 from ov_0 (m := 6) (k := 5) (by decide) (by decide) hx), if_neg (show ¬ x = 6 from ov_0 (m := 6) (k := 6) (by decide) (by decide) hx)]
    rw [e]
    exact h
  · obtain ⟨k, hk, rfl⟩ := in_k (by decide) hx
    match k, hk with
    | 0, _ => exact c_X8_toldV0 Y w o0 A th su sz bl ci ma pa en wr co wy kn sp wk i1 g1 t1 fh j c y kd n g tb qm q_circuitOf q_way q_kind q_spent q_worked q_inputs q_gates q_tabled q_has e0 e1 e2 e3 e4 e5 e6 e7 e8 e9 N hj h6 hc6 hn16 hg40 hco hwy hkn hin hga htb hy3 htb4
    | 1, _ => exact c_X8_toldV1 Y w o0 A th su sz bl ci ma pa en wr co wy kn sp wk i1 g1 t1 fh j c y kd n g tb qm q_circuitOf q_way q_kind q_spent q_worked q_inputs q_gates q_tabled q_has e0 e1 e2 e3 e4 e5 e6 e7 e8 e9 N hj h6 hc6 hn16 hg40 hco hwy hkn hin hga htb hy3 htb4
    | 2, _ => exact c_X8_toldV2 Y w o0 A th su sz bl ci ma pa en wr co wy kn sp wk i1 g1 t1 fh j c y kd n g tb qm q_circuitOf q_way q_kind q_spent q_worked q_inputs q_gates q_tabled q_has e0 e1 e2 e3 e4 e5 e6 e7 e8 e9 N hj h6 hc6 hn16 hg40 hco hwy hkn hin hga htb hy3 htb4
    | 3, _ => exact c_X8_toldV3 Y w o0 A th su sz bl ci ma pa en wr co wy kn sp wk i1 g1 t1 fh j c y kd n g tb qm q_circuitOf q_way q_kind q_spent q_worked q_inputs q_gates q_tabled q_has e0 e1 e2 e3 e4 e5 e6 e7 e8 e9 N hj h6 hc6 hn16 hg40 hco hwy hkn hin hga htb hy3 htb4
    | 4, _ => exact c_X8_toldV4 Y w o0 A th su sz bl ci ma pa en wr co wy kn sp wk i1 g1 t1 fh j c y kd n g tb qm q_circuitOf q_way q_kind q_spent q_worked q_inputs q_gates q_tabled q_has e0 e1 e2 e3 e4 e5 e6 e7 e8 e9 N hj h6 hc6 hn16 hg40 hco hwy hkn hin hga htb hy3 htb4
    | 5, _ => exact c_X8_toldV5 Y w o0 A th su sz bl ci ma pa en wr co wy kn sp wk i1 g1 t1 fh j c y kd n g tb qm q_circuitOf q_way q_kind q_spent q_worked q_inputs q_gates q_tabled q_has e0 e1 e2 e3 e4 e5 e6 e7 e8 e9 N hj h6 hc6 hn16 hg40 hco hwy hkn hin hga htb hy3 htb4
    | 6, _ => exact c_X8_toldV6 Y w o0 A th su sz bl ci ma pa en wr co wy kn sp wk i1 g1 t1 fh j c y kd n g tb qm q_circuitOf q_way q_kind q_spent q_worked q_inputs q_gates q_tabled q_has e0 e1 e2 e3 e4 e5 e6 e7 e8 e9 N hj h6 hc6 hn16 hg40 hco hwy hkn hin hga htb hy3 htb4
    | k + 7, h => exact absurd h (by omega)
set_option maxHeartbeats 4000000 in
set_option maxRecDepth 100000 in
theorem c_X8_labelF (Y : xD) (w : va_W) (o0 : Nat) (A : Nat → Nat) (th : Int32) (su : Int32) (sz : Nat) (bl : Int32) (ci : Nat) (ma : Nat) (pa : Int32) (en : Int32) (wr : Int32) (x : Int32) (x0 : Int32) (x1 : Int32) (x2 : Int32) (qm : Nat) (e0 : w[qm]? = some (o0, cO 8 (mo A th su (nI sz) bl (nI ci) (nI ma) pa en wr))) (N : xN w.length [qm]) (hx : x < 0 ∨ nI ma ≤ x) (h6 : ma ≤ 6) : Cf Y mX8_label 2 [.ref o0, .int x, .int x0, .int x1, .int x2] w (some (.int (-1))) [(qm, (o0, cO 8 (mo A (nI 0) su (nI sz) bl (nI ci) (nI ma) pa en wr)))] := by
  refine Ct.intro (T := tX8_label) (by decide) oX8_label (Nat.le_of_ble_eq_true rfl) (fun G C B => ?_)
  refine x_lay [(qm, (o0, cO 8 (mo A th su (nI sz) bl (nI ci) (nI ma) pa en wr)))] (lay_cons e0 lay_nil) ?_
  refine x_run C 0 2 (pc' := 2) (lv' := [(0, .ref o0), (1, .int x), (2, .int x0), (3, .int x1), (4, .int x2)]) (st' := [.int 0, .ref o0]) rfl ?_
  refine x_put C 2 rfl pX8_117 N 0 rfl rfl rfl (Nat.le_of_ble_eq_true rfl) (os' := [(qm, (o0, cO 8 (mo A (nI 0) su (nI sz) bl (nI ci) (nI ma) pa en wr)))]) rfl ?_
  refine x_run C 3 2 (pc' := 7) (lv' := [(0, .ref o0), (1, .int x), (2, .int x0), (3, .int x1), (4, .int x2)]) (st' := [.int x, .ref o0]) rfl ?_
  refine x_cv C 5 (As := [.int x]) (rest := []) rfl vX8_230 N 0 rfl rfl (c_X8_isGarbledF Y _ o0 A (nI 0) su sz bl ci ma pa en wr x qm (ovl_at 0 N rfl) (N.ov [0] (by decide) rfl) hx (by first | assumption | omega)) rfl rfl (Nat.le_of_ble_eq_true rfl) ⟨Nat.le_of_ble_eq_true rfl, Nat.le_of_ble_eq_true rfl⟩ ⟨Nat.zero_le _, Nat.zero_le _⟩ [0] ⟨rfl, trivial⟩ (os' := [(qm, (o0, cO 8 (mo A (nI 0) su (nI sz) bl (nI ci) (nI ma) pa en wr)))]) rfl (st' := [.int 0]) rfl ?_
  refine x_st (st' := [.int (nI 0)]) (by simp only [nlit, nI_add, pk_mul]) ?_
  refine x_ifN_eq C 6 (by omega) rfl (tgt := 57) rfl (fun hc1 => ?_) (fun hc1 => absurd hc1 (by omega))
  refine x_run C 31 1 (pc' := 58) (lv' := [(0, .ref o0), (1, .int x), (2, .int x0), (3, .int x1), (4, .int x2)]) (st' := [.int (-1)]) rfl ?_
  exact x_iret C B rfl 32 rfl (Nat.zero_le _) (Nat.zero_le _) ⟨by first | rfl | (simp only [nlit, nI_add, pk_mul]; done), by first | rfl | (simp only [nlit, nI_add, pk_mul]; done)⟩
set_option maxHeartbeats 4000000 in
set_option maxRecDepth 100000 in
theorem c_X8_labelI (Y : xD) (w : va_W) (o0 : Nat) (A : Nat → Nat) (th : Int32) (su : Int32) (sz : Nat) (bl : Int32) (ci : Nat) (ma : Nat) (pa : Int32) (en : Int32) (wr : Int32) (j : Nat) (v : Int32) (b : Int32) (i : Int32) (qm : Nat) (e0 : w[qm]? = some (o0, cO 8 (mo A th su (nI sz) bl (nI ci) (nI ma) pa en wr))) (N : xN w.length [qm]) (hj : j < ma) (h6 : ma ≤ 6) (hi : i < 0 ∨ 16 ≤ i) : Cf Y mX8_label 2 [.ref o0, .int (nI j), .int v, .int b, .int i] w (some (.int (-1))) [(qm, (o0, cO 8 (mo A (nI 0) su (nI sz) bl (nI ci) (nI ma) pa en wr)))] := by
  refine Ct.intro (T := tX8_label) (by decide) oX8_label (Nat.le_of_ble_eq_true rfl) (fun G C B => ?_)
  refine x_lay [(qm, (o0, cO 8 (mo A th su (nI sz) bl (nI ci) (nI ma) pa en wr)))] (lay_cons e0 lay_nil) ?_
  refine x_run C 0 2 (pc' := 2) (lv' := [(0, .ref o0), (1, .int (nI j)), (2, .int v), (3, .int b), (4, .int i)]) (st' := [.int 0, .ref o0]) rfl ?_
  refine x_put C 2 rfl pX8_117 N 0 rfl rfl rfl (Nat.le_of_ble_eq_true rfl) (os' := [(qm, (o0, cO 8 (mo A (nI 0) su (nI sz) bl (nI ci) (nI ma) pa en wr)))]) rfl ?_
  refine x_run C 3 2 (pc' := 7) (lv' := [(0, .ref o0), (1, .int (nI j)), (2, .int v), (3, .int b), (4, .int i)]) (st' := [.int (nI j), .ref o0]) rfl ?_
  refine x_cv C 5 (As := [.int (nI j)]) (rest := []) rfl vX8_230 N 0 rfl rfl (c_X8_isGarbled Y _ o0 A (nI 0) su sz bl ci ma pa en wr j qm (ovl_at 0 N rfl) (N.ov [0] (by decide) rfl) (by first | assumption | omega) (by first | assumption | omega)) rfl rfl (Nat.le_of_ble_eq_true rfl) ⟨Nat.le_of_ble_eq_true rfl, Nat.le_of_ble_eq_true rfl⟩ ⟨Nat.zero_le _, Nat.zero_le _⟩ [0] ⟨rfl, trivial⟩ (os' := [(qm, (o0, cO 8 (mo A (nI 0) su (nI sz) bl (nI ci) (nI ma) pa en wr)))]) rfl (st' := [.int 1]) rfl ?_
  refine x_st (st' := [.int (nI 1)]) (by simp only [nlit, nI_add, pk_mul]) ?_
  refine x_ifN_eq C 6 (by omega) rfl (tgt := 57) rfl (fun hc1 => absurd hc1 (by omega)) (fun hc1 => ?_)
  refine x_run C 7 3 (pc' := 18) (lv' := [(0, .ref o0), (1, .int (nI j)), (2, .int v), (3, .int b), (4, .int i)]) (st' := [.int 15, .int 0, .int i]) rfl ?_
  refine x_cs C 10 (As := [.int i, .int 0, .int 15]) (rest := []) rfl vX8_135 N (c_X8_inF Y _ i 0 15    (hi.imp id (fun h => Int32.lt_of_lt_of_le (by decide) h))) rfl rfl (Nat.le_of_ble_eq_true rfl) ⟨Nat.le_of_ble_eq_true rfl, Nat.le_of_ble_eq_true rfl⟩ ⟨Nat.zero_le _, Nat.zero_le _⟩ [] trivial (os' := [(qm, (o0, cO 8 (mo A (nI 0) su (nI sz) bl (nI ci) (nI ma) pa en wr)))]) rfl (st' := [.int 0]) rfl ?_
  refine x_st (st' := [.int (nI 0)]) (by simp only [nlit, nI_add, pk_mul]) ?_
  refine x_ifN_eq C 11 (by omega) rfl (tgt := 57) rfl (fun hc2 => ?_) (fun hc2 => absurd hc2 (by omega))
  refine x_run C 31 1 (pc' := 58) (lv' := [(0, .ref o0), (1, .int (nI j)), (2, .int v), (3, .int b), (4, .int i)]) (st' := [.int (-1)]) rfl ?_
  exact x_iret C B rfl 32 rfl (Nat.zero_le _) (Nat.zero_le _) ⟨by first | rfl | (simp only [nlit, nI_add, pk_mul]; done), by first | rfl | (simp only [nlit, nI_add, pk_mul]; done)⟩
set_option maxHeartbeats 4000000 in
set_option maxRecDepth 100000 in
theorem c_X8_labelD (Y : xD) (w : va_W) (o0 : Nat) (A : Nat → Nat) (th : Int32) (su : Int32) (sz : Nat) (bl : Int32) (ci : Nat) (ma : Nat) (pa : Int32) (en : Int32) (wr : Int32) (co : Nat → Int32) (i1 : Nat → Int32) (g1 : Nat → Int32) (j : Nat) (c : Nat) (n : Nat) (g : Nat) (fd : Nat → Nat) (i : Nat) (b : Int32) (qm q_circuitOf q_inputs q_gates q_delta : Nat) (e0 : w[qm]? = some (o0, cO 8 (mo A th su (nI sz) bl (nI ci) (nI ma) pa en wr))) (e1 : w[q_circuitOf]? = some (A 15, cI Y 6 co)) (e2 : w[q_inputs]? = some (A 6, cI Y 6 i1)) (e3 : w[q_gates]? = some (A 7, cI Y 6 g1)) (e4 : w[q_delta]? = some (A 20, cI Y 96 (iF fd))) (N : xN w.length [qm, q_circuitOf, q_inputs, q_gates, q_delta]) (hj : j < ma) (h6 : ma ≤ 6) (hc6 : c < 6) (hn16 : n ≤ 16) (hn1 : 1 ≤ n) (hg40 : g ≤ 40) (hco : co j = nI c) (hin : i1 c = nI n) (hga : g1 c = nI g) (hi : i < 16) : Cf Y mX8_label 2 [.ref o0, .int (nI j), .int (-1), .int b, .int (nI i)] w (some (.int (nI (fd (16 * j + i))))) [(qm, (o0, cO 8 (mo A (nI 0) su (nI sz) bl (nI ci) (nI ma) pa en wr))), (q_circuitOf, (A 15, cI Y 6 co)), (q_inputs, (A 6, cI Y 6 i1)), (q_gates, (A 7, cI Y 6 g1)), (q_delta, (A 20, cI Y 96 (iF fd)))] := by
  refine Ct.intro (T := tX8_label) (by decide) oX8_label (Nat.le_of_ble_eq_true rfl) (fun G C B => ?_)
  refine x_lay [(qm, (o0, cO 8 (mo A th su (nI sz) bl (nI ci) (nI ma) pa en wr))), (q_circuitOf, (A 15, cI Y 6 co)), (q_inputs, (A 6, cI Y 6 i1)), (q_gates, (A 7, cI Y 6 g1)), (q_delta, (A 20, cI Y 96 (iF fd)))] (lay_cons e0 (lay_cons e1 (lay_cons e2 (lay_cons e3 (lay_cons e4 lay_nil))))) ?_
  refine x_run C 0 2 (pc' := 2) (lv' := [(0, .ref o0), (1, .int (nI j)), (2, .int (-1)), (3, .int b), (4, .int (nI i))]) (st' := [.int 0, .ref o0]) rfl ?_
  refine x_put C 2 rfl pX8_117 N 0 rfl rfl rfl (Nat.le_of_ble_eq_true rfl) (os' := [(qm, (o0, cO 8 (mo A (nI 0) su (nI sz) bl (nI ci) (nI ma) pa en wr))), (q_circuitOf, (A 15, cI Y 6 co)), (q_inputs, (A 6, cI Y 6 i1)), (q_gates, (A 7, cI Y 6 g1)), (q_delta, (A 20, cI Y 96 (iF fd)))]) rfl ?_
  refine x_run C 3 2 (pc' := 7) (lv' := [(0, .ref o0), (1, .int (nI j)), (2, .int (-1)), (3, .int b), (4, .int (nI i))]) (st' := [.int (nI j), .ref o0]) rfl ?_
  refine x_cv C 5 (As := [.int (nI j)]) (rest := []) rfl vX8_230 N 0 rfl rfl (c_X8_isGarbled Y _ o0 A (nI 0) su sz bl ci ma pa en wr j qm (ovl_at 0 N rfl) (N.ov [0] (by decide) rfl) (by first | assumption | omega) (by first | assumption | omega)) rfl rfl (Nat.le_of_ble_eq_true rfl) ⟨Nat.le_of_ble_eq_true rfl, Nat.le_of_ble_eq_true rfl⟩ ⟨Nat.zero_le _, Nat.zero_le _⟩ [0] ⟨rfl, trivial⟩ (os' := [(qm, (o0, cO 8 (mo A (nI 0) su (nI sz) bl (nI ci) (nI ma) pa en wr))), (q_circuitOf, (A 15, cI Y 6 co)), (q_inputs, (A 6, cI Y 6 i1)), (q_gates, (A 7, cI Y 6 g1)), (q_delta, (A 20, cI Y 96 (iF fd)))]) rfl (st' := [.int 1]) rfl ?_
  refine x_st (st' := [.int (nI 1)]) (by simp only [nlit, nI_add, pk_mul]) ?_
  refine x_ifN_eq C 6 (by omega) rfl (tgt := 57) rfl (fun hc1 => absurd hc1 (by omega)) (fun hc1 => ?_)
  refine x_run C 7 3 (pc' := 18) (lv' := [(0, .ref o0), (1, .int (nI j)), (2, .int (-1)), (3, .int b), (4, .int (nI i))]) (st' := [.int 15, .int 0, .int (nI i)]) rfl ?_
  refine x_st (st' := [.int (nI 15), .int (nI 0), .int (nI i)]) (by simp only [nlit, nI_add, pk_mul]) ?_
  refine x_cs C 10 (As := [.int (nI i), .int (nI 0), .int (nI 15)]) (rest := []) rfl vX8_135 N (c_X8_in Y _ i 0 15    (by first | assumption | omega) (by first | assumption | omega) (by first | assumption | omega)) rfl rfl (Nat.le_of_ble_eq_true rfl) ⟨Nat.le_of_ble_eq_true rfl, Nat.le_of_ble_eq_true rfl⟩ ⟨Nat.zero_le _, Nat.zero_le _⟩ [] trivial (os' := [(qm, (o0, cO 8 (mo A (nI 0) su (nI sz) bl (nI ci) (nI ma) pa en wr))), (q_circuitOf, (A 15, cI Y 6 co)), (q_inputs, (A 6, cI Y 6 i1)), (q_gates, (A 7, cI Y 6 g1)), (q_delta, (A 20, cI Y 96 (iF fd)))]) rfl (st' := [.int 1]) rfl ?_
  refine x_st (st' := [.int (nI 1)]) (by simp only [nlit, nI_add, pk_mul]) ?_
  refine x_ifN_eq C 11 (by omega) rfl (tgt := 57) rfl (fun hc2 => absurd hc2 (by omega)) (fun hc2 => ?_)
  refine x_run C 12 4 (pc' := 28) (lv' := [(0, .ref o0), (1, .int (nI j)), (2, .int (-1)), (3, .int b), (4, .int (nI i))]) (st' := [.ref o0, .ref o0, .int (-1), .int (-1)]) rfl ?_
  refine x_get C 16 rfl fX8_55 N 0 rfl (v := .ref (A 15)) rfl ?_
  refine x_run C 17 1 (pc' := 32) (lv' := [(0, .ref o0), (1, .int (nI j)), (2, .int (-1)), (3, .int b), (4, .int (nI i))]) (st' := [.int (nI j), .ref (A 15), .ref o0, .int (-1), .int (-1)]) rfl ?_
  refine x_ialdN C 18 rfl N 1 rfl (by omega) (by omega) ?_
  refine x_st (st' := [.int (nI c), .ref o0, .int (-1), .int (-1)]) (by rw [hco]) ?_
  refine x_cv C 19 (As := [.int (nI c)]) (rest := [.int (-1), .int (-1)]) rfl vX8_199 N 0 rfl rfl (c_X8_wiresOf Y _ o0 A (nI 0) su sz bl ci ma pa en wr i1 g1 c n g qm q_inputs q_gates (ovl_at 0 N rfl) (ovl_at 2 N rfl) (ovl_at 3 N rfl) (N.ov [0, 2, 3] (by decide) rfl) (by first | assumption | omega) (by first | assumption | omega) (by first | assumption | omega)) rfl rfl (Nat.le_of_ble_eq_true rfl) ⟨Nat.le_of_ble_eq_true rfl, Nat.le_of_ble_eq_true rfl⟩ ⟨Nat.zero_le _, Nat.zero_le _⟩ [0, 2, 3] ⟨rfl, rfl, rfl, trivial⟩ (os' := [(qm, (o0, cO 8 (mo A (nI 0) su (nI sz) bl (nI ci) (nI ma) pa en wr))), (q_circuitOf, (A 15, cI Y 6 co)), (q_inputs, (A 6, cI Y 6 i1)), (q_gates, (A 7, cI Y 6 g1)), (q_delta, (A 20, cI Y 96 (iF fd)))]) rfl (st' := [.int (nI (n + g)), .int (-1), .int (-1)]) rfl ?_
  refine x_run C 20 2 (pc' := 38) (lv' := [(0, .ref o0), (1, .int (nI j)), (2, .int (-1)), (3, .int b), (4, .int (nI i))]) (st' := [.int ((nI (n + g)) - 1), .int (-1), .int (-1)]) rfl ?_
  refine x_st (st' := [.int (nI ((n + g) - 1)), .int (-1), .int (-1)]) (by simp only [nlit, nI_add, pk_mul, pk_sub (show 1 ≤ (n + g) by omega)]) ?_
  refine x_cs C 22 (As := [.int (-1), .int (-1), .int (nI ((n + g) - 1))]) (rest := []) rfl vX8_135 N (c_X8_inT Y _ (-1) (-1) (nI ((n + g) - 1))    (by decide) (not_lt_m1 (by omega))) rfl rfl (Nat.le_of_ble_eq_true rfl) ⟨Nat.le_of_ble_eq_true rfl, Nat.le_of_ble_eq_true rfl⟩ ⟨Nat.zero_le _, Nat.zero_le _⟩ [] trivial (os' := [(qm, (o0, cO 8 (mo A (nI 0) su (nI sz) bl (nI ci) (nI ma) pa en wr))), (q_circuitOf, (A 15, cI Y 6 co)), (q_inputs, (A 6, cI Y 6 i1)), (q_gates, (A 7, cI Y 6 g1)), (q_delta, (A 20, cI Y 96 (iF fd)))]) rfl (st' := [.int 1]) rfl ?_
  refine x_st (st' := [.int (nI 1)]) (by simp only [nlit, nI_add, pk_mul]) ?_
  refine x_ifN_eq C 23 (by omega) rfl (tgt := 57) rfl (fun hc3 => absurd hc3 (by omega)) (fun hc3 => ?_)
  refine x_run C 24 1 (pc' := 45) (lv' := [(0, .ref o0), (1, .int (nI j)), (2, .int (-1)), (3, .int b), (4, .int (nI i))]) (st' := [.int (-1)]) rfl ?_
  refine x_if_lt C 25 rfl (tgt := 59) rfl (fun hc4 => ?_) (fun hc4 => ?_)
  · refine x_run C 33 1 (pc' := 60) (lv' := [(0, .ref o0), (1, .int (nI j)), (2, .int (-1)), (3, .int b), (4, .int (nI i))]) (st' := [.ref o0]) rfl ?_
    refine x_get C 34 rfl fX8_70 N 0 rfl (v := .ref (A 20)) rfl ?_
    refine x_run C 35 5 (pc' := 70) (lv' := [(0, .ref o0), (1, .int (nI j)), (2, .int (-1)), (3, .int b), (4, .int (nI i))]) (st' := [.int ((16 * (nI j)) + (nI i)), .ref (A 20)]) rfl ?_
    refine x_st (st' := [.int (nI ((16 * j) + i)), .ref (A 20)]) (by simp only [nlit, nI_add, pk_mul]) ?_
    refine x_ialdN C 40 rfl N 4 rfl (by omega) (by omega) ?_
    refine x_st (st' := [.int (nI (fd ((16 * j) + i)))]) rfl ?_
    refine x_run C 41 2 (pc' := 74) (lv' := [(5, .int (nI (fd ((16 * j) + i)))), (0, .ref o0), (1, .int (nI j)), (2, .int (-1)), (3, .int b), (4, .int (nI i))]) (st' := [.int (-1)]) rfl ?_
    refine x_if_ge C 43 rfl (tgt := 82) rfl (fun hc5 => ?_) (fun hc5 => ?_)
    · exact absurd hc5 (by decide)
    · refine x_run C 44 2 (pc' := 107) (lv' := [(5, .int (nI (fd ((16 * j) + i)))), (0, .ref o0), (1, .int (nI j)), (2, .int (-1)), (3, .int b), (4, .int (nI i))]) (st' := [.int (nI (fd ((16 * j) + i)))]) rfl ?_
      exact x_iret C B rfl 61 rfl (Nat.zero_le _) (Nat.zero_le _) ⟨by first | contradiction | (simp only [if_pos hc4, if_neg hc5]; done) | (simp only [if_pos hc4, if_neg hc5]; simp only [nlit, nI_add, pk_mul]; done) | (simp only [if_pos hc4, if_neg hc5, nlit, nI_add, pk_mul]; done) | rfl | (simp only [if_pos hc4, if_neg hc5]; rfl) | (simp only [if_pos hc4, if_neg hc5, nlit, nI_add, pk_mul]; rfl), by first | contradiction | (simp only [if_pos hc4, if_neg hc5]; done) | (simp only [if_pos hc4, if_neg hc5]; simp only [nlit, nI_add, pk_mul]; done) | (simp only [if_pos hc4, if_neg hc5, nlit, nI_add, pk_mul]; done) | rfl | (simp only [if_pos hc4, if_neg hc5]; rfl) | (simp only [if_pos hc4, if_neg hc5, nlit, nI_add, pk_mul]; rfl)⟩
  · exact absurd (by decide) hc4
set_option maxHeartbeats 4000000 in
set_option maxRecDepth 100000 in
theorem c_X8_labelW (Y : xD) (w : va_W) (o0 : Nat) (A : Nat → Nat) (th : Int32) (su : Int32) (sz : Nat) (bl : Int32) (ci : Nat) (ma : Nat) (pa : Int32) (en : Int32) (wr : Int32) (co : Nat → Int32) (i1 : Nat → Int32) (g1 : Nat → Int32) (j : Nat) (c : Nat) (n : Nat) (g : Nat) (i : Nat) (v : Int32) (b : Int32) (qm q_circuitOf q_inputs q_gates : Nat) (e0 : w[qm]? = some (o0, cO 8 (mo A th su (nI sz) bl (nI ci) (nI ma) pa en wr))) (e1 : w[q_circuitOf]? = some (A 15, cI Y 6 co)) (e2 : w[q_inputs]? = some (A 6, cI Y 6 i1)) (e3 : w[q_gates]? = some (A 7, cI Y 6 g1)) (N : xN w.length [qm, q_circuitOf, q_inputs, q_gates]) (hj : j < ma) (h6 : ma ≤ 6) (hc6 : c < 6) (hn16 : n ≤ 16) (hn1 : 1 ≤ n) (hg40 : g ≤ 40) (hco : co j = nI c) (hin : i1 c = nI n) (hga : g1 c = nI g) (hi : i < 16) (hv1 : ¬ v = -1) (hv : v < 0 ∨ nI (n + g) ≤ v) : Cf Y mX8_label 2 [.ref o0, .int (nI j), .int v, .int b, .int (nI i)] w (some (.int (-1))) [(qm, (o0, cO 8 (mo A (nI 0) su (nI sz) bl (nI ci) (nI ma) pa en wr))), (q_circuitOf, (A 15, cI Y 6 co)), (q_inputs, (A 6, cI Y 6 i1)), (q_gates, (A 7, cI Y 6 g1))] := by
  refine Ct.intro (T := tX8_label) (by decide) oX8_label (Nat.le_of_ble_eq_true rfl) (fun G C B => ?_)
  refine x_lay [(qm, (o0, cO 8 (mo A th su (nI sz) bl (nI ci) (nI ma) pa en wr))), (q_circuitOf, (A 15, cI Y 6 co)), (q_inputs, (A 6, cI Y 6 i1)), (q_gates, (A 7, cI Y 6 g1))] (lay_cons e0 (lay_cons e1 (lay_cons e2 (lay_cons e3 lay_nil)))) ?_
  refine x_run C 0 2 (pc' := 2) (lv' := [(0, .ref o0), (1, .int (nI j)), (2, .int v), (3, .int b), (4, .int (nI i))]) (st' := [.int 0, .ref o0]) rfl ?_
  refine x_put C 2 rfl pX8_117 N 0 rfl rfl rfl (Nat.le_of_ble_eq_true rfl) (os' := [(qm, (o0, cO 8 (mo A (nI 0) su (nI sz) bl (nI ci) (nI ma) pa en wr))), (q_circuitOf, (A 15, cI Y 6 co)), (q_inputs, (A 6, cI Y 6 i1)), (q_gates, (A 7, cI Y 6 g1))]) rfl ?_
  refine x_run C 3 2 (pc' := 7) (lv' := [(0, .ref o0), (1, .int (nI j)), (2, .int v), (3, .int b), (4, .int (nI i))]) (st' := [.int (nI j), .ref o0]) rfl ?_
  refine x_cv C 5 (As := [.int (nI j)]) (rest := []) rfl vX8_230 N 0 rfl rfl (c_X8_isGarbled Y _ o0 A (nI 0) su sz bl ci ma pa en wr j qm (ovl_at 0 N rfl) (N.ov [0] (by decide) rfl) (by first | assumption | omega) (by first | assumption | omega)) rfl rfl (Nat.le_of_ble_eq_true rfl) ⟨Nat.le_of_ble_eq_true rfl, Nat.le_of_ble_eq_true rfl⟩ ⟨Nat.zero_le _, Nat.zero_le _⟩ [0] ⟨rfl, trivial⟩ (os' := [(qm, (o0, cO 8 (mo A (nI 0) su (nI sz) bl (nI ci) (nI ma) pa en wr))), (q_circuitOf, (A 15, cI Y 6 co)), (q_inputs, (A 6, cI Y 6 i1)), (q_gates, (A 7, cI Y 6 g1))]) rfl (st' := [.int 1]) rfl ?_
  refine x_st (st' := [.int (nI 1)]) (by simp only [nlit, nI_add, pk_mul]) ?_
  refine x_ifN_eq C 6 (by omega) rfl (tgt := 57) rfl (fun hc1 => absurd hc1 (by omega)) (fun hc1 => ?_)
  refine x_run C 7 3 (pc' := 18) (lv' := [(0, .ref o0), (1, .int (nI j)), (2, .int v), (3, .int b), (4, .int (nI i))]) (st' := [.int 15, .int 0, .int (nI i)]) rfl ?_
  refine x_st (st' := [.int (nI 15), .int (nI 0), .int (nI i)]) (by simp only [nlit, nI_add, pk_mul]) ?_
  refine x_cs C 10 (As := [.int (nI i), .int (nI 0), .int (nI 15)]) (rest := []) rfl vX8_135 N (c_X8_in Y _ i 0 15    (by first | assumption | omega) (by first | assumption | omega) (by first | assumption | omega)) rfl rfl (Nat.le_of_ble_eq_true rfl) ⟨Nat.le_of_ble_eq_true rfl, Nat.le_of_ble_eq_true rfl⟩ ⟨Nat.zero_le _, Nat.zero_le _⟩ [] trivial (os' := [(qm, (o0, cO 8 (mo A (nI 0) su (nI sz) bl (nI ci) (nI ma) pa en wr))), (q_circuitOf, (A 15, cI Y 6 co)), (q_inputs, (A 6, cI Y 6 i1)), (q_gates, (A 7, cI Y 6 g1))]) rfl (st' := [.int 1]) rfl ?_
  refine x_st (st' := [.int (nI 1)]) (by simp only [nlit, nI_add, pk_mul]) ?_
  refine x_ifN_eq C 11 (by omega) rfl (tgt := 57) rfl (fun hc2 => absurd hc2 (by omega)) (fun hc2 => ?_)
  refine x_run C 12 4 (pc' := 28) (lv' := [(0, .ref o0), (1, .int (nI j)), (2, .int v), (3, .int b), (4, .int (nI i))]) (st' := [.ref o0, .ref o0, .int (-1), .int v]) rfl ?_
  refine x_get C 16 rfl fX8_55 N 0 rfl (v := .ref (A 15)) rfl ?_
  refine x_run C 17 1 (pc' := 32) (lv' := [(0, .ref o0), (1, .int (nI j)), (2, .int v), (3, .int b), (4, .int (nI i))]) (st' := [.int (nI j), .ref (A 15), .ref o0, .int (-1), .int v]) rfl ?_
  refine x_ialdN C 18 rfl N 1 rfl (by omega) (by omega) ?_
  refine x_st (st' := [.int (nI c), .ref o0, .int (-1), .int v]) (by rw [hco]) ?_
  refine x_cv C 19 (As := [.int (nI c)]) (rest := [.int (-1), .int v]) rfl vX8_199 N 0 rfl rfl (c_X8_wiresOf Y _ o0 A (nI 0) su sz bl ci ma pa en wr i1 g1 c n g qm q_inputs q_gates (ovl_at 0 N rfl) (ovl_at 2 N rfl) (ovl_at 3 N rfl) (N.ov [0, 2, 3] (by decide) rfl) (by first | assumption | omega) (by first | assumption | omega) (by first | assumption | omega)) rfl rfl (Nat.le_of_ble_eq_true rfl) ⟨Nat.le_of_ble_eq_true rfl, Nat.le_of_ble_eq_true rfl⟩ ⟨Nat.zero_le _, Nat.zero_le _⟩ [0, 2, 3] ⟨rfl, rfl, rfl, trivial⟩ (os' := [(qm, (o0, cO 8 (mo A (nI 0) su (nI sz) bl (nI ci) (nI ma) pa en wr))), (q_circuitOf, (A 15, cI Y 6 co)), (q_inputs, (A 6, cI Y 6 i1)), (q_gates, (A 7, cI Y 6 g1))]) rfl (st' := [.int (nI (n + g)), .int (-1), .int v]) rfl ?_
  refine x_run C 20 2 (pc' := 38) (lv' := [(0, .ref o0), (1, .int (nI j)), (2, .int v), (3, .int b), (4, .int (nI i))]) (st' := [.int ((nI (n + g)) - 1), .int (-1), .int v]) rfl ?_
  refine x_st (st' := [.int (nI ((n + g) - 1)), .int (-1), .int v]) (by simp only [nlit, nI_add, pk_mul, pk_sub (show 1 ≤ (n + g) by omega)]) ?_
  refine x_cs C 22 (As := [.int v, .int (-1), .int (nI ((n + g) - 1))]) (rest := []) rfl vX8_135 N (c_X8_inF Y _ v (-1) (nI ((n + g) - 1))    (lbl_W (by omega) (by omega) hv1 hv)) rfl rfl (Nat.le_of_ble_eq_true rfl) ⟨Nat.le_of_ble_eq_true rfl, Nat.le_of_ble_eq_true rfl⟩ ⟨Nat.zero_le _, Nat.zero_le _⟩ [] trivial (os' := [(qm, (o0, cO 8 (mo A (nI 0) su (nI sz) bl (nI ci) (nI ma) pa en wr))), (q_circuitOf, (A 15, cI Y 6 co)), (q_inputs, (A 6, cI Y 6 i1)), (q_gates, (A 7, cI Y 6 g1))]) rfl (st' := [.int 0]) rfl ?_
  refine x_st (st' := [.int (nI 0)]) (by simp only [nlit, nI_add, pk_mul]) ?_
  refine x_ifN_eq C 23 (by omega) rfl (tgt := 57) rfl (fun hc3 => ?_) (fun hc3 => absurd hc3 (by omega))
  refine x_run C 31 1 (pc' := 58) (lv' := [(0, .ref o0), (1, .int (nI j)), (2, .int v), (3, .int b), (4, .int (nI i))]) (st' := [.int (-1)]) rfl ?_
  exact x_iret C B rfl 32 rfl (Nat.zero_le _) (Nat.zero_le _) ⟨by first | rfl | (simp only [nlit, nI_add, pk_mul]; done), by first | rfl | (simp only [nlit, nI_add, pk_mul]; done)⟩
set_option maxHeartbeats 4000000 in
set_option maxRecDepth 100000 in
theorem c_X8_labelT (Y : xD) (w : va_W) (o0 : Nat) (A : Nat → Nat) (th : Int32) (su : Int32) (sz : Nat) (bl : Int32) (ci : Nat) (ma : Nat) (pa : Int32) (en : Int32) (wr : Int32) (co : Nat → Int32) (i1 : Nat → Int32) (g1 : Nat → Int32) (j : Nat) (c : Nat) (n : Nat) (g : Nat) (i : Nat) (v : Nat) (b : Int32) (qm q_circuitOf q_inputs q_gates : Nat) (e0 : w[qm]? = some (o0, cO 8 (mo A th su (nI sz) bl (nI ci) (nI ma) pa en wr))) (e1 : w[q_circuitOf]? = some (A 15, cI Y 6 co)) (e2 : w[q_inputs]? = some (A 6, cI Y 6 i1)) (e3 : w[q_gates]? = some (A 7, cI Y 6 g1)) (N : xN w.length [qm, q_circuitOf, q_inputs, q_gates]) (hj : j < ma) (h6 : ma ≤ 6) (hc6 : c < 6) (hn16 : n ≤ 16) (hn1 : 1 ≤ n) (hg40 : g ≤ 40) (hco : co j = nI c) (hin : i1 c = nI n) (hga : g1 c = nI g) (hi : i < 16) (hv : v < n + g) (hb : b < 0 ∨ 1 < b) : Cf Y mX8_label 2 [.ref o0, .int (nI j), .int (nI v), .int b, .int (nI i)] w (some (.int (-1))) [(qm, (o0, cO 8 (mo A (nI 0) su (nI sz) bl (nI ci) (nI ma) pa en wr))), (q_circuitOf, (A 15, cI Y 6 co)), (q_inputs, (A 6, cI Y 6 i1)), (q_gates, (A 7, cI Y 6 g1))] := by
  refine Ct.intro (T := tX8_label) (by decide) oX8_label (Nat.le_of_ble_eq_true rfl) (fun G C B => ?_)
  refine x_lay [(qm, (o0, cO 8 (mo A th su (nI sz) bl (nI ci) (nI ma) pa en wr))), (q_circuitOf, (A 15, cI Y 6 co)), (q_inputs, (A 6, cI Y 6 i1)), (q_gates, (A 7, cI Y 6 g1))] (lay_cons e0 (lay_cons e1 (lay_cons e2 (lay_cons e3 lay_nil)))) ?_
  refine x_run C 0 2 (pc' := 2) (lv' := [(0, .ref o0), (1, .int (nI j)), (2, .int (nI v)), (3, .int b), (4, .int (nI i))]) (st' := [.int 0, .ref o0]) rfl ?_
  refine x_put C 2 rfl pX8_117 N 0 rfl rfl rfl (Nat.le_of_ble_eq_true rfl) (os' := [(qm, (o0, cO 8 (mo A (nI 0) su (nI sz) bl (nI ci) (nI ma) pa en wr))), (q_circuitOf, (A 15, cI Y 6 co)), (q_inputs, (A 6, cI Y 6 i1)), (q_gates, (A 7, cI Y 6 g1))]) rfl ?_
  refine x_run C 3 2 (pc' := 7) (lv' := [(0, .ref o0), (1, .int (nI j)), (2, .int (nI v)), (3, .int b), (4, .int (nI i))]) (st' := [.int (nI j), .ref o0]) rfl ?_
  refine x_cv C 5 (As := [.int (nI j)]) (rest := []) rfl vX8_230 N 0 rfl rfl (c_X8_isGarbled Y _ o0 A (nI 0) su sz bl ci ma pa en wr j qm (ovl_at 0 N rfl) (N.ov [0] (by decide) rfl) (by first | assumption | omega) (by first | assumption | omega)) rfl rfl (Nat.le_of_ble_eq_true rfl) ⟨Nat.le_of_ble_eq_true rfl, Nat.le_of_ble_eq_true rfl⟩ ⟨Nat.zero_le _, Nat.zero_le _⟩ [0] ⟨rfl, trivial⟩ (os' := [(qm, (o0, cO 8 (mo A (nI 0) su (nI sz) bl (nI ci) (nI ma) pa en wr))), (q_circuitOf, (A 15, cI Y 6 co)), (q_inputs, (A 6, cI Y 6 i1)), (q_gates, (A 7, cI Y 6 g1))]) rfl (st' := [.int 1]) rfl ?_
  refine x_st (st' := [.int (nI 1)]) (by simp only [nlit, nI_add, pk_mul]) ?_
  refine x_ifN_eq C 6 (by omega) rfl (tgt := 57) rfl (fun hc1 => absurd hc1 (by omega)) (fun hc1 => ?_)
  refine x_run C 7 3 (pc' := 18) (lv' := [(0, .ref o0), (1, .int (nI j)), (2, .int (nI v)), (3, .int b), (4, .int (nI i))]) (st' := [.int 15, .int 0, .int (nI i)]) rfl ?_
  refine x_st (st' := [.int (nI 15), .int (nI 0), .int (nI i)]) (by simp only [nlit, nI_add, pk_mul]) ?_
  refine x_cs C 10 (As := [.int (nI i), .int (nI 0), .int (nI 15)]) (rest := []) rfl vX8_135 N (c_X8_in Y _ i 0 15    (by first | assumption | omega) (by first | assumption | omega) (by first | assumption | omega)) rfl rfl (Nat.le_of_ble_eq_true rfl) ⟨Nat.le_of_ble_eq_true rfl, Nat.le_of_ble_eq_true rfl⟩ ⟨Nat.zero_le _, Nat.zero_le _⟩ [] trivial (os' := [(qm, (o0, cO 8 (mo A (nI 0) su (nI sz) bl (nI ci) (nI ma) pa en wr))), (q_circuitOf, (A 15, cI Y 6 co)), (q_inputs, (A 6, cI Y 6 i1)), (q_gates, (A 7, cI Y 6 g1))]) rfl (st' := [.int 1]) rfl ?_
  refine x_st (st' := [.int (nI 1)]) (by simp only [nlit, nI_add, pk_mul]) ?_
  refine x_ifN_eq C 11 (by omega) rfl (tgt := 57) rfl (fun hc2 => absurd hc2 (by omega)) (fun hc2 => ?_)
  refine x_run C 12 4 (pc' := 28) (lv' := [(0, .ref o0), (1, .int (nI j)), (2, .int (nI v)), (3, .int b), (4, .int (nI i))]) (st' := [.ref o0, .ref o0, .int (-1), .int (nI v)]) rfl ?_
  refine x_get C 16 rfl fX8_55 N 0 rfl (v := .ref (A 15)) rfl ?_
  refine x_run C 17 1 (pc' := 32) (lv' := [(0, .ref o0), (1, .int (nI j)), (2, .int (nI v)), (3, .int b), (4, .int (nI i))]) (st' := [.int (nI j), .ref (A 15), .ref o0, .int (-1), .int (nI v)]) rfl ?_
  refine x_ialdN C 18 rfl N 1 rfl (by omega) (by omega) ?_
  refine x_st (st' := [.int (nI c), .ref o0, .int (-1), .int (nI v)]) (by rw [hco]) ?_
  refine x_cv C 19 (As := [.int (nI c)]) (rest := [.int (-1), .int (nI v)]) rfl vX8_199 N 0 rfl rfl (c_X8_wiresOf Y _ o0 A (nI 0) su sz bl ci ma pa en wr i1 g1 c n g qm q_inputs q_gates (ovl_at 0 N rfl) (ovl_at 2 N rfl) (ovl_at 3 N rfl) (N.ov [0, 2, 3] (by decide) rfl) (by first | assumption | omega) (by first | assumption | omega) (by first | assumption | omega)) rfl rfl (Nat.le_of_ble_eq_true rfl) ⟨Nat.le_of_ble_eq_true rfl, Nat.le_of_ble_eq_true rfl⟩ ⟨Nat.zero_le _, Nat.zero_le _⟩ [0, 2, 3] ⟨rfl, rfl, rfl, trivial⟩ (os' := [(qm, (o0, cO 8 (mo A (nI 0) su (nI sz) bl (nI ci) (nI ma) pa en wr))), (q_circuitOf, (A 15, cI Y 6 co)), (q_inputs, (A 6, cI Y 6 i1)), (q_gates, (A 7, cI Y 6 g1))]) rfl (st' := [.int (nI (n + g)), .int (-1), .int (nI v)]) rfl ?_
  refine x_run C 20 2 (pc' := 38) (lv' := [(0, .ref o0), (1, .int (nI j)), (2, .int (nI v)), (3, .int b), (4, .int (nI i))]) (st' := [.int ((nI (n + g)) - 1), .int (-1), .int (nI v)]) rfl ?_
  refine x_st (st' := [.int (nI ((n + g) - 1)), .int (-1), .int (nI v)]) (by simp only [nlit, nI_add, pk_mul, pk_sub (show 1 ≤ (n + g) by omega)]) ?_
  refine x_cs C 22 (As := [.int (nI v), .int (-1), .int (nI ((n + g) - 1))]) (rest := []) rfl vX8_135 N (c_X8_inT Y _ (nI v) (-1) (nI ((n + g) - 1))    (not_nI_lt (by omega)) (not_lt_nI (by omega) (by omega))) rfl rfl (Nat.le_of_ble_eq_true rfl) ⟨Nat.le_of_ble_eq_true rfl, Nat.le_of_ble_eq_true rfl⟩ ⟨Nat.zero_le _, Nat.zero_le _⟩ [] trivial (os' := [(qm, (o0, cO 8 (mo A (nI 0) su (nI sz) bl (nI ci) (nI ma) pa en wr))), (q_circuitOf, (A 15, cI Y 6 co)), (q_inputs, (A 6, cI Y 6 i1)), (q_gates, (A 7, cI Y 6 g1))]) rfl (st' := [.int 1]) rfl ?_
  refine x_st (st' := [.int (nI 1)]) (by simp only [nlit, nI_add, pk_mul]) ?_
  refine x_ifN_eq C 23 (by omega) rfl (tgt := 57) rfl (fun hc3 => absurd hc3 (by omega)) (fun hc3 => ?_)
  refine x_run C 24 1 (pc' := 45) (lv' := [(0, .ref o0), (1, .int (nI j)), (2, .int (nI v)), (3, .int b), (4, .int (nI i))]) (st' := [.int (nI v)]) rfl ?_
  refine x_if_lt C 25 rfl (tgt := 59) rfl (fun hc4 => absurd hc4 (nI_pos (by omega))) (fun hc4 => ?_)
  refine x_run C 26 3 (pc' := 51) (lv' := [(0, .ref o0), (1, .int (nI j)), (2, .int (nI v)), (3, .int b), (4, .int (nI i))]) (st' := [.int 1, .int 0, .int b]) rfl ?_
  refine x_cs C 29 (As := [.int b, .int 0, .int 1]) (rest := []) rfl vX8_135 N (c_X8_inF Y _ b 0 1    hb) rfl rfl (Nat.le_of_ble_eq_true rfl) ⟨Nat.le_of_ble_eq_true rfl, Nat.le_of_ble_eq_true rfl⟩ ⟨Nat.zero_le _, Nat.zero_le _⟩ [] trivial (os' := [(qm, (o0, cO 8 (mo A (nI 0) su (nI sz) bl (nI ci) (nI ma) pa en wr))), (q_circuitOf, (A 15, cI Y 6 co)), (q_inputs, (A 6, cI Y 6 i1)), (q_gates, (A 7, cI Y 6 g1))]) rfl (st' := [.int 0]) rfl ?_
  refine x_st (st' := [.int (nI 0)]) (by simp only [nlit, nI_add, pk_mul]) ?_
  refine x_ifN_ne C 30 (by omega) rfl (tgt := 59) rfl (fun hc5 => absurd hc5 (by omega)) (fun hc5 => ?_)
  refine x_run C 31 1 (pc' := 58) (lv' := [(0, .ref o0), (1, .int (nI j)), (2, .int (nI v)), (3, .int b), (4, .int (nI i))]) (st' := [.int (-1)]) rfl ?_
  exact x_iret C B rfl 32 rfl (Nat.zero_le _) (Nat.zero_le _) ⟨by first | rfl | (simp only [nlit, nI_add, pk_mul]; done), by first | rfl | (simp only [nlit, nI_add, pk_mul]; done)⟩
set_option maxHeartbeats 4000000 in
set_option maxRecDepth 100000 in
theorem c_X8_label (Y : xD) (w : va_W) (o0 : Nat) (A : Nat → Nat) (th : Int32) (su : Int32) (sz : Nat) (bl : Int32) (ci : Nat) (ma : Nat) (pa : Int32) (en : Int32) (wr : Int32) (co : Nat → Int32) (i1 : Nat → Int32) (g1 : Nat → Int32) (j : Nat) (c : Nat) (n : Nat) (g : Nat) (fd : Nat → Nat) (fz : Nat → Nat) (i : Nat) (v : Nat) (x : Nat) (qm q_circuitOf q_inputs q_gates q_delta q_zero : Nat) (e0 : w[qm]? = some (o0, cO 8 (mo A th su (nI sz) bl (nI ci) (nI ma) pa en wr))) (e1 : w[q_circuitOf]? = some (A 15, cI Y 6 co)) (e2 : w[q_inputs]? = some (A 6, cI Y 6 i1)) (e3 : w[q_gates]? = some (A 7, cI Y 6 g1)) (e4 : w[q_delta]? = some (A 20, cI Y 96 (iF fd))) (e5 : w[q_zero]? = some (A 21, cI Y 5376 (iF fz))) (N : xN w.length [qm, q_circuitOf, q_inputs, q_gates, q_delta, q_zero]) (hj : j < ma) (h6 : ma ≤ 6) (hc6 : c < 6) (hn16 : n ≤ 16) (hn1 : 1 ≤ n) (hg40 : g ≤ 40) (hco : co j = nI c) (hin : i1 c = nI n) (hga : g1 c = nI g) (hi : i < 16) (hv : v < n + g) (hx1 : x ≤ 1) : Cf Y mX8_label 2 [.ref o0, .int (nI j), .int (nI v), .int (nI x), .int (nI i)] w (some (.int (nI (chG fz fd j v x i)))) [(qm, (o0, cO 8 (mo A (nI 0) su (nI sz) bl (nI ci) (nI ma) pa en wr))), (q_circuitOf, (A 15, cI Y 6 co)), (q_inputs, (A 6, cI Y 6 i1)), (q_gates, (A 7, cI Y 6 g1)), (q_delta, (A 20, cI Y 96 (iF fd))), (q_zero, (A 21, cI Y 5376 (iF fz)))] := by
  refine Ct.intro (T := tX8_label) (by decide) oX8_label (Nat.le_of_ble_eq_true rfl) (fun G C B => ?_)
  refine x_lay [(qm, (o0, cO 8 (mo A th su (nI sz) bl (nI ci) (nI ma) pa en wr))), (q_circuitOf, (A 15, cI Y 6 co)), (q_inputs, (A 6, cI Y 6 i1)), (q_gates, (A 7, cI Y 6 g1)), (q_delta, (A 20, cI Y 96 (iF fd))), (q_zero, (A 21, cI Y 5376 (iF fz)))] (lay_cons e0 (lay_cons e1 (lay_cons e2 (lay_cons e3 (lay_cons e4 (lay_cons e5 lay_nil)))))) ?_
  refine x_run C 0 2 (pc' := 2) (lv' := [(0, .ref o0), (1, .int (nI j)), (2, .int (nI v)), (3, .int (nI x)), (4, .int (nI i))]) (st' := [.int 0, .ref o0]) rfl ?_
  refine x_put C 2 rfl pX8_117 N 0 rfl rfl rfl (Nat.le_of_ble_eq_true rfl) (os' := [(qm, (o0, cO 8 (mo A (nI 0) su (nI sz) bl (nI ci) (nI ma) pa en wr))), (q_circuitOf, (A 15, cI Y 6 co)), (q_inputs, (A 6, cI Y 6 i1)), (q_gates, (A 7, cI Y 6 g1)), (q_delta, (A 20, cI Y 96 (iF fd))), (q_zero, (A 21, cI Y 5376 (iF fz)))]) rfl ?_
  refine x_run C 3 2 (pc' := 7) (lv' := [(0, .ref o0), (1, .int (nI j)), (2, .int (nI v)), (3, .int (nI x)), (4, .int (nI i))]) (st' := [.int (nI j), .ref o0]) rfl ?_
  refine x_cv C 5 (As := [.int (nI j)]) (rest := []) rfl vX8_230 N 0 rfl rfl (c_X8_isGarbled Y _ o0 A (nI 0) su sz bl ci ma pa en wr j qm (ovl_at 0 N rfl) (N.ov [0] (by decide) rfl) (by first | assumption | omega) (by first | assumption | omega)) rfl rfl (Nat.le_of_ble_eq_true rfl) ⟨Nat.le_of_ble_eq_true rfl, Nat.le_of_ble_eq_true rfl⟩ ⟨Nat.zero_le _, Nat.zero_le _⟩ [0] ⟨rfl, trivial⟩ (os' := [(qm, (o0, cO 8 (mo A (nI 0) su (nI sz) bl (nI ci) (nI ma) pa en wr))), (q_circuitOf, (A 15, cI Y 6 co)), (q_inputs, (A 6, cI Y 6 i1)), (q_gates, (A 7, cI Y 6 g1)), (q_delta, (A 20, cI Y 96 (iF fd))), (q_zero, (A 21, cI Y 5376 (iF fz)))]) rfl (st' := [.int 1]) rfl ?_
  refine x_st (st' := [.int (nI 1)]) (by simp only [nlit, nI_add, pk_mul]) ?_
  refine x_ifN_eq C 6 (by omega) rfl (tgt := 57) rfl (fun hc1 => absurd hc1 (by omega)) (fun hc1 => ?_)
  refine x_run C 7 3 (pc' := 18) (lv' := [(0, .ref o0), (1, .int (nI j)), (2, .int (nI v)), (3, .int (nI x)), (4, .int (nI i))]) (st' := [.int 15, .int 0, .int (nI i)]) rfl ?_
  refine x_st (st' := [.int (nI 15), .int (nI 0), .int (nI i)]) (by simp only [nlit, nI_add, pk_mul]) ?_
  refine x_cs C 10 (As := [.int (nI i), .int (nI 0), .int (nI 15)]) (rest := []) rfl vX8_135 N (c_X8_in Y _ i 0 15    (by first | assumption | omega) (by first | assumption | omega) (by first | assumption | omega)) rfl rfl (Nat.le_of_ble_eq_true rfl) ⟨Nat.le_of_ble_eq_true rfl, Nat.le_of_ble_eq_true rfl⟩ ⟨Nat.zero_le _, Nat.zero_le _⟩ [] trivial (os' := [(qm, (o0, cO 8 (mo A (nI 0) su (nI sz) bl (nI ci) (nI ma) pa en wr))), (q_circuitOf, (A 15, cI Y 6 co)), (q_inputs, (A 6, cI Y 6 i1)), (q_gates, (A 7, cI Y 6 g1)), (q_delta, (A 20, cI Y 96 (iF fd))), (q_zero, (A 21, cI Y 5376 (iF fz)))]) rfl (st' := [.int 1]) rfl ?_
  refine x_st (st' := [.int (nI 1)]) (by simp only [nlit, nI_add, pk_mul]) ?_
  refine x_ifN_eq C 11 (by omega) rfl (tgt := 57) rfl (fun hc2 => absurd hc2 (by omega)) (fun hc2 => ?_)
  refine x_run C 12 4 (pc' := 28) (lv' := [(0, .ref o0), (1, .int (nI j)), (2, .int (nI v)), (3, .int (nI x)), (4, .int (nI i))]) (st' := [.ref o0, .ref o0, .int (-1), .int (nI v)]) rfl ?_
  refine x_get C 16 rfl fX8_55 N 0 rfl (v := .ref (A 15)) rfl ?_
  refine x_run C 17 1 (pc' := 32) (lv' := [(0, .ref o0), (1, .int (nI j)), (2, .int (nI v)), (3, .int (nI x)), (4, .int (nI i))]) (st' := [.int (nI j), .ref (A 15), .ref o0, .int (-1), .int (nI v)]) rfl ?_
  refine x_ialdN C 18 rfl N 1 rfl (by omega) (by omega) ?_
  refine x_st (st' := [.int (nI c), .ref o0, .int (-1), .int (nI v)]) (by rw [hco]) ?_
  refine x_cv C 19 (As := [.int (nI c)]) (rest := [.int (-1), .int (nI v)]) rfl vX8_199 N 0 rfl rfl (c_X8_wiresOf Y _ o0 A (nI 0) su sz bl ci ma pa en wr i1 g1 c n g qm q_inputs q_gates (ovl_at 0 N rfl) (ovl_at 2 N rfl) (ovl_at 3 N rfl) (N.ov [0, 2, 3] (by decide) rfl) (by first | assumption | omega) (by first | assumption | omega) (by first | assumption | omega)) rfl rfl (Nat.le_of_ble_eq_true rfl) ⟨Nat.le_of_ble_eq_true rfl, Nat.le_of_ble_eq_true rfl⟩ ⟨Nat.zero_le _, Nat.zero_le _⟩ [0, 2, 3] ⟨rfl, rfl, rfl, trivial⟩ (os' := [(qm, (o0, cO 8 (mo A (nI 0) su (nI sz) bl (nI ci) (nI ma) pa en wr))), (q_circuitOf, (A 15, cI Y 6 co)), (q_inputs, (A 6, cI Y 6 i1)), (q_gates, (A 7, cI Y 6 g1)), (q_delta, (A 20, cI Y 96 (iF fd))), (q_zero, (A 21, cI Y 5376 (iF fz)))]) rfl (st' := [.int (nI (n + g)), .int (-1), .int (nI v)]) rfl ?_
  refine x_run C 20 2 (pc' := 38) (lv' := [(0, .ref o0), (1, .int (nI j)), (2, .int (nI v)), (3, .int (nI x)), (4, .int (nI i))]) (st' := [.int ((nI (n + g)) - 1), .int (-1), .int (nI v)]) rfl ?_
  refine x_st (st' := [.int (nI ((n + g) - 1)), .int (-1), .int (nI v)]) (by simp only [nlit, nI_add, pk_mul, pk_sub (show 1 ≤ (n + g) by omega)]) ?_
  refine x_cs C 22 (As := [.int (nI v), .int (-1), .int (nI ((n + g) - 1))]) (rest := []) rfl vX8_135 N (c_X8_inT Y _ (nI v) (-1) (nI ((n + g) - 1))    (not_nI_lt (by omega)) (not_lt_nI (by omega) (by omega))) rfl rfl (Nat.le_of_ble_eq_true rfl) ⟨Nat.le_of_ble_eq_true rfl, Nat.le_of_ble_eq_true rfl⟩ ⟨Nat.zero_le _, Nat.zero_le _⟩ [] trivial (os' := [(qm, (o0, cO 8 (mo A (nI 0) su (nI sz) bl (nI ci) (nI ma) pa en wr))), (q_circuitOf, (A 15, cI Y 6 co)), (q_inputs, (A 6, cI Y 6 i1)), (q_gates, (A 7, cI Y 6 g1)), (q_delta, (A 20, cI Y 96 (iF fd))), (q_zero, (A 21, cI Y 5376 (iF fz)))]) rfl (st' := [.int 1]) rfl ?_
  refine x_st (st' := [.int (nI 1)]) (by simp only [nlit, nI_add, pk_mul]) ?_
  refine x_ifN_eq C 23 (by omega) rfl (tgt := 57) rfl (fun hc3 => absurd hc3 (by omega)) (fun hc3 => ?_)
  refine x_run C 24 1 (pc' := 45) (lv' := [(0, .ref o0), (1, .int (nI j)), (2, .int (nI v)), (3, .int (nI x)), (4, .int (nI i))]) (st' := [.int (nI v)]) rfl ?_
  refine x_if_lt C 25 rfl (tgt := 59) rfl (fun hc4 => absurd hc4 (nI_pos (by omega))) (fun hc4 => ?_)
  refine x_run C 26 3 (pc' := 51) (lv' := [(0, .ref o0), (1, .int (nI j)), (2, .int (nI v)), (3, .int (nI x)), (4, .int (nI i))]) (st' := [.int 1, .int 0, .int (nI x)]) rfl ?_
  refine x_st (st' := [.int (nI 1), .int (nI 0), .int (nI x)]) (by simp only [nlit, nI_add, pk_mul]) ?_
  refine x_cs C 29 (As := [.int (nI x), .int (nI 0), .int (nI 1)]) (rest := []) rfl vX8_135 N (c_X8_in Y _ x 0 1    (by first | assumption | omega) (by first | assumption | omega) (by first | assumption | omega)) rfl rfl (Nat.le_of_ble_eq_true rfl) ⟨Nat.le_of_ble_eq_true rfl, Nat.le_of_ble_eq_true rfl⟩ ⟨Nat.zero_le _, Nat.zero_le _⟩ [] trivial (os' := [(qm, (o0, cO 8 (mo A (nI 0) su (nI sz) bl (nI ci) (nI ma) pa en wr))), (q_circuitOf, (A 15, cI Y 6 co)), (q_inputs, (A 6, cI Y 6 i1)), (q_gates, (A 7, cI Y 6 g1)), (q_delta, (A 20, cI Y 96 (iF fd))), (q_zero, (A 21, cI Y 5376 (iF fz)))]) rfl (st' := [.int 1]) rfl ?_
  refine x_st (st' := [.int (nI 1)]) (by simp only [nlit, nI_add, pk_mul]) ?_
  refine x_ifN_ne C 30 (by omega) rfl (tgt := 59) rfl (fun hc5 => ?_) (fun hc5 => absurd hc5 (by omega))
  refine x_run C 33 1 (pc' := 60) (lv' := [(0, .ref o0), (1, .int (nI j)), (2, .int (nI v)), (3, .int (nI x)), (4, .int (nI i))]) (st' := [.ref o0]) rfl ?_
  refine x_get C 34 rfl fX8_70 N 0 rfl (v := .ref (A 20)) rfl ?_
  refine x_run C 35 5 (pc' := 70) (lv' := [(0, .ref o0), (1, .int (nI j)), (2, .int (nI v)), (3, .int (nI x)), (4, .int (nI i))]) (st' := [.int ((16 * (nI j)) + (nI i)), .ref (A 20)]) rfl ?_
  refine x_st (st' := [.int (nI ((16 * j) + i)), .ref (A 20)]) (by simp only [nlit, nI_add, pk_mul]) ?_
  refine x_ialdN C 40 rfl N 4 rfl (by omega) (by omega) ?_
  refine x_st (st' := [.int (nI (fd ((16 * j) + i)))]) rfl ?_
  refine x_run C 41 2 (pc' := 74) (lv' := [(5, .int (nI (fd ((16 * j) + i)))), (0, .ref o0), (1, .int (nI j)), (2, .int (nI v)), (3, .int (nI x)), (4, .int (nI i))]) (st' := [.int (nI v)]) rfl ?_
  refine x_if_ge C 43 rfl (tgt := 82) rfl (fun hc6 => ?_) (fun hc6 => absurd (nI_pos' (by omega)) hc6)
  refine x_run C 46 1 (pc' := 83) (lv' := [(5, .int (nI (fd ((16 * j) + i)))), (0, .ref o0), (1, .int (nI j)), (2, .int (nI v)), (3, .int (nI x)), (4, .int (nI i))]) (st' := [.ref o0]) rfl ?_
  refine x_get C 47 rfl fX8_73 N 0 rfl (v := .ref (A 21)) rfl ?_
  refine x_run C 48 2 (pc' := 88) (lv' := [(5, .int (nI (fd ((16 * j) + i)))), (0, .ref o0), (1, .int (nI j)), (2, .int (nI v)), (3, .int (nI x)), (4, .int (nI i))]) (st' := [.int (nI v), .int (nI j), .ref (A 21)]) rfl ?_
  refine x_cs C 50 (As := [.int (nI j), .int (nI v)]) (rest := [.ref (A 21)]) rfl vX8_210 N (c_X8_placeOf Y _ j v    ) rfl rfl (Nat.le_of_ble_eq_true rfl) ⟨Nat.le_of_ble_eq_true rfl, Nat.le_of_ble_eq_true rfl⟩ ⟨Nat.zero_le _, Nat.zero_le _⟩ [] trivial (os' := [(qm, (o0, cO 8 (mo A (nI 0) su (nI sz) bl (nI ci) (nI ma) pa en wr))), (q_circuitOf, (A 15, cI Y 6 co)), (q_inputs, (A 6, cI Y 6 i1)), (q_gates, (A 7, cI Y 6 g1)), (q_delta, (A 20, cI Y 96 (iF fd))), (q_zero, (A 21, cI Y 5376 (iF fz)))]) rfl (st' := [.int (nI (16 * (56 * j + v))), .ref (A 21)]) rfl ?_
  refine x_run C 51 2 (pc' := 94) (lv' := [(5, .int (nI (fd ((16 * j) + i)))), (0, .ref o0), (1, .int (nI j)), (2, .int (nI v)), (3, .int (nI x)), (4, .int (nI i))]) (st' := [.int ((nI (16 * (56 * j + v))) + (nI i)), .ref (A 21)]) rfl ?_
  refine x_st (st' := [.int (nI ((16 * (56 * j + v)) + i)), .ref (A 21)]) (by simp only [nlit, nI_add, pk_mul]) ?_
  refine x_ialdN C 53 rfl N 5 rfl (by omega) (by omega) ?_
  refine x_st (st' := [.int (nI (fz ((16 * (56 * j + v)) + i)))]) rfl ?_
  refine x_run C 54 2 (pc' := 97) (lv' := [(5, .int (nI (fd ((16 * j) + i)))), (0, .ref o0), (1, .int (nI j)), (2, .int (nI v)), (3, .int (nI x)), (4, .int (nI i))]) (st' := [.int 1, .int (nI x), .int (nI (fz ((16 * (56 * j + v)) + i)))]) rfl ?_
  refine x_st (st' := [.int (nI 1), .int (nI x), .int (nI (fz ((16 * (56 * j + v)) + i)))]) (by simp only [nlit, nI_add, pk_mul]) ?_
  refine x_icmpN_ne C 56 (by omega) (by omega) rfl (tgt := 105) rfl (fun hc7 => ?_) (fun hc7 => ?_)
  · refine x_run C 59 2 (pc' := 107) (lv' := [(5, .int (nI (fd ((16 * j) + i)))), (0, .ref o0), (1, .int (nI j)), (2, .int (nI v)), (3, .int (nI x)), (4, .int (nI i))]) (st' := [.int ((nI (fz ((16 * (56 * j + v)) + i))) ^^^ 0)]) rfl ?_
    exact x_iret C B rfl 61 rfl (Nat.zero_le _) (Nat.zero_le _) ⟨by simp only [nx_xor, chG, if_neg hc7, nlit], rfl⟩
  · refine x_run C 57 2 (pc' := 106) (lv' := [(5, .int (nI (fd ((16 * j) + i)))), (0, .ref o0), (1, .int (nI j)), (2, .int (nI v)), (3, .int (nI x)), (4, .int (nI i))]) (st' := [.int (nI (fd ((16 * j) + i))), .int (nI (fz ((16 * (56 * j + v)) + i)))]) rfl ?_
    refine x_run C 60 1 (pc' := 107) (lv' := [(5, .int (nI (fd ((16 * j) + i)))), (0, .ref o0), (1, .int (nI j)), (2, .int (nI v)), (3, .int (nI x)), (4, .int (nI i))]) (st' := [.int ((nI (fz ((16 * (56 * j + v)) + i))) ^^^ (nI (fd ((16 * j) + i))))]) rfl ?_
    exact x_iret C B rfl 61 rfl (Nat.zero_le _) (Nat.zero_le _) ⟨by simp only [nx_xor, chG, if_pos hc7, nlit], rfl⟩
