def btO (t : Int64) (w_ : Int32) : Int32 := (((jlushr t w_).toInt32) &&& 1)
set_option maxHeartbeats 4000000 in
set_option maxRecDepth 100000 in
theorem c_X1_bitOf (Y : xD) (w : va_W) (t : Int64) (w_ : Int32)     : Cf Y mX1_bitOf 0 [.long t, .int w_] w (some (.int (btO t w_))) [] := by
  refine Ct.intro (T := tX1_bitOf) (by decide) oX1_bitOf (Nat.le_of_ble_eq_true rfl) (fun G C B => ?_)
  have N : xN w.length (keys []) := xN_nil _
  refine x_lay [] lay_nil ?_
  refine x_run C 0 6 (pc' := 6) (lv' := [(0, .long t), (2, .int w_)]) (st' := [.int (((jlushr t w_).toInt32) &&& 1)]) rfl ?_
  exact x_iret C B rfl 6 rfl (Nat.zero_le _) (Nat.zero_le _) ⟨by first | rfl | (simp only [nlit, nI_add, pk_mul]; done), by first | rfl | (simp only [nlit, nI_add, pk_mul]; done)⟩
def tL (s : Int32) : Int32 := (if s = 124 then (1 : Int32) else (if s = 35 then (1 : Int32) else 0))
set_option maxHeartbeats 4000000 in
set_option maxRecDepth 100000 in
theorem c_X1_turnsLeft (Y : xD) (w : va_W) (s : Int32)     : Cf Y mX1_turnsLeft 0 [.int s] w (some (.int (tL s))) [] := by
  refine Ct.intro (T := tX1_turnsLeft) (by decide) oX1_turnsLeft (Nat.le_of_ble_eq_true rfl) (fun G C B => ?_)
  have N : xN w.length (keys []) := xN_nil _
  refine x_lay [] lay_nil ?_
  refine x_run C 0 2 (pc' := 3) (lv' := [(0, .int s)]) (st' := [.int 124, .int s]) rfl ?_
  have J3 : X G Y 0 0 17 [(0, .int s)] [.int (if s = 124 then (1 : Int32) else (if s = 35 then (1 : Int32) else 0))] (ovl w []) := by
    exact x_iret C B rfl 9 rfl (Nat.zero_le _) (Nat.zero_le _) ⟨by first | rfl | (simp only [nlit, nI_add, pk_mul]; done), by first | rfl | (simp only [nlit, nI_add, pk_mul]; done)⟩
  refine x_icmp_eq C 2 rfl (tgt := 12) rfl (fun hc1 => ?_) (fun hc1 => ?_)
  · refine x_run C 6 2 (pc' := 17) (lv' := [(0, .int s)]) (st' := [.int 1]) rfl ?_
    refine x_st (st' := [.int (if s = 124 then (1 : Int32) else (if s = 35 then (1 : Int32) else 0))]) (by rw [if_pos hc1]) ?_
    exact J3
  · refine x_run C 3 2 (pc' := 9) (lv' := [(0, .int s)]) (st' := [.int 35, .int s]) rfl ?_
    refine x_icmp_ne C 5 rfl (tgt := 16) rfl (fun hc2 => ?_) (fun hc2 => ?_)
    · refine x_run C 8 1 (pc' := 17) (lv' := [(0, .int s)]) (st' := [.int 0]) rfl ?_
      refine x_st (st' := [.int (if s = 124 then (1 : Int32) else (if s = 35 then (1 : Int32) else 0))]) (by rw [if_neg hc1, if_neg hc2]) ?_
      exact J3
    · refine x_run C 6 2 (pc' := 17) (lv' := [(0, .int s)]) (st' := [.int 1]) rfl ?_
      refine x_st (st' := [.int (if s = 124 then (1 : Int32) else (if s = 35 then (1 : Int32) else 0))]) (by rw [if_neg hc1, if_pos hc2]) ?_
      exact J3
def tR (s : Int32) : Int32 := (if s = 124 then (1 : Int32) else (if s = 35 then (1 : Int32) else (if s = 47 then (1 : Int32) else 0)))
set_option maxHeartbeats 4000000 in
set_option maxRecDepth 100000 in
theorem c_X1_turnsRight (Y : xD) (w : va_W) (s : Int32)     : Cf Y mX1_turnsRight 0 [.int s] w (some (.int (tR s))) [] := by
  refine Ct.intro (T := tX1_turnsRight) (by decide) oX1_turnsRight (Nat.le_of_ble_eq_true rfl) (fun G C B => ?_)
  have N : xN w.length (keys []) := xN_nil _
  refine x_lay [] lay_nil ?_
  refine x_run C 0 2 (pc' := 3) (lv' := [(0, .int s)]) (st' := [.int 124, .int s]) rfl ?_
  have J3 : X G Y 0 0 23 [(0, .int s)] [.int (if s = 124 then (1 : Int32) else (if s = 35 then (1 : Int32) else (if s = 47 then (1 : Int32) else 0)))] (ovl w []) := by
    exact x_iret C B rfl 12 rfl (Nat.zero_le _) (Nat.zero_le _) ⟨by first | rfl | (simp only [nlit, nI_add, pk_mul]; done), by first | rfl | (simp only [nlit, nI_add, pk_mul]; done)⟩
  refine x_icmp_eq C 2 rfl (tgt := 18) rfl (fun hc1 => ?_) (fun hc1 => ?_)
  · refine x_run C 9 2 (pc' := 23) (lv' := [(0, .int s)]) (st' := [.int 1]) rfl ?_
    refine x_st (st' := [.int (if s = 124 then (1 : Int32) else (if s = 35 then (1 : Int32) else (if s = 47 then (1 : Int32) else 0)))]) (by rw [if_pos hc1]) ?_
    exact J3
  · refine x_run C 3 2 (pc' := 9) (lv' := [(0, .int s)]) (st' := [.int 35, .int s]) rfl ?_
    refine x_icmp_eq C 5 rfl (tgt := 18) rfl (fun hc2 => ?_) (fun hc2 => ?_)
    · refine x_run C 9 2 (pc' := 23) (lv' := [(0, .int s)]) (st' := [.int 1]) rfl ?_
      refine x_st (st' := [.int (if s = 124 then (1 : Int32) else (if s = 35 then (1 : Int32) else (if s = 47 then (1 : Int32) else 0)))]) (by rw [if_neg hc1, if_pos hc2]) ?_
      exact J3
    · refine x_run C 6 2 (pc' := 15) (lv' := [(0, .int s)]) (st' := [.int 47, .int s]) rfl ?_
      refine x_icmp_ne C 8 rfl (tgt := 22) rfl (fun hc3 => ?_) (fun hc3 => ?_)
      · refine x_run C 11 1 (pc' := 23) (lv' := [(0, .int s)]) (st' := [.int 0]) rfl ?_
        refine x_st (st' := [.int (if s = 124 then (1 : Int32) else (if s = 35 then (1 : Int32) else (if s = 47 then (1 : Int32) else 0)))]) (by rw [if_neg hc1, if_neg hc2, if_neg hc3]) ?_
        exact J3
      · refine x_run C 9 2 (pc' := 23) (lv' := [(0, .int s)]) (st' := [.int 1]) rfl ?_
        refine x_st (st' := [.int (if s = 124 then (1 : Int32) else (if s = 35 then (1 : Int32) else (if s = 47 then (1 : Int32) else 0)))]) (by rw [if_neg hc1, if_neg hc2, if_pos hc3]) ?_
        exact J3
def tW (s : Int32) : Int32 := (if s = 124 then (1 : Int32) else (if s = 37 then (1 : Int32) else 0))
set_option maxHeartbeats 4000000 in
set_option maxRecDepth 100000 in
theorem c_X1_turnsWhatComes (Y : xD) (w : va_W) (s : Int32)     : Cf Y mX1_turnsWhatComes 0 [.int s] w (some (.int (tW s))) [] := by
  refine Ct.intro (T := tX1_turnsWhatComes) (by decide) oX1_turnsWhatComes (Nat.le_of_ble_eq_true rfl) (fun G C B => ?_)
  have N : xN w.length (keys []) := xN_nil _
  refine x_lay [] lay_nil ?_
  refine x_run C 0 2 (pc' := 3) (lv' := [(0, .int s)]) (st' := [.int 124, .int s]) rfl ?_
  have J3 : X G Y 0 0 17 [(0, .int s)] [.int (if s = 124 then (1 : Int32) else (if s = 37 then (1 : Int32) else 0))] (ovl w []) := by
    exact x_iret C B rfl 9 rfl (Nat.zero_le _) (Nat.zero_le _) ⟨by first | rfl | (simp only [nlit, nI_add, pk_mul]; done), by first | rfl | (simp only [nlit, nI_add, pk_mul]; done)⟩
  refine x_icmp_eq C 2 rfl (tgt := 12) rfl (fun hc1 => ?_) (fun hc1 => ?_)
  · refine x_run C 6 2 (pc' := 17) (lv' := [(0, .int s)]) (st' := [.int 1]) rfl ?_
    refine x_st (st' := [.int (if s = 124 then (1 : Int32) else (if s = 37 then (1 : Int32) else 0))]) (by rw [if_pos hc1]) ?_
    exact J3
  · refine x_run C 3 2 (pc' := 9) (lv' := [(0, .int s)]) (st' := [.int 37, .int s]) rfl ?_
    refine x_icmp_ne C 5 rfl (tgt := 16) rfl (fun hc2 => ?_) (fun hc2 => ?_)
    · refine x_run C 8 1 (pc' := 17) (lv' := [(0, .int s)]) (st' := [.int 0]) rfl ?_
      refine x_st (st' := [.int (if s = 124 then (1 : Int32) else (if s = 37 then (1 : Int32) else 0))]) (by rw [if_neg hc1, if_neg hc2]) ?_
      exact J3
    · refine x_run C 6 2 (pc' := 17) (lv' := [(0, .int s)]) (st' := [.int 1]) rfl ?_
      refine x_st (st' := [.int (if s = 124 then (1 : Int32) else (if s = 37 then (1 : Int32) else 0))]) (by rw [if_neg hc1, if_pos hc2]) ?_
      exact J3
def isS (s : Int32) : Int32 := if s = 33 then 1 else if s = 35 then 1 else if s = 37 then 1 else if s = 38 then 1 else if s = 47 then 1 else if s = 94 then 1 else if s = 124 then 1 else 0
def trO (s x y : Int32) : Int32 := if s = 35 then 1 - (x ||| y) else if s = 37 then 1 - (x &&& y) else if s = 38 then x &&& y else if s = 47 then x &&& (1 - y) else if s = 94 then x ^^^ y else if s = 124 then x ||| y else 1 - x
set_option maxHeartbeats 4000000 in
set_option maxRecDepth 100000 in
theorem c_X1_isSign (Y : xD) (w : va_W) (s : Int32)     : Cf Y mX1_isSign 0 [.int s] w (some (.int (isS s))) [] := by
  refine Ct.intro (T := tX1_isSign) (by decide) oX1_isSign (Nat.le_of_ble_eq_true rfl) (fun G C B => ?_)
  have N : xN w.length (keys []) := xN_nil _
  refine x_lay [] lay_nil ?_
  refine x_run C 0 1 (pc' := 1) (lv' := [(0, .int s)]) (st' := [.int s]) rfl ?_
  by_cases hs1 : s = 33
  · refine x_lsw C 1 rfl rfl (off := 67) (by rw [hs1]; rfl) (tgt := 68) rfl ?_
    refine x_run C 2 1 (pc' := 69) (lv' := [(0, .int s)]) (st' := [.int 1]) rfl ?_
    exact x_zret C B rfl 3 rfl (by first | exact Or.inl rfl | exact Or.inr rfl | decide) (Nat.zero_le _) (Nat.zero_le _) ⟨by first | contradiction | rfl | (simp only [isS, if_pos hs1]; done) | (simp only [isS, if_pos hs1]; rfl) | (simp only [isS, if_pos hs1]; simp only [nlit, nI_add, pk_mul]; done) | (simp only [isS, if_pos hs1, nlit, nI_add, pk_mul]; done) | contradiction | (simp only [isS, if_pos hs1, nlit, nI_add, pk_mul]; rfl), by first | contradiction | rfl | (simp only [isS, if_pos hs1]; done) | (simp only [isS, if_pos hs1]; rfl) | (simp only [isS, if_pos hs1]; simp only [nlit, nI_add, pk_mul]; done) | (simp only [isS, if_pos hs1, nlit, nI_add, pk_mul]; done) | contradiction | (simp only [isS, if_pos hs1, nlit, nI_add, pk_mul]; rfl)⟩
  by_cases hs2 : s = 35
  · refine x_lsw C 1 rfl rfl (off := 67) (by rw [hs2]; rfl) (tgt := 68) rfl ?_
    refine x_run C 2 1 (pc' := 69) (lv' := [(0, .int s)]) (st' := [.int 1]) rfl ?_
    exact x_zret C B rfl 3 rfl (by first | exact Or.inl rfl | exact Or.inr rfl | decide) (Nat.zero_le _) (Nat.zero_le _) ⟨by first | contradiction | rfl | (simp only [isS, if_neg hs1, if_pos hs2]; done) | (simp only [isS, if_neg hs1, if_pos hs2]; rfl) | (simp only [isS, if_neg hs1, if_pos hs2]; simp only [nlit, nI_add, pk_mul]; done) | (simp only [isS, if_neg hs1, if_pos hs2, nlit, nI_add, pk_mul]; done) | contradiction | (simp only [isS, if_neg hs1, if_pos hs2, nlit, nI_add, pk_mul]; rfl), by first | contradiction | rfl | (simp only [isS, if_neg hs1, if_pos hs2]; done) | (simp only [isS, if_neg hs1, if_pos hs2]; rfl) | (simp only [isS, if_neg hs1, if_pos hs2]; simp only [nlit, nI_add, pk_mul]; done) | (simp only [isS, if_neg hs1, if_pos hs2, nlit, nI_add, pk_mul]; done) | contradiction | (simp only [isS, if_neg hs1, if_pos hs2, nlit, nI_add, pk_mul]; rfl)⟩
  by_cases hs3 : s = 37
  · refine x_lsw C 1 rfl rfl (off := 67) (by rw [hs3]; rfl) (tgt := 68) rfl ?_
    refine x_run C 2 1 (pc' := 69) (lv' := [(0, .int s)]) (st' := [.int 1]) rfl ?_
    exact x_zret C B rfl 3 rfl (by first | exact Or.inl rfl | exact Or.inr rfl | decide) (Nat.zero_le _) (Nat.zero_le _) ⟨by first | contradiction | rfl | (simp only [isS, if_neg hs1, if_neg hs2, if_pos hs3]; done) | (simp only [isS, if_neg hs1, if_neg hs2, if_pos hs3]; rfl) | (simp only [isS, if_neg hs1, if_neg hs2, if_pos hs3]; simp only [nlit, nI_add, pk_mul]; done) | (simp only [isS, if_neg hs1, if_neg hs2, if_pos hs3, nlit, nI_add, pk_mul]; done) | contradiction | (simp only [isS, if_neg hs1, if_neg hs2, if_pos hs3, nlit, nI_add, pk_mul]; rfl), by first | contradiction | rfl | (simp only [isS, if_neg hs1, if_neg hs2, if_pos hs3]; done) | (simp only [isS, if_neg hs1, if_neg hs2, if_pos hs3]; rfl) | (simp only [isS, if_neg hs1, if_neg hs2, if_pos hs3]; simp only [nlit, nI_add, pk_mul]; done) | (simp only [isS, if_neg hs1, if_neg hs2, if_pos hs3, nlit, nI_add, pk_mul]; done) | contradiction | (simp only [isS, if_neg hs1, if_neg hs2, if_pos hs3, nlit, nI_add, pk_mul]; rfl)⟩
  by_cases hs4 : s = 38
  · refine x_lsw C 1 rfl rfl (off := 67) (by rw [hs4]; rfl) (tgt := 68) rfl ?_
    refine x_run C 2 1 (pc' := 69) (lv' := [(0, .int s)]) (st' := [.int 1]) rfl ?_
    exact x_zret C B rfl 3 rfl (by first | exact Or.inl rfl | exact Or.inr rfl | decide) (Nat.zero_le _) (Nat.zero_le _) ⟨by first | contradiction | rfl | (simp only [isS, if_neg hs1, if_neg hs2, if_neg hs3, if_pos hs4]; done) | (simp only [isS, if_neg hs1, if_neg hs2, if_neg hs3, if_pos hs4]; rfl) | (simp only [isS, if_neg hs1, if_neg hs2, if_neg hs3, if_pos hs4]; simp only [nlit, nI_add, pk_mul]; done) | (simp only [isS, if_neg hs1, if_neg hs2, if_neg hs3, if_pos hs4, nlit, nI_add, pk_mul]; done) | contradiction | (simp only [isS, if_neg hs1, if_neg hs2, if_neg hs3, if_pos hs4, nlit, nI_add, pk_mul]; rfl), by first | contradiction | rfl | (simp only [isS, if_neg hs1, if_neg hs2, if_neg hs3, if_pos hs4]; done) | (simp only [isS, if_neg hs1, if_neg hs2, if_neg hs3, if_pos hs4]; rfl) | (simp only [isS, if_neg hs1, if_neg hs2, if_neg hs3, if_pos hs4]; simp only [nlit, nI_add, pk_mul]; done) | (simp only [isS, if_neg hs1, if_neg hs2, if_neg hs3, if_pos hs4, nlit, nI_add, pk_mul]; done) | contradiction | (simp only [isS, if_neg hs1, if_neg hs2, if_neg hs3, if_pos hs4, nlit, nI_add, pk_mul]; rfl)⟩
  by_cases hs5 : s = 47
  · refine x_lsw C 1 rfl rfl (off := 67) (by rw [hs5]; rfl) (tgt := 68) rfl ?_
    refine x_run C 2 1 (pc' := 69) (lv' := [(0, .int s)]) (st' := [.int 1]) rfl ?_
    exact x_zret C B rfl 3 rfl (by first | exact Or.inl rfl | exact Or.inr rfl | decide) (Nat.zero_le _) (Nat.zero_le _) ⟨by first | contradiction | rfl | (simp only [isS, if_neg hs1, if_neg hs2, if_neg hs3, if_neg hs4, if_pos hs5]; done) | (simp only [isS, if_neg hs1, if_neg hs2, if_neg hs3, if_neg hs4, if_pos hs5]; rfl) | (simp only [isS, if_neg hs1, if_neg hs2, if_neg hs3, if_neg hs4, if_pos hs5]; simp only [nlit, nI_add, pk_mul]; done) | (simp only [isS, if_neg hs1, if_neg hs2, if_neg hs3, if_neg hs4, if_pos hs5, nlit, nI_add, pk_mul]; done) | contradiction | (simp only [isS, if_neg hs1, if_neg hs2, if_neg hs3, if_neg hs4, if_pos hs5, nlit, nI_add, pk_mul]; rfl), by first | contradiction | rfl | (simp only [isS, if_neg hs1, if_neg hs2, if_neg hs3, if_neg hs4, if_pos hs5]; done) | (simp only [isS, if_neg hs1, if_neg hs2, if_neg hs3, if_neg hs4, if_pos hs5]; rfl) | (simp only [isS, if_neg hs1, if_neg hs2, if_neg hs3, if_neg hs4, if_pos hs5]; simp only [nlit, nI_add, pk_mul]; done) | (simp only [isS, if_neg hs1, if_neg hs2, if_neg hs3, if_neg hs4, if_pos hs5, nlit, nI_add, pk_mul]; done) | contradiction | (simp only [isS, if_neg hs1, if_neg hs2, if_neg hs3, if_neg hs4, if_pos hs5, nlit, nI_add, pk_mul]; rfl)⟩
  by_cases hs6 : s = 94
  · refine x_lsw C 1 rfl rfl (off := 67) (by rw [hs6]; rfl) (tgt := 68) rfl ?_
    refine x_run C 2 1 (pc' := 69) (lv' := [(0, .int s)]) (st' := [.int 1]) rfl ?_
    exact x_zret C B rfl 3 rfl (by first | exact Or.inl rfl | exact Or.inr rfl | decide) (Nat.zero_le _) (Nat.zero_le _) ⟨by first | contradiction | rfl | (simp only [isS, if_neg hs1, if_neg hs2, if_neg hs3, if_neg hs4, if_neg hs5, if_pos hs6]; done) | (simp only [isS, if_neg hs1, if_neg hs2, if_neg hs3, if_neg hs4, if_neg hs5, if_pos hs6]; rfl) | (simp only [isS, if_neg hs1, if_neg hs2, if_neg hs3, if_neg hs4, if_neg hs5, if_pos hs6]; simp only [nlit, nI_add, pk_mul]; done) | (simp only [isS, if_neg hs1, if_neg hs2, if_neg hs3, if_neg hs4, if_neg hs5, if_pos hs6, nlit, nI_add, pk_mul]; done) | contradiction | (simp only [isS, if_neg hs1, if_neg hs2, if_neg hs3, if_neg hs4, if_neg hs5, if_pos hs6, nlit, nI_add, pk_mul]; rfl), by first | contradiction | rfl | (simp only [isS, if_neg hs1, if_neg hs2, if_neg hs3, if_neg hs4, if_neg hs5, if_pos hs6]; done) | (simp only [isS, if_neg hs1, if_neg hs2, if_neg hs3, if_neg hs4, if_neg hs5, if_pos hs6]; rfl) | (simp only [isS, if_neg hs1, if_neg hs2, if_neg hs3, if_neg hs4, if_neg hs5, if_pos hs6]; simp only [nlit, nI_add, pk_mul]; done) | (simp only [isS, if_neg hs1, if_neg hs2, if_neg hs3, if_neg hs4, if_neg hs5, if_pos hs6, nlit, nI_add, pk_mul]; done) | contradiction | (simp only [isS, if_neg hs1, if_neg hs2, if_neg hs3, if_neg hs4, if_neg hs5, if_pos hs6, nlit, nI_add, pk_mul]; rfl)⟩
  by_cases hs7 : s = 124
  · refine x_lsw C 1 rfl rfl (off := 67) (by rw [hs7]; rfl) (tgt := 68) rfl ?_
    refine x_run C 2 1 (pc' := 69) (lv' := [(0, .int s)]) (st' := [.int 1]) rfl ?_
    exact x_zret C B rfl 3 rfl (by first | exact Or.inl rfl | exact Or.inr rfl | decide) (Nat.zero_le _) (Nat.zero_le _) ⟨by first | contradiction | rfl | (simp only [isS, if_neg hs1, if_neg hs2, if_neg hs3, if_neg hs4, if_neg hs5, if_neg hs6, if_pos hs7]; done) | (simp only [isS, if_neg hs1, if_neg hs2, if_neg hs3, if_neg hs4, if_neg hs5, if_neg hs6, if_pos hs7]; rfl) | (simp only [isS, if_neg hs1, if_neg hs2, if_neg hs3, if_neg hs4, if_neg hs5, if_neg hs6, if_pos hs7]; simp only [nlit, nI_add, pk_mul]; done) | (simp only [isS, if_neg hs1, if_neg hs2, if_neg hs3, if_neg hs4, if_neg hs5, if_neg hs6, if_pos hs7, nlit, nI_add, pk_mul]; done) | contradiction | (simp only [isS, if_neg hs1, if_neg hs2, if_neg hs3, if_neg hs4, if_neg hs5, if_neg hs6, if_pos hs7, nlit, nI_add, pk_mul]; rfl), by first | contradiction | rfl | (simp only [isS, if_neg hs1, if_neg hs2, if_neg hs3, if_neg hs4, if_neg hs5, if_neg hs6, if_pos hs7]; done) | (simp only [isS, if_neg hs1, if_neg hs2, if_neg hs3, if_neg hs4, if_neg hs5, if_neg hs6, if_pos hs7]; rfl) | (simp only [isS, if_neg hs1, if_neg hs2, if_neg hs3, if_neg hs4, if_neg hs5, if_neg hs6, if_pos hs7]; simp only [nlit, nI_add, pk_mul]; done) | (simp only [isS, if_neg hs1, if_neg hs2, if_neg hs3, if_neg hs4, if_neg hs5, if_neg hs6, if_pos hs7, nlit, nI_add, pk_mul]; done) | contradiction | (simp only [isS, if_neg hs1, if_neg hs2, if_neg hs3, if_neg hs4, if_neg hs5, if_neg hs6, if_pos hs7, nlit, nI_add, pk_mul]; rfl)⟩
  refine x_lsw C 1 rfl rfl (off := 69) (by show Op.lookupswitch.offset [(33, 67), (35, 67), (37, 67), (38, 67), (47, 67), (94, 67), (124, 67)] 69 _ = _; rw [lv_osw hs1 (a := 33) rfl, lv_osw hs2 (a := 35) rfl, lv_osw hs3 (a := 37) rfl, lv_osw hs4 (a := 38) rfl, lv_osw hs5 (a := 47) rfl, lv_osw hs6 (a := 94) rfl, lv_osw hs7 (a := 124) rfl]; rfl) (tgt := 70) rfl ?_
  refine x_run C 4 1 (pc' := 71) (lv' := [(0, .int s)]) (st' := [.int 0]) rfl ?_
  exact x_zret C B rfl 5 rfl (by first | exact Or.inl rfl | exact Or.inr rfl | decide) (Nat.zero_le _) (Nat.zero_le _) ⟨by first | contradiction | rfl | (simp only [isS, if_neg hs1, if_neg hs2, if_neg hs3, if_neg hs4, if_neg hs5, if_neg hs6, if_neg hs7]; done) | (simp only [isS, if_neg hs1, if_neg hs2, if_neg hs3, if_neg hs4, if_neg hs5, if_neg hs6, if_neg hs7]; rfl) | (simp only [isS, if_neg hs1, if_neg hs2, if_neg hs3, if_neg hs4, if_neg hs5, if_neg hs6, if_neg hs7]; simp only [nlit, nI_add, pk_mul]; done) | (simp only [isS, if_neg hs1, if_neg hs2, if_neg hs3, if_neg hs4, if_neg hs5, if_neg hs6, if_neg hs7, nlit, nI_add, pk_mul]; done) | contradiction | (simp only [isS, if_neg hs1, if_neg hs2, if_neg hs3, if_neg hs4, if_neg hs5, if_neg hs6, if_neg hs7, nlit, nI_add, pk_mul]; rfl), by first | contradiction | rfl | (simp only [isS, if_neg hs1, if_neg hs2, if_neg hs3, if_neg hs4, if_neg hs5, if_neg hs6, if_neg hs7]; done) | (simp only [isS, if_neg hs1, if_neg hs2, if_neg hs3, if_neg hs4, if_neg hs5, if_neg hs6, if_neg hs7]; rfl) | (simp only [isS, if_neg hs1, if_neg hs2, if_neg hs3, if_neg hs4, if_neg hs5, if_neg hs6, if_neg hs7]; simp only [nlit, nI_add, pk_mul]; done) | (simp only [isS, if_neg hs1, if_neg hs2, if_neg hs3, if_neg hs4, if_neg hs5, if_neg hs6, if_neg hs7, nlit, nI_add, pk_mul]; done) | contradiction | (simp only [isS, if_neg hs1, if_neg hs2, if_neg hs3, if_neg hs4, if_neg hs5, if_neg hs6, if_neg hs7, nlit, nI_add, pk_mul]; rfl)⟩
set_option maxHeartbeats 4000000 in
set_option maxRecDepth 100000 in
theorem c_X1_truthOf (Y : xD) (w : va_W) (s : Int32) (x : Int32) (y : Int32)     : Cf Y mX1_truthOf 0 [.int s, .int x, .int y] w (some (.int (trO s x y))) [] := by
  refine Ct.intro (T := tX1_truthOf) (by decide) oX1_truthOf (Nat.le_of_ble_eq_true rfl) (fun G C B => ?_)
  have N : xN w.length (keys []) := xN_nil _
  refine x_lay [] lay_nil ?_
  refine x_run C 0 1 (pc' := 1) (lv' := [(0, .int s), (1, .int x), (2, .int y)]) (st' := [.int s]) rfl ?_
  by_cases hs1 : s = 35
  · refine x_lsw C 1 rfl rfl (off := 79) (by rw [hs1]; rfl) (tgt := 80) rfl ?_
    refine x_run C 22 5 (pc' := 85) (lv' := [(0, .int s), (1, .int x), (2, .int y)]) (st' := [.int (1 - (x ||| y))]) rfl ?_
    exact x_iret C B rfl 27 rfl (Nat.zero_le _) (Nat.zero_le _) ⟨by first | contradiction | rfl | (simp only [trO, if_pos hs1]; done) | (simp only [trO, if_pos hs1]; rfl) | (simp only [trO, if_pos hs1]; simp only [nlit, nI_add, pk_mul]; done) | (simp only [trO, if_pos hs1, nlit, nI_add, pk_mul]; done) | contradiction | (simp only [trO, if_pos hs1, nlit, nI_add, pk_mul]; rfl), by first | contradiction | rfl | (simp only [trO, if_pos hs1]; done) | (simp only [trO, if_pos hs1]; rfl) | (simp only [trO, if_pos hs1]; simp only [nlit, nI_add, pk_mul]; done) | (simp only [trO, if_pos hs1, nlit, nI_add, pk_mul]; done) | contradiction | (simp only [trO, if_pos hs1, nlit, nI_add, pk_mul]; rfl)⟩
  by_cases hs2 : s = 37
  · refine x_lsw C 1 rfl rfl (off := 73) (by rw [hs2]; rfl) (tgt := 74) rfl ?_
    refine x_run C 16 5 (pc' := 79) (lv' := [(0, .int s), (1, .int x), (2, .int y)]) (st' := [.int (1 - (x &&& y))]) rfl ?_
    exact x_iret C B rfl 21 rfl (Nat.zero_le _) (Nat.zero_le _) ⟨by first | contradiction | rfl | (simp only [trO, if_neg hs1, if_pos hs2]; done) | (simp only [trO, if_neg hs1, if_pos hs2]; rfl) | (simp only [trO, if_neg hs1, if_pos hs2]; simp only [nlit, nI_add, pk_mul]; done) | (simp only [trO, if_neg hs1, if_pos hs2, nlit, nI_add, pk_mul]; done) | contradiction | (simp only [trO, if_neg hs1, if_pos hs2, nlit, nI_add, pk_mul]; rfl), by first | contradiction | rfl | (simp only [trO, if_neg hs1, if_pos hs2]; done) | (simp only [trO, if_neg hs1, if_pos hs2]; rfl) | (simp only [trO, if_neg hs1, if_pos hs2]; simp only [nlit, nI_add, pk_mul]; done) | (simp only [trO, if_neg hs1, if_pos hs2, nlit, nI_add, pk_mul]; done) | contradiction | (simp only [trO, if_neg hs1, if_pos hs2, nlit, nI_add, pk_mul]; rfl)⟩
  by_cases hs3 : s = 38
  · refine x_lsw C 1 rfl rfl (off := 59) (by rw [hs3]; rfl) (tgt := 60) rfl ?_
    refine x_run C 2 3 (pc' := 63) (lv' := [(0, .int s), (1, .int x), (2, .int y)]) (st' := [.int (x &&& y)]) rfl ?_
    exact x_iret C B rfl 5 rfl (Nat.zero_le _) (Nat.zero_le _) ⟨by first | contradiction | rfl | (simp only [trO, if_neg hs1, if_neg hs2, if_pos hs3]; done) | (simp only [trO, if_neg hs1, if_neg hs2, if_pos hs3]; rfl) | (simp only [trO, if_neg hs1, if_neg hs2, if_pos hs3]; simp only [nlit, nI_add, pk_mul]; done) | (simp only [trO, if_neg hs1, if_neg hs2, if_pos hs3, nlit, nI_add, pk_mul]; done) | contradiction | (simp only [trO, if_neg hs1, if_neg hs2, if_pos hs3, nlit, nI_add, pk_mul]; rfl), by first | contradiction | rfl | (simp only [trO, if_neg hs1, if_neg hs2, if_pos hs3]; done) | (simp only [trO, if_neg hs1, if_neg hs2, if_pos hs3]; rfl) | (simp only [trO, if_neg hs1, if_neg hs2, if_pos hs3]; simp only [nlit, nI_add, pk_mul]; done) | (simp only [trO, if_neg hs1, if_neg hs2, if_pos hs3, nlit, nI_add, pk_mul]; done) | contradiction | (simp only [trO, if_neg hs1, if_neg hs2, if_pos hs3, nlit, nI_add, pk_mul]; rfl)⟩
  by_cases hs4 : s = 47
  · refine x_lsw C 1 rfl rfl (off := 67) (by rw [hs4]; rfl) (tgt := 68) rfl ?_
    refine x_run C 10 5 (pc' := 73) (lv' := [(0, .int s), (1, .int x), (2, .int y)]) (st' := [.int (x &&& (1 - y))]) rfl ?_
    exact x_iret C B rfl 15 rfl (Nat.zero_le _) (Nat.zero_le _) ⟨by first | contradiction | rfl | (simp only [trO, if_neg hs1, if_neg hs2, if_neg hs3, if_pos hs4]; done) | (simp only [trO, if_neg hs1, if_neg hs2, if_neg hs3, if_pos hs4]; rfl) | (simp only [trO, if_neg hs1, if_neg hs2, if_neg hs3, if_pos hs4]; simp only [nlit, nI_add, pk_mul]; done) | (simp only [trO, if_neg hs1, if_neg hs2, if_neg hs3, if_pos hs4, nlit, nI_add, pk_mul]; done) | contradiction | (simp only [trO, if_neg hs1, if_neg hs2, if_neg hs3, if_pos hs4, nlit, nI_add, pk_mul]; rfl), by first | contradiction | rfl | (simp only [trO, if_neg hs1, if_neg hs2, if_neg hs3, if_pos hs4]; done) | (simp only [trO, if_neg hs1, if_neg hs2, if_neg hs3, if_pos hs4]; rfl) | (simp only [trO, if_neg hs1, if_neg hs2, if_neg hs3, if_pos hs4]; simp only [nlit, nI_add, pk_mul]; done) | (simp only [trO, if_neg hs1, if_neg hs2, if_neg hs3, if_pos hs4, nlit, nI_add, pk_mul]; done) | contradiction | (simp only [trO, if_neg hs1, if_neg hs2, if_neg hs3, if_pos hs4, nlit, nI_add, pk_mul]; rfl)⟩
  by_cases hs5 : s = 94
  · refine x_lsw C 1 rfl rfl (off := 85) (by rw [hs5]; rfl) (tgt := 86) rfl ?_
    refine x_run C 28 3 (pc' := 89) (lv' := [(0, .int s), (1, .int x), (2, .int y)]) (st' := [.int (x ^^^ y)]) rfl ?_
    exact x_iret C B rfl 31 rfl (Nat.zero_le _) (Nat.zero_le _) ⟨by first | contradiction | rfl | (simp only [trO, if_neg hs1, if_neg hs2, if_neg hs3, if_neg hs4, if_pos hs5]; done) | (simp only [trO, if_neg hs1, if_neg hs2, if_neg hs3, if_neg hs4, if_pos hs5]; rfl) | (simp only [trO, if_neg hs1, if_neg hs2, if_neg hs3, if_neg hs4, if_pos hs5]; simp only [nlit, nI_add, pk_mul]; done) | (simp only [trO, if_neg hs1, if_neg hs2, if_neg hs3, if_neg hs4, if_pos hs5, nlit, nI_add, pk_mul]; done) | contradiction | (simp only [trO, if_neg hs1, if_neg hs2, if_neg hs3, if_neg hs4, if_pos hs5, nlit, nI_add, pk_mul]; rfl), by first | contradiction | rfl | (simp only [trO, if_neg hs1, if_neg hs2, if_neg hs3, if_neg hs4, if_pos hs5]; done) | (simp only [trO, if_neg hs1, if_neg hs2, if_neg hs3, if_neg hs4, if_pos hs5]; rfl) | (simp only [trO, if_neg hs1, if_neg hs2, if_neg hs3, if_neg hs4, if_pos hs5]; simp only [nlit, nI_add, pk_mul]; done) | (simp only [trO, if_neg hs1, if_neg hs2, if_neg hs3, if_neg hs4, if_pos hs5, nlit, nI_add, pk_mul]; done) | contradiction | (simp only [trO, if_neg hs1, if_neg hs2, if_neg hs3, if_neg hs4, if_pos hs5, nlit, nI_add, pk_mul]; rfl)⟩
  by_cases hs6 : s = 124
  · refine x_lsw C 1 rfl rfl (off := 63) (by rw [hs6]; rfl) (tgt := 64) rfl ?_
    refine x_run C 6 3 (pc' := 67) (lv' := [(0, .int s), (1, .int x), (2, .int y)]) (st' := [.int (x ||| y)]) rfl ?_
    exact x_iret C B rfl 9 rfl (Nat.zero_le _) (Nat.zero_le _) ⟨by first | contradiction | rfl | (simp only [trO, if_neg hs1, if_neg hs2, if_neg hs3, if_neg hs4, if_neg hs5, if_pos hs6]; done) | (simp only [trO, if_neg hs1, if_neg hs2, if_neg hs3, if_neg hs4, if_neg hs5, if_pos hs6]; rfl) | (simp only [trO, if_neg hs1, if_neg hs2, if_neg hs3, if_neg hs4, if_neg hs5, if_pos hs6]; simp only [nlit, nI_add, pk_mul]; done) | (simp only [trO, if_neg hs1, if_neg hs2, if_neg hs3, if_neg hs4, if_neg hs5, if_pos hs6, nlit, nI_add, pk_mul]; done) | contradiction | (simp only [trO, if_neg hs1, if_neg hs2, if_neg hs3, if_neg hs4, if_neg hs5, if_pos hs6, nlit, nI_add, pk_mul]; rfl), by first | contradiction | rfl | (simp only [trO, if_neg hs1, if_neg hs2, if_neg hs3, if_neg hs4, if_neg hs5, if_pos hs6]; done) | (simp only [trO, if_neg hs1, if_neg hs2, if_neg hs3, if_neg hs4, if_neg hs5, if_pos hs6]; rfl) | (simp only [trO, if_neg hs1, if_neg hs2, if_neg hs3, if_neg hs4, if_neg hs5, if_pos hs6]; simp only [nlit, nI_add, pk_mul]; done) | (simp only [trO, if_neg hs1, if_neg hs2, if_neg hs3, if_neg hs4, if_neg hs5, if_pos hs6, nlit, nI_add, pk_mul]; done) | contradiction | (simp only [trO, if_neg hs1, if_neg hs2, if_neg hs3, if_neg hs4, if_neg hs5, if_pos hs6, nlit, nI_add, pk_mul]; rfl)⟩
  refine x_lsw C 1 rfl rfl (off := 89) (by show Op.lookupswitch.offset [(35, 79), (37, 73), (38, 59), (47, 67), (94, 85), (124, 63)] 89 _ = _; rw [lv_osw hs1 (a := 35) rfl, lv_osw hs2 (a := 37) rfl, lv_osw hs3 (a := 38) rfl, lv_osw hs4 (a := 47) rfl, lv_osw hs5 (a := 94) rfl, lv_osw hs6 (a := 124) rfl]; rfl) (tgt := 90) rfl ?_
  refine x_run C 32 3 (pc' := 93) (lv' := [(0, .int s), (1, .int x), (2, .int y)]) (st' := [.int (1 - x)]) rfl ?_
  exact x_iret C B rfl 35 rfl (Nat.zero_le _) (Nat.zero_le _) ⟨by first | contradiction | rfl | (simp only [trO, if_neg hs1, if_neg hs2, if_neg hs3, if_neg hs4, if_neg hs5, if_neg hs6]; done) | (simp only [trO, if_neg hs1, if_neg hs2, if_neg hs3, if_neg hs4, if_neg hs5, if_neg hs6]; rfl) | (simp only [trO, if_neg hs1, if_neg hs2, if_neg hs3, if_neg hs4, if_neg hs5, if_neg hs6]; simp only [nlit, nI_add, pk_mul]; done) | (simp only [trO, if_neg hs1, if_neg hs2, if_neg hs3, if_neg hs4, if_neg hs5, if_neg hs6, nlit, nI_add, pk_mul]; done) | contradiction | (simp only [trO, if_neg hs1, if_neg hs2, if_neg hs3, if_neg hs4, if_neg hs5, if_neg hs6, nlit, nI_add, pk_mul]; rfl), by first | contradiction | rfl | (simp only [trO, if_neg hs1, if_neg hs2, if_neg hs3, if_neg hs4, if_neg hs5, if_neg hs6]; done) | (simp only [trO, if_neg hs1, if_neg hs2, if_neg hs3, if_neg hs4, if_neg hs5, if_neg hs6]; rfl) | (simp only [trO, if_neg hs1, if_neg hs2, if_neg hs3, if_neg hs4, if_neg hs5, if_neg hs6]; simp only [nlit, nI_add, pk_mul]; done) | (simp only [trO, if_neg hs1, if_neg hs2, if_neg hs3, if_neg hs4, if_neg hs5, if_neg hs6, nlit, nI_add, pk_mul]; done) | contradiction | (simp only [trO, if_neg hs1, if_neg hs2, if_neg hs3, if_neg hs4, if_neg hs5, if_neg hs6, nlit, nI_add, pk_mul]; rfl)⟩
set_option maxHeartbeats 4000000 in
set_option maxRecDepth 100000 in
theorem c_X1_wireCount (Y : xD) (w : va_W) (a0 : Nat) (a1 : Nat) (a2 : Nat) (a3 : Nat) (a4 : Nat) (a5 : Nat) (n : Nat) (g : Nat) (tb : Nat) (o : Nat) (q0 : Nat) (e0 : w[q0]? = some (a0, cO 1 [.ref a1, .ref a2, .ref a3, .ref a4, .ref a5, .int (nI n), .int (nI g), .int (nI tb), .int (nI o)])) (N : xN w.length [q0])  : Cf Y mX1_wireCount 0 [.ref a0] w (some (.int (nI (n + g)))) [(q0, (a0, cO 1 [.ref a1, .ref a2, .ref a3, .ref a4, .ref a5, .int (nI n), .int (nI g), .int (nI tb), .int (nI o)]))] := by
  refine Ct.intro (T := tX1_wireCount) (by decide) oX1_wireCount (Nat.le_of_ble_eq_true rfl) (fun G C B => ?_)
  refine x_lay [(q0, (a0, cO 1 [.ref a1, .ref a2, .ref a3, .ref a4, .ref a5, .int (nI n), .int (nI g), .int (nI tb), .int (nI o)]))] (lay_cons e0 lay_nil) ?_
  refine x_run C 0 1 (pc' := 1) (lv' := [(0, .ref a0)]) (st' := [.ref a0]) rfl ?_
  refine x_get C 1 rfl fX1_27 N 0 rfl (v := .int (nI n)) rfl ?_
  refine x_run C 2 1 (pc' := 5) (lv' := [(0, .ref a0)]) (st' := [.ref a0, .int (nI n)]) rfl ?_
  refine x_get C 3 rfl fX1_31 N 0 rfl (v := .int (nI g)) rfl ?_
  refine x_run C 4 1 (pc' := 9) (lv' := [(0, .ref a0)]) (st' := [.int ((nI n) + (nI g))]) rfl ?_
  exact x_iret C B rfl 5 rfl (Nat.zero_le _) (Nat.zero_le _) ⟨by first | rfl | (simp only [nlit, nI_add, pk_mul]; done), by first | rfl | (simp only [nlit, nI_add, pk_mul]; done)⟩
set_option maxHeartbeats 4000000 in
set_option maxRecDepth 100000 in
theorem c_X1_coinsFor (Y : xD) (w : va_W) (a0 : Nat) (a1 : Nat) (a2 : Nat) (a3 : Nat) (a4 : Nat) (a5 : Nat) (n : Nat) (g : Nat) (tb : Nat) (o : Nat) (y : Nat) (q0 : Nat) (e0 : w[q0]? = some (a0, cO 1 [.ref a1, .ref a2, .ref a3, .ref a4, .ref a5, .int (nI n), .int (nI g), .int (nI tb), .int (nI o)])) (N : xN w.length [q0]) (hy : y < 3) : Cf Y mX1_coinsFor 0 [.ref a0, .int (nI y)] w (some (.int (nI (if y = 0 then 1 + n + tb else 1 + n)))) [(q0, (a0, cO 1 [.ref a1, .ref a2, .ref a3, .ref a4, .ref a5, .int (nI n), .int (nI g), .int (nI tb), .int (nI o)]))] := by
  refine Ct.intro (T := tX1_coinsFor) (by decide) oX1_coinsFor (Nat.le_of_ble_eq_true rfl) (fun G C B => ?_)
  refine x_lay [(q0, (a0, cO 1 [.ref a1, .ref a2, .ref a3, .ref a4, .ref a5, .int (nI n), .int (nI g), .int (nI tb), .int (nI o)]))] (lay_cons e0 lay_nil) ?_
  refine x_run C 0 2 (pc' := 2) (lv' := [(0, .ref a0), (1, .int (nI y))]) (st' := [.ref a0, .int 1]) rfl ?_
  refine x_get C 2 rfl fX1_27 N 0 rfl (v := .int (nI n)) rfl ?_
  refine x_run C 3 3 (pc' := 8) (lv' := [(2, .int (1 + (nI n))), (0, .ref a0), (1, .int (nI y))]) (st' := [.int (nI y)]) rfl ?_
  refine x_ifN_ne C 6 (by omega) rfl (tgt := 20) rfl (fun hc1 => ?_) (fun hc1 => ?_)
  · refine x_run C 12 1 (pc' := 21) (lv' := [(2, .int (1 + (nI n))), (0, .ref a0), (1, .int (nI y))]) (st' := [.int (1 + (nI n))]) rfl ?_
    exact x_iret C B rfl 13 rfl (Nat.zero_le _) (Nat.zero_le _) ⟨by first | contradiction | rfl | (simp only [if_neg hc1]; done) | (simp only [if_neg hc1]; rfl) | (simp only [if_neg hc1]; simp only [nlit, nI_add, pk_mul]; done) | (simp only [if_neg hc1, nlit, nI_add, pk_mul]; done) | contradiction | (simp only [if_neg hc1, nlit, nI_add, pk_mul]; rfl), by first | contradiction | rfl | (simp only [if_neg hc1]; done) | (simp only [if_neg hc1]; rfl) | (simp only [if_neg hc1]; simp only [nlit, nI_add, pk_mul]; done) | (simp only [if_neg hc1, nlit, nI_add, pk_mul]; done) | contradiction | (simp only [if_neg hc1, nlit, nI_add, pk_mul]; rfl)⟩
  · refine x_run C 7 2 (pc' := 13) (lv' := [(2, .int (1 + (nI n))), (0, .ref a0), (1, .int (nI y))]) (st' := [.ref a0, .int (1 + (nI n))]) rfl ?_
    refine x_get C 9 rfl fX1_34 N 0 rfl (v := .int (nI tb)) rfl ?_
    refine x_run C 10 2 (pc' := 21) (lv' := [(2, .int (1 + (nI n))), (0, .ref a0), (1, .int (nI y))]) (st' := [.int ((1 + (nI n)) + (nI tb))]) rfl ?_
    exact x_iret C B rfl 13 rfl (Nat.zero_le _) (Nat.zero_le _) ⟨by first | contradiction | rfl | (simp only [if_pos hc1]; done) | (simp only [if_pos hc1]; rfl) | (simp only [if_pos hc1]; simp only [nlit, nI_add, pk_mul]; done) | (simp only [if_pos hc1, nlit, nI_add, pk_mul]; done) | contradiction | (simp only [if_pos hc1, nlit, nI_add, pk_mul]; rfl), by first | contradiction | rfl | (simp only [if_pos hc1]; done) | (simp only [if_pos hc1]; rfl) | (simp only [if_pos hc1]; simp only [nlit, nI_add, pk_mul]; done) | (simp only [if_pos hc1, nlit, nI_add, pk_mul]; done) | contradiction | (simp only [if_pos hc1, nlit, nI_add, pk_mul]; rfl)⟩
set_option maxHeartbeats 4000000 in
set_option maxRecDepth 100000 in
theorem c_X1_startWith (Y : xD) (w : va_W) (a0 : Nat) (a1 : Nat) (a2 : Nat) (a3 : Nat) (a4 : Nat) (a5 : Nat) (n : Nat) (g : Nat) (tb : Nat) (o : Nat) (k : Nat) (q0 : Nat) (e0 : w[q0]? = some (a0, cO 1 [.ref a1, .ref a2, .ref a3, .ref a4, .ref a5, .int (nI n), .int (nI g), .int (nI tb), .int (nI o)])) (N : xN w.length [q0])  : Cf Y mX1_startWith 0 [.ref a0, .int (nI k)] w none [(q0, (a0, cO 1 [.ref a1, .ref a2, .ref a3, .ref a4, .ref a5, .int (nI k), .int 0, .int 0, .int 0]))] := by
  refine Ct.intro (T := tX1_startWith) (by decide) oX1_startWith (Nat.le_of_ble_eq_true rfl) (fun G C B => ?_)
  refine x_lay [(q0, (a0, cO 1 [.ref a1, .ref a2, .ref a3, .ref a4, .ref a5, .int (nI n), .int (nI g), .int (nI tb), .int (nI o)]))] (lay_cons e0 lay_nil) ?_
  refine x_run C 0 2 (pc' := 2) (lv' := [(0, .ref a0), (1, .int (nI k))]) (st' := [.int (nI k), .ref a0]) rfl ?_
  refine x_put C 2 rfl pX1_27 N 0 rfl rfl rfl (Nat.le_of_ble_eq_true rfl) (os' := [(q0, (a0, cO 1 [.ref a1, .ref a2, .ref a3, .ref a4, .ref a5, .int (nI k), .int (nI g), .int (nI tb), .int (nI o)]))]) rfl ?_
  refine x_run C 3 2 (pc' := 7) (lv' := [(0, .ref a0), (1, .int (nI k))]) (st' := [.int 0, .ref a0]) rfl ?_
  refine x_put C 5 rfl pX1_31 N 0 rfl rfl rfl (Nat.le_of_ble_eq_true rfl) (os' := [(q0, (a0, cO 1 [.ref a1, .ref a2, .ref a3, .ref a4, .ref a5, .int (nI k), .int 0, .int (nI tb), .int (nI o)]))]) rfl ?_
  refine x_run C 6 2 (pc' := 12) (lv' := [(0, .ref a0), (1, .int (nI k))]) (st' := [.int 0, .ref a0]) rfl ?_
  refine x_put C 8 rfl pX1_34 N 0 rfl rfl rfl (Nat.le_of_ble_eq_true rfl) (os' := [(q0, (a0, cO 1 [.ref a1, .ref a2, .ref a3, .ref a4, .ref a5, .int (nI k), .int 0, .int 0, .int (nI o)]))]) rfl ?_
  refine x_run C 9 2 (pc' := 17) (lv' := [(0, .ref a0), (1, .int (nI k))]) (st' := [.int 0, .ref a0]) rfl ?_
  refine x_put C 11 rfl pX1_37 N 0 rfl rfl rfl (Nat.le_of_ble_eq_true rfl) (os' := [(q0, (a0, cO 1 [.ref a1, .ref a2, .ref a3, .ref a4, .ref a5, .int (nI k), .int 0, .int 0, .int 0]))]) rfl ?_
  exact x_vret C B rfl 12 rfl (Nat.zero_le _) (Nat.zero_le _) ⟨by first | rfl | (simp only [nlit, nI_add, pk_mul]; done), by first | rfl | (simp only [nlit, nI_add, pk_mul]; done)⟩
def tnV (s : Int32) (tb : Nat) : Int32 := if s = 94 then -9 else if s = 33 then -9 else nI tb
def tnI (s : Int32) : Nat := if s = 94 then 0 else if s = 33 then 0 else 1
theorem upd_upd (f : Nat → Int32) (k : Nat) (a b : Int32) : upd (upd f k a) k b = upd f k b := by
  funext j
  simp only [upd]
  by_cases h : j = k <;> simp [h]
set_option maxHeartbeats 4000000 in
set_option maxRecDepth 100000 in
theorem c_X1_addGate (Y : xD) (w : va_W) (a0 : Nat) (a1 : Nat) (a2 : Nat) (a3 : Nat) (a4 : Nat) (a5 : Nat) (n : Nat) (g : Nat) (tb : Nat) (o : Nat) (sgA : Nat → Int32) (lfA : Nat → Int32) (rtA : Nat → Int32) (tnA : Nat → Int32) (s : Int32) (x : Int32) (y : Int32) (q0 q1 q2 q3 q4 : Nat) (e0 : w[q0]? = some (a0, cO 1 [.ref a1, .ref a2, .ref a3, .ref a4, .ref a5, .int (nI n), .int (nI g), .int (nI tb), .int (nI o)])) (e1 : w[q1]? = some (a1, cI Y 40 sgA)) (e2 : w[q2]? = some (a2, cI Y 40 lfA)) (e3 : w[q3]? = some (a3, cI Y 40 rtA)) (e4 : w[q4]? = some (a4, cI Y 40 tnA)) (N : xN w.length [q0, q1, q2, q3, q4]) (hg : g < 40) : Cf Y mX1_addGate 0 [.ref a0, .int s, .int x, .int y] w none [(q0, (a0, cO 1 [.ref a1, .ref a2, .ref a3, .ref a4, .ref a5, .int (nI n), .int (nI (g + 1)), .int (nI (tb + tnI s)), .int (nI o)])), (q1, (a1, cI Y 40 (upd sgA g s))), (q2, (a2, cI Y 40 (upd lfA g x))), (q3, (a3, cI Y 40 (upd rtA g y))), (q4, (a4, cI Y 40 (upd tnA g (tnV s tb))))] := by
  refine Ct.intro (T := tX1_addGate) (by decide) oX1_addGate (Nat.le_of_ble_eq_true rfl) (fun G C B => ?_)
  refine x_lay [(q0, (a0, cO 1 [.ref a1, .ref a2, .ref a3, .ref a4, .ref a5, .int (nI n), .int (nI g), .int (nI tb), .int (nI o)])), (q1, (a1, cI Y 40 sgA)), (q2, (a2, cI Y 40 lfA)), (q3, (a3, cI Y 40 rtA)), (q4, (a4, cI Y 40 tnA))] (lay_cons e0 (lay_cons e1 (lay_cons e2 (lay_cons e3 (lay_cons e4 lay_nil))))) ?_
  refine x_run C 0 1 (pc' := 1) (lv' := [(0, .ref a0), (1, .int s), (2, .int x), (3, .int y)]) (st' := [.ref a0]) rfl ?_
  refine x_get C 1 rfl fX1_31 N 0 rfl (v := .int (nI g)) rfl ?_
  refine x_run C 2 1 (pc' := 6) (lv' := [(0, .ref a0), (1, .int s), (2, .int x), (3, .int y)]) (st' := [.int 40, .int (nI g)]) rfl ?_
  refine x_st (st' := [.int (nI 40), .int (nI g)]) (by simp only [nlit, nI_add, pk_mul]) ?_
  refine x_icmpN_lt C 3 (by omega) (by omega) rfl (tgt := 10) rfl (fun hc1 => ?_) (fun hc1 => ?_)
  · refine x_run C 5 1 (pc' := 11) (lv' := [(0, .ref a0), (1, .int s), (2, .int x), (3, .int y)]) (st' := [.ref a0]) rfl ?_
    refine x_get C 6 rfl fX1_9 N 0 rfl (v := .ref a1) rfl ?_
    refine x_run C 7 1 (pc' := 15) (lv' := [(0, .ref a0), (1, .int s), (2, .int x), (3, .int y)]) (st' := [.ref a0, .ref a1]) rfl ?_
    refine x_get C 8 rfl fX1_31 N 0 rfl (v := .int (nI g)) rfl ?_
    refine x_run C 9 1 (pc' := 19) (lv' := [(0, .ref a0), (1, .int s), (2, .int x), (3, .int y)]) (st' := [.int s, .int (nI g), .ref a1]) rfl ?_
    refine x_iastN C 10 rfl N 1 rfl (by omega) (by omega) (os' := [(q0, (a0, cO 1 [.ref a1, .ref a2, .ref a3, .ref a4, .ref a5, .int (nI n), .int (nI g), .int (nI tb), .int (nI o)])), (q1, (a1, cI Y 40 (upd sgA g s))), (q2, (a2, cI Y 40 lfA)), (q3, (a3, cI Y 40 rtA)), (q4, (a4, cI Y 40 tnA))]) rfl ?_
    refine x_run C 11 1 (pc' := 21) (lv' := [(0, .ref a0), (1, .int s), (2, .int x), (3, .int y)]) (st' := [.ref a0]) rfl ?_
    refine x_get C 12 rfl fX1_15 N 0 rfl (v := .ref a2) rfl ?_
    refine x_run C 13 1 (pc' := 25) (lv' := [(0, .ref a0), (1, .int s), (2, .int x), (3, .int y)]) (st' := [.ref a0, .ref a2]) rfl ?_
    refine x_get C 14 rfl fX1_31 N 0 rfl (v := .int (nI g)) rfl ?_
    refine x_run C 15 1 (pc' := 29) (lv' := [(0, .ref a0), (1, .int s), (2, .int x), (3, .int y)]) (st' := [.int x, .int (nI g), .ref a2]) rfl ?_
    refine x_iastN C 16 rfl N 2 rfl (by omega) (by omega) (os' := [(q0, (a0, cO 1 [.ref a1, .ref a2, .ref a3, .ref a4, .ref a5, .int (nI n), .int (nI g), .int (nI tb), .int (nI o)])), (q1, (a1, cI Y 40 (upd sgA g s))), (q2, (a2, cI Y 40 (upd lfA g x))), (q3, (a3, cI Y 40 rtA)), (q4, (a4, cI Y 40 tnA))]) rfl ?_
    refine x_run C 17 1 (pc' := 31) (lv' := [(0, .ref a0), (1, .int s), (2, .int x), (3, .int y)]) (st' := [.ref a0]) rfl ?_
    refine x_get C 18 rfl fX1_18 N 0 rfl (v := .ref a3) rfl ?_
    refine x_run C 19 1 (pc' := 35) (lv' := [(0, .ref a0), (1, .int s), (2, .int x), (3, .int y)]) (st' := [.ref a0, .ref a3]) rfl ?_
    refine x_get C 20 rfl fX1_31 N 0 rfl (v := .int (nI g)) rfl ?_
    refine x_run C 21 1 (pc' := 39) (lv' := [(0, .ref a0), (1, .int s), (2, .int x), (3, .int y)]) (st' := [.int y, .int (nI g), .ref a3]) rfl ?_
    refine x_iastN C 22 rfl N 3 rfl (by omega) (by omega) (os' := [(q0, (a0, cO 1 [.ref a1, .ref a2, .ref a3, .ref a4, .ref a5, .int (nI n), .int (nI g), .int (nI tb), .int (nI o)])), (q1, (a1, cI Y 40 (upd sgA g s))), (q2, (a2, cI Y 40 (upd lfA g x))), (q3, (a3, cI Y 40 (upd rtA g y))), (q4, (a4, cI Y 40 tnA))]) rfl ?_
    refine x_run C 23 1 (pc' := 41) (lv' := [(0, .ref a0), (1, .int s), (2, .int x), (3, .int y)]) (st' := [.ref a0]) rfl ?_
    refine x_get C 24 rfl fX1_21 N 0 rfl (v := .ref a4) rfl ?_
    refine x_run C 25 1 (pc' := 45) (lv' := [(0, .ref a0), (1, .int s), (2, .int x), (3, .int y)]) (st' := [.ref a0, .ref a4]) rfl ?_
    refine x_get C 26 rfl fX1_31 N 0 rfl (v := .int (nI g)) rfl ?_
    refine x_run C 27 1 (pc' := 50) (lv' := [(0, .ref a0), (1, .int s), (2, .int x), (3, .int y)]) (st' := [.int (-9), .int (nI g), .ref a4]) rfl ?_
    refine x_iastN C 28 rfl N 4 rfl (by omega) (by omega) (os' := [(q0, (a0, cO 1 [.ref a1, .ref a2, .ref a3, .ref a4, .ref a5, .int (nI n), .int (nI g), .int (nI tb), .int (nI o)])), (q1, (a1, cI Y 40 (upd sgA g s))), (q2, (a2, cI Y 40 (upd lfA g x))), (q3, (a3, cI Y 40 (upd rtA g y))), (q4, (a4, cI Y 40 (upd tnA g (-9))))]) rfl ?_
    refine x_run C 29 2 (pc' := 54) (lv' := [(0, .ref a0), (1, .int s), (2, .int x), (3, .int y)]) (st' := [.int 94, .int s]) rfl ?_
    refine x_icmp_eq C 31 rfl (tgt := 86) rfl (fun hc2 => ?_) (fun hc2 => ?_)
    · refine x_run C 48 2 (pc' := 88) (lv' := [(0, .ref a0), (1, .int s), (2, .int x), (3, .int y)]) (st' := [.ref a0, .ref a0]) rfl ?_
      refine x_get C 50 rfl fX1_31 N 0 rfl (v := .int (nI g)) rfl ?_
      refine x_run C 51 2 (pc' := 93) (lv' := [(0, .ref a0), (1, .int s), (2, .int x), (3, .int y)]) (st' := [.int ((nI g) + 1), .ref a0]) rfl ?_
      refine x_put C 53 rfl pX1_31 N 0 rfl rfl rfl (Nat.le_of_ble_eq_true rfl) (os' := [(q0, (a0, cO 1 [.ref a1, .ref a2, .ref a3, .ref a4, .ref a5, .int (nI n), .int ((nI g) + 1), .int (nI tb), .int (nI o)])), (q1, (a1, cI Y 40 (upd sgA g s))), (q2, (a2, cI Y 40 (upd lfA g x))), (q3, (a3, cI Y 40 (upd rtA g y))), (q4, (a4, cI Y 40 (upd tnA g (-9))))]) rfl ?_
      exact x_vret C B rfl 54 rfl (Nat.zero_le _) (Nat.zero_le _) ⟨by first | contradiction | rfl | (simp only [tnV, tnI, upd_upd, Nat.add_zero, if_pos hc2]; done) | (simp only [tnV, tnI, upd_upd, Nat.add_zero, if_pos hc2]; rfl) | (simp only [tnV, tnI, upd_upd, Nat.add_zero, if_pos hc2]; simp only [nlit, nI_add, pk_mul]; done) | (simp only [tnV, tnI, upd_upd, Nat.add_zero, if_pos hc2, nlit, nI_add, pk_mul]; done) | contradiction | (simp only [tnV, tnI, upd_upd, Nat.add_zero, if_pos hc2, nlit, nI_add, pk_mul]; rfl), by first | contradiction | rfl | (simp only [tnV, tnI, upd_upd, Nat.add_zero, if_pos hc2]; done) | (simp only [tnV, tnI, upd_upd, Nat.add_zero, if_pos hc2]; rfl) | (simp only [tnV, tnI, upd_upd, Nat.add_zero, if_pos hc2]; simp only [nlit, nI_add, pk_mul]; done) | (simp only [tnV, tnI, upd_upd, Nat.add_zero, if_pos hc2, nlit, nI_add, pk_mul]; done) | contradiction | (simp only [tnV, tnI, upd_upd, Nat.add_zero, if_pos hc2, nlit, nI_add, pk_mul]; rfl)⟩
    · refine x_run C 32 2 (pc' := 60) (lv' := [(0, .ref a0), (1, .int s), (2, .int x), (3, .int y)]) (st' := [.int 33, .int s]) rfl ?_
      refine x_icmp_eq C 34 rfl (tgt := 86) rfl (fun hc3 => ?_) (fun hc3 => ?_)
      · refine x_run C 48 2 (pc' := 88) (lv' := [(0, .ref a0), (1, .int s), (2, .int x), (3, .int y)]) (st' := [.ref a0, .ref a0]) rfl ?_
        refine x_get C 50 rfl fX1_31 N 0 rfl (v := .int (nI g)) rfl ?_
        refine x_run C 51 2 (pc' := 93) (lv' := [(0, .ref a0), (1, .int s), (2, .int x), (3, .int y)]) (st' := [.int ((nI g) + 1), .ref a0]) rfl ?_
        refine x_put C 53 rfl pX1_31 N 0 rfl rfl rfl (Nat.le_of_ble_eq_true rfl) (os' := [(q0, (a0, cO 1 [.ref a1, .ref a2, .ref a3, .ref a4, .ref a5, .int (nI n), .int ((nI g) + 1), .int (nI tb), .int (nI o)])), (q1, (a1, cI Y 40 (upd sgA g s))), (q2, (a2, cI Y 40 (upd lfA g x))), (q3, (a3, cI Y 40 (upd rtA g y))), (q4, (a4, cI Y 40 (upd tnA g (-9))))]) rfl ?_
        exact x_vret C B rfl 54 rfl (Nat.zero_le _) (Nat.zero_le _) ⟨by first | contradiction | rfl | (simp only [tnV, tnI, upd_upd, Nat.add_zero, if_neg hc2, if_pos hc3]; done) | (simp only [tnV, tnI, upd_upd, Nat.add_zero, if_neg hc2, if_pos hc3]; rfl) | (simp only [tnV, tnI, upd_upd, Nat.add_zero, if_neg hc2, if_pos hc3]; simp only [nlit, nI_add, pk_mul]; done) | (simp only [tnV, tnI, upd_upd, Nat.add_zero, if_neg hc2, if_pos hc3, nlit, nI_add, pk_mul]; done) | contradiction | (simp only [tnV, tnI, upd_upd, Nat.add_zero, if_neg hc2, if_pos hc3, nlit, nI_add, pk_mul]; rfl), by first | contradiction | rfl | (simp only [tnV, tnI, upd_upd, Nat.add_zero, if_neg hc2, if_pos hc3]; done) | (simp only [tnV, tnI, upd_upd, Nat.add_zero, if_neg hc2, if_pos hc3]; rfl) | (simp only [tnV, tnI, upd_upd, Nat.add_zero, if_neg hc2, if_pos hc3]; simp only [nlit, nI_add, pk_mul]; done) | (simp only [tnV, tnI, upd_upd, Nat.add_zero, if_neg hc2, if_pos hc3, nlit, nI_add, pk_mul]; done) | contradiction | (simp only [tnV, tnI, upd_upd, Nat.add_zero, if_neg hc2, if_pos hc3, nlit, nI_add, pk_mul]; rfl)⟩
      · refine x_run C 35 1 (pc' := 64) (lv' := [(0, .ref a0), (1, .int s), (2, .int x), (3, .int y)]) (st' := [.ref a0]) rfl ?_
        refine x_get C 36 rfl fX1_21 N 0 rfl (v := .ref a4) rfl ?_
        refine x_run C 37 1 (pc' := 68) (lv' := [(0, .ref a0), (1, .int s), (2, .int x), (3, .int y)]) (st' := [.ref a0, .ref a4]) rfl ?_
        refine x_get C 38 rfl fX1_31 N 0 rfl (v := .int (nI g)) rfl ?_
        refine x_run C 39 1 (pc' := 72) (lv' := [(0, .ref a0), (1, .int s), (2, .int x), (3, .int y)]) (st' := [.ref a0, .int (nI g), .ref a4]) rfl ?_
        refine x_get C 40 rfl fX1_34 N 0 rfl (v := .int (nI tb)) rfl ?_
        refine x_iastN C 41 rfl N 4 rfl (by omega) (by omega) (os' := [(q0, (a0, cO 1 [.ref a1, .ref a2, .ref a3, .ref a4, .ref a5, .int (nI n), .int (nI g), .int (nI tb), .int (nI o)])), (q1, (a1, cI Y 40 (upd sgA g s))), (q2, (a2, cI Y 40 (upd lfA g x))), (q3, (a3, cI Y 40 (upd rtA g y))), (q4, (a4, cI Y 40 (upd (upd tnA g (-9)) g (nI tb))))]) rfl ?_
        refine x_run C 42 2 (pc' := 78) (lv' := [(0, .ref a0), (1, .int s), (2, .int x), (3, .int y)]) (st' := [.ref a0, .ref a0]) rfl ?_
        refine x_get C 44 rfl fX1_34 N 0 rfl (v := .int (nI tb)) rfl ?_
        refine x_run C 45 2 (pc' := 83) (lv' := [(0, .ref a0), (1, .int s), (2, .int x), (3, .int y)]) (st' := [.int ((nI tb) + 1), .ref a0]) rfl ?_
        refine x_put C 47 rfl pX1_34 N 0 rfl rfl rfl (Nat.le_of_ble_eq_true rfl) (os' := [(q0, (a0, cO 1 [.ref a1, .ref a2, .ref a3, .ref a4, .ref a5, .int (nI n), .int (nI g), .int ((nI tb) + 1), .int (nI o)])), (q1, (a1, cI Y 40 (upd sgA g s))), (q2, (a2, cI Y 40 (upd lfA g x))), (q3, (a3, cI Y 40 (upd rtA g y))), (q4, (a4, cI Y 40 (upd (upd tnA g (-9)) g (nI tb))))]) rfl ?_
        refine x_run C 48 2 (pc' := 88) (lv' := [(0, .ref a0), (1, .int s), (2, .int x), (3, .int y)]) (st' := [.ref a0, .ref a0]) rfl ?_
        refine x_get C 50 rfl fX1_31 N 0 rfl (v := .int (nI g)) rfl ?_
        refine x_run C 51 2 (pc' := 93) (lv' := [(0, .ref a0), (1, .int s), (2, .int x), (3, .int y)]) (st' := [.int ((nI g) + 1), .ref a0]) rfl ?_
        refine x_put C 53 rfl pX1_31 N 0 rfl rfl rfl (Nat.le_of_ble_eq_true rfl) (os' := [(q0, (a0, cO 1 [.ref a1, .ref a2, .ref a3, .ref a4, .ref a5, .int (nI n), .int ((nI g) + 1), .int ((nI tb) + 1), .int (nI o)])), (q1, (a1, cI Y 40 (upd sgA g s))), (q2, (a2, cI Y 40 (upd lfA g x))), (q3, (a3, cI Y 40 (upd rtA g y))), (q4, (a4, cI Y 40 (upd (upd tnA g (-9)) g (nI tb))))]) rfl ?_
        exact x_vret C B rfl 54 rfl (Nat.zero_le _) (Nat.zero_le _) ⟨by first | contradiction | rfl | (simp only [tnV, tnI, upd_upd, Nat.add_zero, if_neg hc2, if_neg hc3]; done) | (simp only [tnV, tnI, upd_upd, Nat.add_zero, if_neg hc2, if_neg hc3]; rfl) | (simp only [tnV, tnI, upd_upd, Nat.add_zero, if_neg hc2, if_neg hc3]; simp only [nlit, nI_add, pk_mul]; done) | (simp only [tnV, tnI, upd_upd, Nat.add_zero, if_neg hc2, if_neg hc3, nlit, nI_add, pk_mul]; done) | contradiction | (simp only [tnV, tnI, upd_upd, Nat.add_zero, if_neg hc2, if_neg hc3, nlit, nI_add, pk_mul]; rfl), by first | contradiction | rfl | (simp only [tnV, tnI, upd_upd, Nat.add_zero, if_neg hc2, if_neg hc3]; done) | (simp only [tnV, tnI, upd_upd, Nat.add_zero, if_neg hc2, if_neg hc3]; rfl) | (simp only [tnV, tnI, upd_upd, Nat.add_zero, if_neg hc2, if_neg hc3]; simp only [nlit, nI_add, pk_mul]; done) | (simp only [tnV, tnI, upd_upd, Nat.add_zero, if_neg hc2, if_neg hc3, nlit, nI_add, pk_mul]; done) | contradiction | (simp only [tnV, tnI, upd_upd, Nat.add_zero, if_neg hc2, if_neg hc3, nlit, nI_add, pk_mul]; rfl)⟩
  · exact absurd hc1 (by omega)
set_option maxHeartbeats 4000000 in
set_option maxRecDepth 100000 in
theorem c_X1_addOutput (Y : xD) (w : va_W) (a0 : Nat) (a1 : Nat) (a2 : Nat) (a3 : Nat) (a4 : Nat) (a5 : Nat) (n : Nat) (g : Nat) (tb : Nat) (o : Nat) (ouA : Nat → Int32) (x : Int32) (q0 q5 : Nat) (e0 : w[q0]? = some (a0, cO 1 [.ref a1, .ref a2, .ref a3, .ref a4, .ref a5, .int (nI n), .int (nI g), .int (nI tb), .int (nI o)])) (e1 : w[q5]? = some (a5, cI Y 8 ouA)) (N : xN w.length [q0, q5]) (ho : o < 8) : Cf Y mX1_addOutput 0 [.ref a0, .int x] w none [(q0, (a0, cO 1 [.ref a1, .ref a2, .ref a3, .ref a4, .ref a5, .int (nI n), .int (nI g), .int (nI tb), .int (nI (o + 1))])), (q5, (a5, cI Y 8 (upd ouA o x)))] := by
  refine Ct.intro (T := tX1_addOutput) (by decide) oX1_addOutput (Nat.le_of_ble_eq_true rfl) (fun G C B => ?_)
  refine x_lay [(q0, (a0, cO 1 [.ref a1, .ref a2, .ref a3, .ref a4, .ref a5, .int (nI n), .int (nI g), .int (nI tb), .int (nI o)])), (q5, (a5, cI Y 8 ouA))] (lay_cons e0 (lay_cons e1 lay_nil)) ?_
  refine x_run C 0 1 (pc' := 1) (lv' := [(0, .ref a0), (1, .int x)]) (st' := [.ref a0]) rfl ?_
  refine x_get C 1 rfl fX1_37 N 0 rfl (v := .int (nI o)) rfl ?_
  refine x_run C 2 1 (pc' := 6) (lv' := [(0, .ref a0), (1, .int x)]) (st' := [.int 8, .int (nI o)]) rfl ?_
  refine x_st (st' := [.int (nI 8), .int (nI o)]) (by simp only [nlit, nI_add, pk_mul]) ?_
  refine x_icmpN_lt C 3 (by omega) (by omega) rfl (tgt := 10) rfl (fun hc1 => ?_) (fun hc1 => ?_)
  · refine x_run C 5 1 (pc' := 11) (lv' := [(0, .ref a0), (1, .int x)]) (st' := [.ref a0]) rfl ?_
    refine x_get C 6 rfl fX1_24 N 0 rfl (v := .ref a5) rfl ?_
    refine x_run C 7 1 (pc' := 15) (lv' := [(0, .ref a0), (1, .int x)]) (st' := [.ref a0, .ref a5]) rfl ?_
    refine x_get C 8 rfl fX1_37 N 0 rfl (v := .int (nI o)) rfl ?_
    refine x_run C 9 1 (pc' := 19) (lv' := [(0, .ref a0), (1, .int x)]) (st' := [.int x, .int (nI o), .ref a5]) rfl ?_
    refine x_iastN C 10 rfl N 1 rfl (by omega) (by omega) (os' := [(q0, (a0, cO 1 [.ref a1, .ref a2, .ref a3, .ref a4, .ref a5, .int (nI n), .int (nI g), .int (nI tb), .int (nI o)])), (q5, (a5, cI Y 8 (upd ouA o x)))]) rfl ?_
    refine x_run C 11 2 (pc' := 22) (lv' := [(0, .ref a0), (1, .int x)]) (st' := [.ref a0, .ref a0]) rfl ?_
    refine x_get C 13 rfl fX1_37 N 0 rfl (v := .int (nI o)) rfl ?_
    refine x_run C 14 2 (pc' := 27) (lv' := [(0, .ref a0), (1, .int x)]) (st' := [.int ((nI o) + 1), .ref a0]) rfl ?_
    refine x_put C 16 rfl pX1_37 N 0 rfl rfl rfl (Nat.le_of_ble_eq_true rfl) (os' := [(q0, (a0, cO 1 [.ref a1, .ref a2, .ref a3, .ref a4, .ref a5, .int (nI n), .int (nI g), .int (nI tb), .int ((nI o) + 1)])), (q5, (a5, cI Y 8 (upd ouA o x)))]) rfl ?_
    exact x_vret C B rfl 17 rfl (Nat.zero_le _) (Nat.zero_le _) ⟨by first | contradiction | rfl | (simp only [nlit]; done) | (simp only [nlit]; rfl) | (simp only [nlit]; simp only [nlit, nI_add, pk_mul]; done) | (simp only [nlit, nI_add, pk_mul]; done) | contradiction | (simp only [nlit, nI_add, pk_mul]; rfl), by first | contradiction | rfl | (simp only [nlit]; done) | (simp only [nlit]; rfl) | (simp only [nlit]; simp only [nlit, nI_add, pk_mul]; done) | (simp only [nlit, nI_add, pk_mul]; done) | contradiction | (simp only [nlit, nI_add, pk_mul]; rfl)⟩
  · exact absurd hc1 (by omega)
def plT (sg lf rt : Nat → Int32) (n : Nat) (x : Int64) : Nat → Int64
  | 0 => x
  | i + 1 => plT sg lf rt n x i ||| jlshl (trO (sg i) (btO (plT sg lf rt n x i) (lf i)) (if sg i = 33 then 0 else btO (plT sg lf rt n x i) (rt i))).toInt64 (nI n + nI i)
def plO (ou : Nat → Int32) (t : Int64) : Nat → Int32
  | 0 => 0
  | i + 1 => plO ou t i ||| jshl (btO t (ou i)) (nI i)
def plM (x : Int32) (n : Nat) : Int64 := x.toInt64 &&& (jlshl 1 (nI n) - 1)
set_option maxHeartbeats 4000000 in
set_option maxRecDepth 100000 in
theorem c_X1_outputTruths (Y : xD) (w : va_W) (a0 : Nat) (a1 : Nat) (a2 : Nat) (a3 : Nat) (a4 : Nat) (a5 : Nat) (n : Nat) (g : Nat) (tb : Nat) (o : Nat) (sgA : Nat → Int32) (lfA : Nat → Int32) (rtA : Nat → Int32) (ouA : Nat → Int32) (x : Int32) (q0 q1 q2 q3 q5 : Nat) (e0 : w[q0]? = some (a0, cO 1 [.ref a1, .ref a2, .ref a3, .ref a4, .ref a5, .int (nI n), .int (nI g), .int (nI tb), .int (nI o)])) (e1 : w[q1]? = some (a1, cI Y 40 sgA)) (e2 : w[q2]? = some (a2, cI Y 40 lfA)) (e3 : w[q3]? = some (a3, cI Y 40 rtA)) (e4 : w[q5]? = some (a5, cI Y 8 ouA)) (N : xN w.length [q0, q1, q2, q3, q5]) (hg : g ≤ 40) (ho : o ≤ 8) : Cf Y mX1_outputTruths 1 [.ref a0, .int x] w (some (.int (plO ouA (plT sgA lfA rtA n (plM x n) g) o))) [(q0, (a0, cO 1 [.ref a1, .ref a2, .ref a3, .ref a4, .ref a5, .int (nI n), .int (nI g), .int (nI tb), .int (nI o)])), (q1, (a1, cI Y 40 sgA)), (q2, (a2, cI Y 40 lfA)), (q3, (a3, cI Y 40 rtA)), (q5, (a5, cI Y 8 ouA))] := by
  refine Ct.intro (T := tX1_outputTruths) (by decide) oX1_outputTruths (Nat.le_of_ble_eq_true rfl) (fun G C B => ?_)
  refine x_lay [(q0, (a0, cO 1 [.ref a1, .ref a2, .ref a3, .ref a4, .ref a5, .int (nI n), .int (nI g), .int (nI tb), .int (nI o)])), (q1, (a1, cI Y 40 sgA)), (q2, (a2, cI Y 40 lfA)), (q3, (a3, cI Y 40 rtA)), (q5, (a5, cI Y 8 ouA))] (lay_cons e0 (lay_cons e1 (lay_cons e2 (lay_cons e3 (lay_cons e4 lay_nil))))) ?_
  refine x_run C 0 4 (pc' := 4) (lv' := [(0, .ref a0), (1, .int x)]) (st' := [.ref a0, .long 1, .long x.toInt64]) rfl ?_
  refine x_get C 4 rfl fX1_27 N 0 rfl (v := .int (nI n)) rfl ?_
  refine x_run C 5 7 (pc' := 15) (lv' := [(4, .int 0), (2, .long (x.toInt64 &&& ((jlshl 1 (nI n)) - 1))), (0, .ref a0), (1, .int x)]) (st' := []) rfl ?_
  have L15 : ∀ i : Nat, 0 ≤ i → i ≤ g → X G Y 0 0 15 [(0, .ref a0), (1, .int x), (2, .long (plT sgA lfA rtA n (plM x n) i)), (4, .int (nI i))] [] (ovl w [(q0, (a0, cO 1 [.ref a1, .ref a2, .ref a3, .ref a4, .ref a5, .int (nI n), .int (nI g), .int (nI tb), .int (nI o)])), (q1, (a1, cI Y 40 sgA)), (q2, (a2, cI Y 40 lfA)), (q3, (a3, cI Y 40 rtA)), (q5, (a5, cI Y 8 ouA))]) := by
    intro i lo15 hi15
    revert lo15
    refine x_up (fun i => 0 ≤ i → X G Y 0 0 15 [(0, .ref a0), (1, .int x), (2, .long (plT sgA lfA rtA n (plM x n) i)), (4, .int (nI i))] [] (ovl w [(q0, (a0, cO 1 [.ref a1, .ref a2, .ref a3, .ref a4, .ref a5, .int (nI n), .int (nI g), .int (nI tb), .int (nI o)])), (q1, (a1, cI Y 40 sgA)), (q2, (a2, cI Y 40 lfA)), (q3, (a3, cI Y 40 rtA)), (q5, (a5, cI Y 8 ouA))])) g ?_ ?_ i hi15
    · intro lo15
      refine x_run C 12 2 (pc' := 18) (lv' := [(0, .ref a0), (1, .int x), (2, .long (plT sgA lfA rtA n (plM x n) g)), (4, .int (nI g))]) (st' := [.ref a0, .int (nI g)]) rfl ?_
      refine x_get C 14 rfl fX1_31 N 0 rfl (v := .int (nI g)) rfl ?_
      refine x_icmpN_ge C 15 (by omega) (by omega) rfl (tgt := 98) rfl (fun hc1 => ?_) (fun hc1 => ?_)
      · refine x_run C 56 4 (pc' := 104) (lv' := [(5, .int 0), (4, .int 0), (0, .ref a0), (1, .int x), (2, .long (plT sgA lfA rtA n (plM x n) g))]) (st' := []) rfl ?_
        have L104 : ∀ k : Nat, 0 ≤ k → k ≤ o → X G Y 0 0 104 [(0, .ref a0), (1, .int x), (2, .long (plT sgA lfA rtA n (plM x n) g)), (4, .int (plO ouA (plT sgA lfA rtA n (plM x n) g) k)), (5, .int (nI k))] [] (ovl w [(q0, (a0, cO 1 [.ref a1, .ref a2, .ref a3, .ref a4, .ref a5, .int (nI n), .int (nI g), .int (nI tb), .int (nI o)])), (q1, (a1, cI Y 40 sgA)), (q2, (a2, cI Y 40 lfA)), (q3, (a3, cI Y 40 rtA)), (q5, (a5, cI Y 8 ouA))]) := by
          intro k lo104 hi104
          revert lo104
          refine x_up (fun k => 0 ≤ k → X G Y 0 0 104 [(0, .ref a0), (1, .int x), (2, .long (plT sgA lfA rtA n (plM x n) g)), (4, .int (plO ouA (plT sgA lfA rtA n (plM x n) g) k)), (5, .int (nI k))] [] (ovl w [(q0, (a0, cO 1 [.ref a1, .ref a2, .ref a3, .ref a4, .ref a5, .int (nI n), .int (nI g), .int (nI tb), .int (nI o)])), (q1, (a1, cI Y 40 sgA)), (q2, (a2, cI Y 40 lfA)), (q3, (a3, cI Y 40 rtA)), (q5, (a5, cI Y 8 ouA))])) o ?_ ?_ k hi104
          · intro lo104
            refine x_run C 60 2 (pc' := 107) (lv' := [(0, .ref a0), (1, .int x), (2, .long (plT sgA lfA rtA n (plM x n) g)), (4, .int (plO ouA (plT sgA lfA rtA n (plM x n) g) o)), (5, .int (nI o))]) (st' := [.ref a0, .int (nI o)]) rfl ?_
            refine x_get C 62 rfl fX1_37 N 0 rfl (v := .int (nI o)) rfl ?_
            refine x_icmpN_ge C 63 (by omega) (by omega) rfl (tgt := 138) rfl (fun hc2 => ?_) (fun hc2 => ?_)
            · refine x_run C 77 1 (pc' := 140) (lv' := [(0, .ref a0), (1, .int x), (2, .long (plT sgA lfA rtA n (plM x n) g)), (4, .int (plO ouA (plT sgA lfA rtA n (plM x n) g) o)), (5, .int (nI o))]) (st' := [.int (plO ouA (plT sgA lfA rtA n (plM x n) g) o)]) rfl ?_
              exact x_iret C B rfl 78 rfl (Nat.zero_le _) (Nat.zero_le _) ⟨by first | contradiction | rfl | (simp only [nlit]; done) | (simp only [nlit]; rfl) | (simp only [nlit]; simp only [nlit, nI_add, pk_mul]; done) | (simp only [nlit, nI_add, pk_mul]; done) | contradiction | (simp only [nlit, nI_add, pk_mul]; rfl), by first | contradiction | rfl | (simp only [nlit]; done) | (simp only [nlit]; rfl) | (simp only [nlit]; simp only [nlit, nI_add, pk_mul]; done) | (simp only [nlit, nI_add, pk_mul]; done) | contradiction | (simp only [nlit, nI_add, pk_mul]; rfl)⟩
            · exact absurd hc2 (by omega)
          · intro k hi104 ih104 lo104
            refine x_run C 60 2 (pc' := 107) (lv' := [(0, .ref a0), (1, .int x), (2, .long (plT sgA lfA rtA n (plM x n) g)), (4, .int (plO ouA (plT sgA lfA rtA n (plM x n) g) k)), (5, .int (nI k))]) (st' := [.ref a0, .int (nI k)]) rfl ?_
            refine x_get C 62 rfl fX1_37 N 0 rfl (v := .int (nI o)) rfl ?_
            refine x_icmpN_ge C 63 (by omega) (by omega) rfl (tgt := 138) rfl (fun hc3 => ?_) (fun hc3 => ?_)
            · exact absurd hc3 (by omega)
            · refine x_run C 64 3 (pc' := 117) (lv' := [(0, .ref a0), (1, .int x), (2, .long (plT sgA lfA rtA n (plM x n) g)), (4, .int (plO ouA (plT sgA lfA rtA n (plM x n) g) k)), (5, .int (nI k))]) (st' := [.ref a0, .long (plT sgA lfA rtA n (plM x n) g), .int (plO ouA (plT sgA lfA rtA n (plM x n) g) k)]) rfl ?_
              refine x_get C 67 rfl fX1_24 N 0 rfl (v := .ref a5) rfl ?_
              refine x_run C 68 1 (pc' := 122) (lv' := [(0, .ref a0), (1, .int x), (2, .long (plT sgA lfA rtA n (plM x n) g)), (4, .int (plO ouA (plT sgA lfA rtA n (plM x n) g) k)), (5, .int (nI k))]) (st' := [.int (nI k), .ref a5, .long (plT sgA lfA rtA n (plM x n) g), .int (plO ouA (plT sgA lfA rtA n (plM x n) g) k)]) rfl ?_
              refine x_ialdN C 69 rfl N 4 rfl (by omega) (by omega) ?_
              refine x_cs C 70 (As := [.long (plT sgA lfA rtA n (plM x n) g), .int (ouA k)]) (rest := [.int (plO ouA (plT sgA lfA rtA n (plM x n) g) k)]) rfl vX1_40 N (c_X1_bitOf Y _ (plT sgA lfA rtA n (plM x n) g) (ouA k)    ) rfl rfl (Nat.le_of_ble_eq_true rfl) ⟨Nat.le_of_ble_eq_true rfl, Nat.le_of_ble_eq_true rfl⟩ ⟨Nat.zero_le _, Nat.zero_le _⟩ [] trivial (os' := [(q0, (a0, cO 1 [.ref a1, .ref a2, .ref a3, .ref a4, .ref a5, .int (nI n), .int (nI g), .int (nI tb), .int (nI o)])), (q1, (a1, cI Y 40 sgA)), (q2, (a2, cI Y 40 lfA)), (q3, (a3, cI Y 40 rtA)), (q5, (a5, cI Y 8 ouA))]) rfl (st' := [.int (btO (plT sgA lfA rtA n (plM x n) g) (ouA k)), .int (plO ouA (plT sgA lfA rtA n (plM x n) g) k)]) rfl ?_
              refine x_run C 71 6 (pc' := 104) (lv' := [(5, .int ((nI k) + 1)), (4, .int ((plO ouA (plT sgA lfA rtA n (plM x n) g) k) ||| (jshl (btO (plT sgA lfA rtA n (plM x n) g) (ouA k)) (nI k)))), (0, .ref a0), (1, .int x), (2, .long (plT sgA lfA rtA n (plM x n) g))]) (st' := []) rfl ?_
              refine x_sub (lv' := [(0, .ref a0), (1, .int x), (2, .long (plT sgA lfA rtA n (plM x n) g)), (4, .int ((plO ouA (plT sgA lfA rtA n (plM x n) g) k) ||| (jshl (btO (plT sgA lfA rtA n (plM x n) g) (ouA k)) (nI k)))), (5, .int ((nI k) + 1))]) [2, 3, 4, 1, 0] rfl ?_
              refine x_loc (lv' := [(0, .ref a0), (1, .int x), (2, .long (plT sgA lfA rtA n (plM x n) g)), (4, .int (plO ouA (plT sgA lfA rtA n (plM x n) g) (k + 1))), (5, .int (nI (k + 1)))]) (by simp only [plO, nlit, nI_add, pk_mul]) ?_
              exact ih104 (by omega)
        refine x_sub (lv' := [(0, .ref a0), (1, .int x), (2, .long (plT sgA lfA rtA n (plM x n) g)), (4, .int 0), (5, .int 0)]) [2, 3, 4, 1, 0] rfl ?_
        refine x_loc (lv' := [(0, .ref a0), (1, .int x), (2, .long (plT sgA lfA rtA n (plM x n) g)), (4, .int (plO ouA (plT sgA lfA rtA n (plM x n) g) 0)), (5, .int (nI 0))]) (by rfl) ?_
        exact L104 0 (Nat.le_refl _) (by omega)
      · exact absurd hc1 (by omega)
    · intro i hi15 ih15 lo15
      refine x_run C 12 2 (pc' := 18) (lv' := [(0, .ref a0), (1, .int x), (2, .long (plT sgA lfA rtA n (plM x n) i)), (4, .int (nI i))]) (st' := [.ref a0, .int (nI i)]) rfl ?_
      refine x_get C 14 rfl fX1_31 N 0 rfl (v := .int (nI g)) rfl ?_
      refine x_icmpN_ge C 15 (by omega) (by omega) rfl (tgt := 98) rfl (fun hc4 => ?_) (fun hc4 => ?_)
      · exact absurd hc4 (by omega)
      · refine x_run C 16 2 (pc' := 26) (lv' := [(0, .ref a0), (1, .int x), (2, .long (plT sgA lfA rtA n (plM x n) i)), (4, .int (nI i))]) (st' := [.ref a0, .long (plT sgA lfA rtA n (plM x n) i)]) rfl ?_
        refine x_get C 18 rfl fX1_15 N 0 rfl (v := .ref a2) rfl ?_
        refine x_run C 19 1 (pc' := 31) (lv' := [(0, .ref a0), (1, .int x), (2, .long (plT sgA lfA rtA n (plM x n) i)), (4, .int (nI i))]) (st' := [.int (nI i), .ref a2, .long (plT sgA lfA rtA n (plM x n) i)]) rfl ?_
        refine x_ialdN C 20 rfl N 2 rfl (by omega) (by omega) ?_
        refine x_cs C 21 (As := [.long (plT sgA lfA rtA n (plM x n) i), .int (lfA i)]) (rest := []) rfl vX1_40 N (c_X1_bitOf Y _ (plT sgA lfA rtA n (plM x n) i) (lfA i)    ) rfl rfl (Nat.le_of_ble_eq_true rfl) ⟨Nat.le_of_ble_eq_true rfl, Nat.le_of_ble_eq_true rfl⟩ ⟨Nat.zero_le _, Nat.zero_le _⟩ [] trivial (os' := [(q0, (a0, cO 1 [.ref a1, .ref a2, .ref a3, .ref a4, .ref a5, .int (nI n), .int (nI g), .int (nI tb), .int (nI o)])), (q1, (a1, cI Y 40 sgA)), (q2, (a2, cI Y 40 lfA)), (q3, (a3, cI Y 40 rtA)), (q5, (a5, cI Y 8 ouA))]) rfl (st' := [.int (btO (plT sgA lfA rtA n (plM x n) i) (lfA i))]) rfl ?_
        refine x_run C 22 2 (pc' := 38) (lv' := [(5, .int (btO (plT sgA lfA rtA n (plM x n) i) (lfA i))), (0, .ref a0), (1, .int x), (2, .long (plT sgA lfA rtA n (plM x n) i)), (4, .int (nI i))]) (st' := [.ref a0]) rfl ?_
        refine x_get C 24 rfl fX1_9 N 0 rfl (v := .ref a1) rfl ?_
        refine x_run C 25 1 (pc' := 43) (lv' := [(5, .int (btO (plT sgA lfA rtA n (plM x n) i) (lfA i))), (0, .ref a0), (1, .int x), (2, .long (plT sgA lfA rtA n (plM x n) i)), (4, .int (nI i))]) (st' := [.int (nI i), .ref a1]) rfl ?_
        refine x_ialdN C 26 rfl N 1 rfl (by omega) (by omega) ?_
        refine x_run C 27 1 (pc' := 46) (lv' := [(5, .int (btO (plT sgA lfA rtA n (plM x n) i) (lfA i))), (0, .ref a0), (1, .int x), (2, .long (plT sgA lfA rtA n (plM x n) i)), (4, .int (nI i))]) (st' := [.int 33, .int (sgA i)]) rfl ?_
        refine x_icmp_ne C 28 rfl (tgt := 53) rfl (fun hc5 => ?_) (fun hc5 => ?_)
        · refine x_run C 31 2 (pc' := 55) (lv' := [(5, .int (btO (plT sgA lfA rtA n (plM x n) i) (lfA i))), (0, .ref a0), (1, .int x), (2, .long (plT sgA lfA rtA n (plM x n) i)), (4, .int (nI i))]) (st' := [.ref a0, .long (plT sgA lfA rtA n (plM x n) i)]) rfl ?_
          refine x_get C 33 rfl fX1_18 N 0 rfl (v := .ref a3) rfl ?_
          refine x_run C 34 1 (pc' := 60) (lv' := [(5, .int (btO (plT sgA lfA rtA n (plM x n) i) (lfA i))), (0, .ref a0), (1, .int x), (2, .long (plT sgA lfA rtA n (plM x n) i)), (4, .int (nI i))]) (st' := [.int (nI i), .ref a3, .long (plT sgA lfA rtA n (plM x n) i)]) rfl ?_
          refine x_ialdN C 35 rfl N 3 rfl (by omega) (by omega) ?_
          refine x_cs C 36 (As := [.long (plT sgA lfA rtA n (plM x n) i), .int (rtA i)]) (rest := []) rfl vX1_40 N (c_X1_bitOf Y _ (plT sgA lfA rtA n (plM x n) i) (rtA i)    ) rfl rfl (Nat.le_of_ble_eq_true rfl) ⟨Nat.le_of_ble_eq_true rfl, Nat.le_of_ble_eq_true rfl⟩ ⟨Nat.zero_le _, Nat.zero_le _⟩ [] trivial (os' := [(q0, (a0, cO 1 [.ref a1, .ref a2, .ref a3, .ref a4, .ref a5, .int (nI n), .int (nI g), .int (nI tb), .int (nI o)])), (q1, (a1, cI Y 40 sgA)), (q2, (a2, cI Y 40 lfA)), (q3, (a3, cI Y 40 rtA)), (q5, (a5, cI Y 8 ouA))]) rfl (st' := [.int (btO (plT sgA lfA rtA n (plM x n) i) (rtA i))]) rfl ?_
          refine x_run C 37 3 (pc' := 68) (lv' := [(6, .int (btO (plT sgA lfA rtA n (plM x n) i) (rtA i))), (5, .int (btO (plT sgA lfA rtA n (plM x n) i) (lfA i))), (0, .ref a0), (1, .int x), (2, .long (plT sgA lfA rtA n (plM x n) i)), (4, .int (nI i))]) (st' := [.ref a0, .long (plT sgA lfA rtA n (plM x n) i)]) rfl ?_
          refine x_get C 40 rfl fX1_9 N 0 rfl (v := .ref a1) rfl ?_
          refine x_run C 41 1 (pc' := 73) (lv' := [(6, .int (btO (plT sgA lfA rtA n (plM x n) i) (rtA i))), (5, .int (btO (plT sgA lfA rtA n (plM x n) i) (lfA i))), (0, .ref a0), (1, .int x), (2, .long (plT sgA lfA rtA n (plM x n) i)), (4, .int (nI i))]) (st' := [.int (nI i), .ref a1, .long (plT sgA lfA rtA n (plM x n) i)]) rfl ?_
          refine x_ialdN C 42 rfl N 1 rfl (by omega) (by omega) ?_
          refine x_run C 43 2 (pc' := 78) (lv' := [(6, .int (btO (plT sgA lfA rtA n (plM x n) i) (rtA i))), (5, .int (btO (plT sgA lfA rtA n (plM x n) i) (lfA i))), (0, .ref a0), (1, .int x), (2, .long (plT sgA lfA rtA n (plM x n) i)), (4, .int (nI i))]) (st' := [.int (btO (plT sgA lfA rtA n (plM x n) i) (rtA i)), .int (btO (plT sgA lfA rtA n (plM x n) i) (lfA i)), .int (sgA i), .long (plT sgA lfA rtA n (plM x n) i)]) rfl ?_
          refine x_cs C 45 (As := [.int (sgA i), .int (btO (plT sgA lfA rtA n (plM x n) i) (lfA i)), .int (btO (plT sgA lfA rtA n (plM x n) i) (rtA i))]) (rest := [.long (plT sgA lfA rtA n (plM x n) i)]) rfl vX1_44 N (c_X1_truthOf Y _ (sgA i) (btO (plT sgA lfA rtA n (plM x n) i) (lfA i)) (btO (plT sgA lfA rtA n (plM x n) i) (rtA i))    ) rfl rfl (Nat.le_of_ble_eq_true rfl) ⟨Nat.le_of_ble_eq_true rfl, Nat.le_of_ble_eq_true rfl⟩ ⟨Nat.zero_le _, Nat.zero_le _⟩ [] trivial (os' := [(q0, (a0, cO 1 [.ref a1, .ref a2, .ref a3, .ref a4, .ref a5, .int (nI n), .int (nI g), .int (nI tb), .int (nI o)])), (q1, (a1, cI Y 40 sgA)), (q2, (a2, cI Y 40 lfA)), (q3, (a3, cI Y 40 rtA)), (q5, (a5, cI Y 8 ouA))]) rfl (st' := [.int (trO (sgA i) (btO (plT sgA lfA rtA n (plM x n) i) (lfA i)) (btO (plT sgA lfA rtA n (plM x n) i) (rtA i))), .long (plT sgA lfA rtA n (plM x n) i)]) rfl ?_
          refine x_run C 46 2 (pc' := 83) (lv' := [(6, .int (btO (plT sgA lfA rtA n (plM x n) i) (rtA i))), (5, .int (btO (plT sgA lfA rtA n (plM x n) i) (lfA i))), (0, .ref a0), (1, .int x), (2, .long (plT sgA lfA rtA n (plM x n) i)), (4, .int (nI i))]) (st' := [.ref a0, .long ((trO (sgA i) (btO (plT sgA lfA rtA n (plM x n) i) (lfA i)) (btO (plT sgA lfA rtA n (plM x n) i) (rtA i))).toInt64), .long (plT sgA lfA rtA n (plM x n) i)]) rfl ?_
          refine x_get C 48 rfl fX1_27 N 0 rfl (v := .int (nI n)) rfl ?_
          refine x_run C 49 7 (pc' := 15) (lv' := [(4, .int ((nI i) + 1)), (2, .long ((plT sgA lfA rtA n (plM x n) i) ||| (jlshl ((trO (sgA i) (btO (plT sgA lfA rtA n (plM x n) i) (lfA i)) (btO (plT sgA lfA rtA n (plM x n) i) (rtA i))).toInt64) ((nI n) + (nI i))))), (6, .int (btO (plT sgA lfA rtA n (plM x n) i) (rtA i))), (5, .int (btO (plT sgA lfA rtA n (plM x n) i) (lfA i))), (0, .ref a0), (1, .int x)]) (st' := []) rfl ?_
          refine x_sub (lv' := [(0, .ref a0), (1, .int x), (2, .long ((plT sgA lfA rtA n (plM x n) i) ||| (jlshl ((trO (sgA i) (btO (plT sgA lfA rtA n (plM x n) i) (lfA i)) (btO (plT sgA lfA rtA n (plM x n) i) (rtA i))).toInt64) ((nI n) + (nI i))))), (4, .int ((nI i) + 1))]) [4, 5, 1, 0] rfl ?_
          refine x_loc (lv' := [(0, .ref a0), (1, .int x), (2, .long (plT sgA lfA rtA n (plM x n) (i + 1))), (4, .int (nI (i + 1)))]) (by simp only [plT, if_neg hc5]; simp only [nlit, nI_add, pk_mul]) ?_
          exact ih15 (by omega)
        · refine x_run C 29 2 (pc' := 64) (lv' := [(5, .int (btO (plT sgA lfA rtA n (plM x n) i) (lfA i))), (0, .ref a0), (1, .int x), (2, .long (plT sgA lfA rtA n (plM x n) i)), (4, .int (nI i))]) (st' := [.int 0]) rfl ?_
          refine x_run C 37 3 (pc' := 68) (lv' := [(6, .int 0), (5, .int (btO (plT sgA lfA rtA n (plM x n) i) (lfA i))), (0, .ref a0), (1, .int x), (2, .long (plT sgA lfA rtA n (plM x n) i)), (4, .int (nI i))]) (st' := [.ref a0, .long (plT sgA lfA rtA n (plM x n) i)]) rfl ?_
          refine x_get C 40 rfl fX1_9 N 0 rfl (v := .ref a1) rfl ?_
          refine x_run C 41 1 (pc' := 73) (lv' := [(6, .int 0), (5, .int (btO (plT sgA lfA rtA n (plM x n) i) (lfA i))), (0, .ref a0), (1, .int x), (2, .long (plT sgA lfA rtA n (plM x n) i)), (4, .int (nI i))]) (st' := [.int (nI i), .ref a1, .long (plT sgA lfA rtA n (plM x n) i)]) rfl ?_
          refine x_ialdN C 42 rfl N 1 rfl (by omega) (by omega) ?_
          refine x_run C 43 2 (pc' := 78) (lv' := [(6, .int 0), (5, .int (btO (plT sgA lfA rtA n (plM x n) i) (lfA i))), (0, .ref a0), (1, .int x), (2, .long (plT sgA lfA rtA n (plM x n) i)), (4, .int (nI i))]) (st' := [.int 0, .int (btO (plT sgA lfA rtA n (plM x n) i) (lfA i)), .int (sgA i), .long (plT sgA lfA rtA n (plM x n) i)]) rfl ?_
          refine x_cs C 45 (As := [.int (sgA i), .int (btO (plT sgA lfA rtA n (plM x n) i) (lfA i)), .int 0]) (rest := [.long (plT sgA lfA rtA n (plM x n) i)]) rfl vX1_44 N (c_X1_truthOf Y _ (sgA i) (btO (plT sgA lfA rtA n (plM x n) i) (lfA i)) 0    ) rfl rfl (Nat.le_of_ble_eq_true rfl) ⟨Nat.le_of_ble_eq_true rfl, Nat.le_of_ble_eq_true rfl⟩ ⟨Nat.zero_le _, Nat.zero_le _⟩ [] trivial (os' := [(q0, (a0, cO 1 [.ref a1, .ref a2, .ref a3, .ref a4, .ref a5, .int (nI n), .int (nI g), .int (nI tb), .int (nI o)])), (q1, (a1, cI Y 40 sgA)), (q2, (a2, cI Y 40 lfA)), (q3, (a3, cI Y 40 rtA)), (q5, (a5, cI Y 8 ouA))]) rfl (st' := [.int (trO (sgA i) (btO (plT sgA lfA rtA n (plM x n) i) (lfA i)) 0), .long (plT sgA lfA rtA n (plM x n) i)]) rfl ?_
          refine x_run C 46 2 (pc' := 83) (lv' := [(6, .int 0), (5, .int (btO (plT sgA lfA rtA n (plM x n) i) (lfA i))), (0, .ref a0), (1, .int x), (2, .long (plT sgA lfA rtA n (plM x n) i)), (4, .int (nI i))]) (st' := [.ref a0, .long ((trO (sgA i) (btO (plT sgA lfA rtA n (plM x n) i) (lfA i)) 0).toInt64), .long (plT sgA lfA rtA n (plM x n) i)]) rfl ?_
          refine x_get C 48 rfl fX1_27 N 0 rfl (v := .int (nI n)) rfl ?_
          refine x_run C 49 7 (pc' := 15) (lv' := [(4, .int ((nI i) + 1)), (2, .long ((plT sgA lfA rtA n (plM x n) i) ||| (jlshl ((trO (sgA i) (btO (plT sgA lfA rtA n (plM x n) i) (lfA i)) 0).toInt64) ((nI n) + (nI i))))), (6, .int 0), (5, .int (btO (plT sgA lfA rtA n (plM x n) i) (lfA i))), (0, .ref a0), (1, .int x)]) (st' := []) rfl ?_
          refine x_sub (lv' := [(0, .ref a0), (1, .int x), (2, .long ((plT sgA lfA rtA n (plM x n) i) ||| (jlshl ((trO (sgA i) (btO (plT sgA lfA rtA n (plM x n) i) (lfA i)) 0).toInt64) ((nI n) + (nI i))))), (4, .int ((nI i) + 1))]) [4, 5, 1, 0] rfl ?_
          refine x_loc (lv' := [(0, .ref a0), (1, .int x), (2, .long (plT sgA lfA rtA n (plM x n) (i + 1))), (4, .int (nI (i + 1)))]) (by simp only [plT, if_pos hc5]; simp only [nlit, nI_add, pk_mul]) ?_
          exact ih15 (by omega)
  refine x_sub (lv' := [(0, .ref a0), (1, .int x), (2, .long (x.toInt64 &&& ((jlshl 1 (nI n)) - 1))), (4, .int 0)]) [2, 3, 1, 0] rfl ?_
  refine x_loc (lv' := [(0, .ref a0), (1, .int x), (2, .long (plT sgA lfA rtA n (plM x n) 0)), (4, .int (nI 0))]) (by rfl) ?_
  exact L15 0 (Nat.le_refl _) (by omega)
