set_option maxHeartbeats 4000000 in
set_option maxRecDepth 100000 in
theorem c_X7_isByteOfLabel (Y : xD) (w : va_W) (j : Nat)    (hj : j < 16) : Cf Y mX7_isByteOfLabel 0 [.int (nI j)] w (some (.int 1)) [] := by
  refine Ct.intro (T := tX7_isByteOfLabel) (by decide) oX7_isByteOfLabel (Nat.le_of_ble_eq_true rfl) (fun G C B => ?_)
  have N : xN w.length (keys []) := xN_nil _
  refine x_lay [] lay_nil ?_
  refine x_run C 0 1 (pc' := 1) (lv' := [(0, .int (nI j))]) (st' := [.int (nI j)]) rfl ?_
  refine x_if_lt C 1 rfl (tgt := 14) rfl (fun hc1 => absurd hc1 (nI_pos (by omega))) (fun hc1 => ?_)
  refine x_run C 2 2 (pc' := 7) (lv' := [(0, .int (nI j))]) (st' := [.int 16, .int (nI j)]) rfl ?_
  refine x_st (st' := [.int (nI 16), .int (nI j)]) (by simp only [nlit, nI_add, pk_mul]) ?_
  refine x_icmpN_ge C 4 (by omega) (by omega) rfl (tgt := 14) rfl (fun hc2 => ?_) (fun hc2 => ?_)
  · exact absurd hc2 (by omega)
  · refine x_run C 5 2 (pc' := 15) (lv' := [(0, .int (nI j))]) (st' := [.int 1]) rfl ?_
    exact x_zret C B rfl 8 rfl (by first | exact Or.inl rfl | exact Or.inr rfl | decide) (Nat.zero_le _) (Nat.zero_le _) ⟨by first | contradiction | (simp only [nlit]; done) | (simp only [nlit]; simp only [nlit, nI_add, pk_mul]; done) | (simp only [nlit, nI_add, pk_mul]; done) | rfl | (simp only [nlit]; rfl) | (simp only [nlit, nI_add, pk_mul]; rfl), by first | contradiction | (simp only [nlit]; done) | (simp only [nlit]; simp only [nlit, nI_add, pk_mul]; done) | (simp only [nlit, nI_add, pk_mul]; done) | rfl | (simp only [nlit]; rfl) | (simp only [nlit, nI_add, pk_mul]; rfl)⟩
set_option maxHeartbeats 4000000 in
set_option maxRecDepth 100000 in
theorem c_X7_isByteOfLabelF (Y : xD) (w : va_W) (x : Int32)    (hx : x < 0 ∨ 16 ≤ x) : Cf Y mX7_isByteOfLabel 0 [.int x] w (some (.int 0)) [] := by
  refine Ct.intro (T := tX7_isByteOfLabel) (by decide) oX7_isByteOfLabel (Nat.le_of_ble_eq_true rfl) (fun G C B => ?_)
  have N : xN w.length (keys []) := xN_nil _
  refine x_lay [] lay_nil ?_
  refine x_run C 0 1 (pc' := 1) (lv' := [(0, .int x)]) (st' := [.int x]) rfl ?_
  refine x_if_lt C 1 rfl (tgt := 14) rfl (fun hc1 => ?_) (fun hc1 => ?_)
  · refine x_run C 7 1 (pc' := 15) (lv' := [(0, .int x)]) (st' := [.int 0]) rfl ?_
    exact x_zret C B rfl 8 rfl (by first | exact Or.inl rfl | exact Or.inr rfl | decide) (Nat.zero_le _) (Nat.zero_le _) ⟨by first | contradiction | (simp only [if_pos hc1]; done) | (simp only [if_pos hc1]; simp only [nlit, nI_add, pk_mul]; done) | (simp only [if_pos hc1, nlit, nI_add, pk_mul]; done) | rfl | (simp only [if_pos hc1]; rfl) | (simp only [if_pos hc1, nlit, nI_add, pk_mul]; rfl), by first | contradiction | (simp only [if_pos hc1]; done) | (simp only [if_pos hc1]; simp only [nlit, nI_add, pk_mul]; done) | (simp only [if_pos hc1, nlit, nI_add, pk_mul]; done) | rfl | (simp only [if_pos hc1]; rfl) | (simp only [if_pos hc1, nlit, nI_add, pk_mul]; rfl)⟩
  · refine x_run C 2 2 (pc' := 7) (lv' := [(0, .int x)]) (st' := [.int 16, .int x]) rfl ?_
    refine x_icmp_ge C 4 rfl (tgt := 14) rfl (fun hc2 => ?_) (fun hc2 => ?_)
    · refine x_run C 7 1 (pc' := 15) (lv' := [(0, .int x)]) (st' := [.int 0]) rfl ?_
      exact x_zret C B rfl 8 rfl (by first | exact Or.inl rfl | exact Or.inr rfl | decide) (Nat.zero_le _) (Nat.zero_le _) ⟨by first | contradiction | (simp only [if_neg hc1, if_pos hc2]; done) | (simp only [if_neg hc1, if_pos hc2]; simp only [nlit, nI_add, pk_mul]; done) | (simp only [if_neg hc1, if_pos hc2, nlit, nI_add, pk_mul]; done) | rfl | (simp only [if_neg hc1, if_pos hc2]; rfl) | (simp only [if_neg hc1, if_pos hc2, nlit, nI_add, pk_mul]; rfl), by first | contradiction | (simp only [if_neg hc1, if_pos hc2]; done) | (simp only [if_neg hc1, if_pos hc2]; simp only [nlit, nI_add, pk_mul]; done) | (simp only [if_neg hc1, if_pos hc2, nlit, nI_add, pk_mul]; done) | rfl | (simp only [if_neg hc1, if_pos hc2]; rfl) | (simp only [if_neg hc1, if_pos hc2, nlit, nI_add, pk_mul]; rfl)⟩
    · rcases hx with h | h <;> contradiction
set_option maxHeartbeats 4000000 in
set_option maxRecDepth 100000 in
theorem c_X7_isKind (Y : xD) (w : va_W) (j : Nat)    (hj : j < 5) : Cf Y mX7_isKind 0 [.int (nI j)] w (some (.int 1)) [] := by
  refine Ct.intro (T := tX7_isKind) (by decide) oX7_isKind (Nat.le_of_ble_eq_true rfl) (fun G C B => ?_)
  have N : xN w.length (keys []) := xN_nil _
  refine x_lay [] lay_nil ?_
  refine x_run C 0 1 (pc' := 1) (lv' := [(0, .int (nI j))]) (st' := [.int (nI j)]) rfl ?_
  refine x_if_lt C 1 rfl (tgt := 13) rfl (fun hc1 => absurd hc1 (nI_pos (by omega))) (fun hc1 => ?_)
  refine x_run C 2 2 (pc' := 6) (lv' := [(0, .int (nI j))]) (st' := [.int 4, .int (nI j)]) rfl ?_
  refine x_st (st' := [.int (nI 4), .int (nI j)]) (by simp only [nlit, nI_add, pk_mul]) ?_
  refine x_icmpN_gt C 4 (by omega) (by omega) rfl (tgt := 13) rfl (fun hc2 => ?_) (fun hc2 => ?_)
  · exact absurd hc2 (by omega)
  · refine x_run C 5 2 (pc' := 14) (lv' := [(0, .int (nI j))]) (st' := [.int 1]) rfl ?_
    exact x_zret C B rfl 8 rfl (by first | exact Or.inl rfl | exact Or.inr rfl | decide) (Nat.zero_le _) (Nat.zero_le _) ⟨by first | contradiction | (simp only [nlit]; done) | (simp only [nlit]; simp only [nlit, nI_add, pk_mul]; done) | (simp only [nlit, nI_add, pk_mul]; done) | rfl | (simp only [nlit]; rfl) | (simp only [nlit, nI_add, pk_mul]; rfl), by first | contradiction | (simp only [nlit]; done) | (simp only [nlit]; simp only [nlit, nI_add, pk_mul]; done) | (simp only [nlit, nI_add, pk_mul]; done) | rfl | (simp only [nlit]; rfl) | (simp only [nlit, nI_add, pk_mul]; rfl)⟩
set_option maxHeartbeats 4000000 in
set_option maxRecDepth 100000 in
theorem c_X7_isKindF (Y : xD) (w : va_W) (x : Int32)    (hx : x < 0 ∨ 4 < x) : Cf Y mX7_isKind 0 [.int x] w (some (.int 0)) [] := by
  refine Ct.intro (T := tX7_isKind) (by decide) oX7_isKind (Nat.le_of_ble_eq_true rfl) (fun G C B => ?_)
  have N : xN w.length (keys []) := xN_nil _
  refine x_lay [] lay_nil ?_
  refine x_run C 0 1 (pc' := 1) (lv' := [(0, .int x)]) (st' := [.int x]) rfl ?_
  refine x_if_lt C 1 rfl (tgt := 13) rfl (fun hc1 => ?_) (fun hc1 => ?_)
  · refine x_run C 7 1 (pc' := 14) (lv' := [(0, .int x)]) (st' := [.int 0]) rfl ?_
    exact x_zret C B rfl 8 rfl (by first | exact Or.inl rfl | exact Or.inr rfl | decide) (Nat.zero_le _) (Nat.zero_le _) ⟨by first | contradiction | (simp only [if_pos hc1]; done) | (simp only [if_pos hc1]; simp only [nlit, nI_add, pk_mul]; done) | (simp only [if_pos hc1, nlit, nI_add, pk_mul]; done) | rfl | (simp only [if_pos hc1]; rfl) | (simp only [if_pos hc1, nlit, nI_add, pk_mul]; rfl), by first | contradiction | (simp only [if_pos hc1]; done) | (simp only [if_pos hc1]; simp only [nlit, nI_add, pk_mul]; done) | (simp only [if_pos hc1, nlit, nI_add, pk_mul]; done) | rfl | (simp only [if_pos hc1]; rfl) | (simp only [if_pos hc1, nlit, nI_add, pk_mul]; rfl)⟩
  · refine x_run C 2 2 (pc' := 6) (lv' := [(0, .int x)]) (st' := [.int 4, .int x]) rfl ?_
    refine x_icmp_gt C 4 rfl (tgt := 13) rfl (fun hc2 => ?_) (fun hc2 => ?_)
    · refine x_run C 7 1 (pc' := 14) (lv' := [(0, .int x)]) (st' := [.int 0]) rfl ?_
      exact x_zret C B rfl 8 rfl (by first | exact Or.inl rfl | exact Or.inr rfl | decide) (Nat.zero_le _) (Nat.zero_le _) ⟨by first | contradiction | (simp only [if_neg hc1, if_pos hc2]; done) | (simp only [if_neg hc1, if_pos hc2]; simp only [nlit, nI_add, pk_mul]; done) | (simp only [if_neg hc1, if_pos hc2, nlit, nI_add, pk_mul]; done) | rfl | (simp only [if_neg hc1, if_pos hc2]; rfl) | (simp only [if_neg hc1, if_pos hc2, nlit, nI_add, pk_mul]; rfl), by first | contradiction | (simp only [if_neg hc1, if_pos hc2]; done) | (simp only [if_neg hc1, if_pos hc2]; simp only [nlit, nI_add, pk_mul]; done) | (simp only [if_neg hc1, if_pos hc2, nlit, nI_add, pk_mul]; done) | rfl | (simp only [if_neg hc1, if_pos hc2]; rfl) | (simp only [if_neg hc1, if_pos hc2, nlit, nI_add, pk_mul]; rfl)⟩
    · rcases hx with h | h <;> contradiction
set_option maxHeartbeats 4000000 in
set_option maxRecDepth 100000 in
theorem c_X7_isTruth (Y : xD) (w : va_W) (j : Nat)    (hj : j < 2) : Cf Y mX7_isTruth 0 [.int (nI j)] w (some (.int 1)) [] := by
  refine Ct.intro (T := tX7_isTruth) (by decide) oX7_isTruth (Nat.le_of_ble_eq_true rfl) (fun G C B => ?_)
  have N : xN w.length (keys []) := xN_nil _
  refine x_lay [] lay_nil ?_
  refine x_run C 0 1 (pc' := 1) (lv' := [(0, .int (nI j))]) (st' := [.int (nI j)]) rfl ?_
  refine x_ifN_eq C 1 (by omega) rfl (tgt := 9) rfl (fun hc1 => ?_) (fun hc1 => ?_)
  · refine x_run C 5 2 (pc' := 14) (lv' := [(0, .int (nI j))]) (st' := [.int 1]) rfl ?_
    exact x_zret C B rfl 8 rfl (by first | exact Or.inl rfl | exact Or.inr rfl | decide) (Nat.zero_le _) (Nat.zero_le _) ⟨by first | contradiction | (simp only [if_pos hc1]; done) | (simp only [if_pos hc1]; simp only [nlit, nI_add, pk_mul]; done) | (simp only [if_pos hc1, nlit, nI_add, pk_mul]; done) | rfl | (simp only [if_pos hc1]; rfl) | (simp only [if_pos hc1, nlit, nI_add, pk_mul]; rfl), by first | contradiction | (simp only [if_pos hc1]; done) | (simp only [if_pos hc1]; simp only [nlit, nI_add, pk_mul]; done) | (simp only [if_pos hc1, nlit, nI_add, pk_mul]; done) | rfl | (simp only [if_pos hc1]; rfl) | (simp only [if_pos hc1, nlit, nI_add, pk_mul]; rfl)⟩
  · refine x_run C 2 2 (pc' := 6) (lv' := [(0, .int (nI j))]) (st' := [.int 1, .int (nI j)]) rfl ?_
    refine x_st (st' := [.int (nI 1), .int (nI j)]) (by simp only [nlit, nI_add, pk_mul]) ?_
    refine x_icmpN_ne C 4 (by omega) (by omega) rfl (tgt := 13) rfl (fun hc2 => ?_) (fun hc2 => ?_)
    · exact absurd hc2 (by omega)
    · refine x_run C 5 2 (pc' := 14) (lv' := [(0, .int (nI j))]) (st' := [.int 1]) rfl ?_
      exact x_zret C B rfl 8 rfl (by first | exact Or.inl rfl | exact Or.inr rfl | decide) (Nat.zero_le _) (Nat.zero_le _) ⟨by first | contradiction | (simp only [if_neg hc1, if_pos hc2]; done) | (simp only [if_neg hc1, if_pos hc2]; simp only [nlit, nI_add, pk_mul]; done) | (simp only [if_neg hc1, if_pos hc2, nlit, nI_add, pk_mul]; done) | rfl | (simp only [if_neg hc1, if_pos hc2]; rfl) | (simp only [if_neg hc1, if_pos hc2, nlit, nI_add, pk_mul]; rfl), by first | contradiction | (simp only [if_neg hc1, if_pos hc2]; done) | (simp only [if_neg hc1, if_pos hc2]; simp only [nlit, nI_add, pk_mul]; done) | (simp only [if_neg hc1, if_pos hc2, nlit, nI_add, pk_mul]; done) | rfl | (simp only [if_neg hc1, if_pos hc2]; rfl) | (simp only [if_neg hc1, if_pos hc2, nlit, nI_add, pk_mul]; rfl)⟩
set_option maxHeartbeats 4000000 in
set_option maxRecDepth 100000 in
theorem c_X7_isTruthF (Y : xD) (w : va_W) (x : Int32)    (h0 : ¬ x = 0) (h1 : ¬ x = 1) : Cf Y mX7_isTruth 0 [.int x] w (some (.int 0)) [] := by
  refine Ct.intro (T := tX7_isTruth) (by decide) oX7_isTruth (Nat.le_of_ble_eq_true rfl) (fun G C B => ?_)
  have N : xN w.length (keys []) := xN_nil _
  refine x_lay [] lay_nil ?_
  refine x_run C 0 1 (pc' := 1) (lv' := [(0, .int x)]) (st' := [.int x]) rfl ?_
  refine x_if_eq C 1 rfl (tgt := 9) rfl (fun hc1 => ?_) (fun hc1 => ?_)
  · exact absurd hc1 h0
  · refine x_run C 2 2 (pc' := 6) (lv' := [(0, .int x)]) (st' := [.int 1, .int x]) rfl ?_
    refine x_icmp_ne C 4 rfl (tgt := 13) rfl (fun hc2 => ?_) (fun hc2 => ?_)
    · refine x_run C 7 1 (pc' := 14) (lv' := [(0, .int x)]) (st' := [.int 0]) rfl ?_
      exact x_zret C B rfl 8 rfl (by first | exact Or.inl rfl | exact Or.inr rfl | decide) (Nat.zero_le _) (Nat.zero_le _) ⟨by first | contradiction | (simp only [if_neg hc1, if_neg hc2]; done) | (simp only [if_neg hc1, if_neg hc2]; simp only [nlit, nI_add, pk_mul]; done) | (simp only [if_neg hc1, if_neg hc2, nlit, nI_add, pk_mul]; done) | rfl | (simp only [if_neg hc1, if_neg hc2]; rfl) | (simp only [if_neg hc1, if_neg hc2, nlit, nI_add, pk_mul]; rfl), by first | contradiction | (simp only [if_neg hc1, if_neg hc2]; done) | (simp only [if_neg hc1, if_neg hc2]; simp only [nlit, nI_add, pk_mul]; done) | (simp only [if_neg hc1, if_neg hc2, nlit, nI_add, pk_mul]; done) | rfl | (simp only [if_neg hc1, if_neg hc2]; rfl) | (simp only [if_neg hc1, if_neg hc2, nlit, nI_add, pk_mul]; rfl)⟩
    · exact absurd hc2 h1
set_option maxHeartbeats 4000000 in
set_option maxRecDepth 100000 in
theorem c_X7_status (Y : xD) (w : va_W) (o0 : Nat) (t0 : Nat) (r_0 : Nat) (i0 : Nat) (x0 : Nat) (h_0 : Nat) (s_0 : Nat) (k0 : Nat) (k1 : Nat) (cc : Nat) (gc : Nat) (ps : Int32) (qo0 : Nat) (e0 : w[qo0]? = some (o0, cO 7 [.ref t0, .ref r_0, .ref i0, .ref x0, .ref h_0, .ref s_0, .ref k0, .ref k1, .int (nI cc), .int (nI gc), .int ps])) (N : xN w.length [qo0])  : Cf Y mX7_status 0 [.ref o0] w (some (.int ps)) [(qo0, (o0, cO 7 [.ref t0, .ref r_0, .ref i0, .ref x0, .ref h_0, .ref s_0, .ref k0, .ref k1, .int (nI cc), .int (nI gc), .int ps]))] := by
  refine Ct.intro (T := tX7_status) (by decide) oX7_status (Nat.le_of_ble_eq_true rfl) (fun G C B => ?_)
  refine x_lay [(qo0, (o0, cO 7 [.ref t0, .ref r_0, .ref i0, .ref x0, .ref h_0, .ref s_0, .ref k0, .ref k1, .int (nI cc), .int (nI gc), .int ps]))] (lay_cons e0 lay_nil) ?_
  refine x_run C 0 1 (pc' := 1) (lv' := [(0, .ref o0)]) (st' := [.ref o0]) rfl ?_
  refine x_get C 1 rfl fX7_281 N 0 rfl (v := .int ps) rfl ?_
  exact x_iret C B rfl 2 rfl (Nat.zero_le _) (Nat.zero_le _) ⟨by first | rfl | (simp only [nlit, nI_add, pk_mul]; done), by first | rfl | (simp only [nlit, nI_add, pk_mul]; done)⟩
set_option maxHeartbeats 4000000 in
set_option maxRecDepth 100000 in
theorem c_X7_refusePlace (Y : xD) (w : va_W) (o0 : Nat) (t0 : Nat) (r_0 : Nat) (i0 : Nat) (x0 : Nat) (h_0 : Nat) (s_0 : Nat) (k0 : Nat) (k1 : Nat) (cc : Nat) (gc : Nat) (ps : Int32) (x : Int32) (qo0 : Nat) (e0 : w[qo0]? = some (o0, cO 7 [.ref t0, .ref r_0, .ref i0, .ref x0, .ref h_0, .ref s_0, .ref k0, .ref k1, .int (nI cc), .int (nI gc), .int ps])) (N : xN w.length [qo0])  : Cf Y mX7_refusePlace 0 [.ref o0, .int x] w (some (.long 0)) [(qo0, (o0, cO 7 [.ref t0, .ref r_0, .ref i0, .ref x0, .ref h_0, .ref s_0, .ref k0, .ref k1, .int (nI cc), .int (nI gc), .int x]))] := by
  refine Ct.intro (T := tX7_refusePlace) (by decide) oX7_refusePlace (Nat.le_of_ble_eq_true rfl) (fun G C B => ?_)
  refine x_lay [(qo0, (o0, cO 7 [.ref t0, .ref r_0, .ref i0, .ref x0, .ref h_0, .ref s_0, .ref k0, .ref k1, .int (nI cc), .int (nI gc), .int ps]))] (lay_cons e0 lay_nil) ?_
  refine x_run C 0 2 (pc' := 2) (lv' := [(0, .ref o0), (1, .int x)]) (st' := [.int x, .ref o0]) rfl ?_
  refine x_put C 2 rfl pX7_281 N 0 rfl rfl rfl (Nat.le_of_ble_eq_true rfl) (os' := [(qo0, (o0, cO 7 [.ref t0, .ref r_0, .ref i0, .ref x0, .ref h_0, .ref s_0, .ref k0, .ref k1, .int (nI cc), .int (nI gc), .int x]))]) rfl ?_
  refine x_run C 3 1 (pc' := 6) (lv' := [(0, .ref o0), (1, .int x)]) (st' := [.long 0]) rfl ?_
  exact x_lret C B rfl 4 rfl (Nat.zero_le _) (Nat.zero_le _) ⟨by first | rfl | (simp only [nlit, nI_add, pk_mul]; done), by first | rfl | (simp only [nlit, nI_add, pk_mul]; done)⟩
def cntR (x : Int32) (sz cc gc : Nat) (bn : Int32) : Int32 := if x = 0 then nI sz else if x = 1 then nI cc else if x = 2 then nI gc else if x = 3 then bn else -1
set_option maxHeartbeats 4000000 in
set_option maxRecDepth 100000 in
theorem c_X7_count (Y : xD) (w : va_W) (o0 : Nat) (t0 : Nat) (r_0 : Nat) (i0 : Nat) (x0 : Nat) (h_0 : Nat) (s_0 : Nat) (k0 : Nat) (k1 : Nat) (cc : Nat) (gc : Nat) (ps : Int32) (t1 : Nat) (sz : Nat) (i1 : Nat) (h0 : Int64) (l0 : Int64) (bn : Int32) (x : Int32) (qo0 qt0 qi0 : Nat) (e0 : w[qo0]? = some (o0, cO 7 [.ref t0, .ref r_0, .ref i0, .ref x0, .ref h_0, .ref s_0, .ref k0, .ref k1, .int (nI cc), .int (nI gc), .int ps])) (e1 : w[qt0]? = some (t0, cO 6 [.ref t1, .int (nI sz)])) (e2 : w[qi0]? = some (i0, cO 0 [.ref i1, .long h0, .long l0, .int bn])) (N : xN w.length [qo0, qt0, qi0])  : Cf Y mX7_count 0 [.ref o0, .int x] w (some (.int (cntR x sz cc gc bn))) [(qo0, (o0, cO 7 [.ref t0, .ref r_0, .ref i0, .ref x0, .ref h_0, .ref s_0, .ref k0, .ref k1, .int (nI cc), .int (nI gc), .int ps])), (qt0, (t0, cO 6 [.ref t1, .int (nI sz)])), (qi0, (i0, cO 0 [.ref i1, .long h0, .long l0, .int bn]))] := by
  refine Ct.intro (T := tX7_count) (by decide) oX7_count (Nat.le_of_ble_eq_true rfl) (fun G C B => ?_)
  refine x_lay [(qo0, (o0, cO 7 [.ref t0, .ref r_0, .ref i0, .ref x0, .ref h_0, .ref s_0, .ref k0, .ref k1, .int (nI cc), .int (nI gc), .int ps])), (qt0, (t0, cO 6 [.ref t1, .int (nI sz)])), (qi0, (i0, cO 0 [.ref i1, .long h0, .long l0, .int bn]))] (lay_cons e0 (lay_cons e1 (lay_cons e2 lay_nil))) ?_
  refine x_run C 0 1 (pc' := 1) (lv' := [(0, .ref o0), (1, .int x)]) (st' := [.int x]) rfl ?_
  by_cases hs1 : x = 0
  · refine x_tin C 1 rfl (by rw [hs1]; decide) (by rw [hs1]; decide) (off := 31) (by rw [hs1]; rfl) (tgt := 32) rfl ?_
    refine x_run C 2 1 (pc' := 33) (lv' := [(0, .ref o0), (1, .int x)]) (st' := [.ref o0]) rfl ?_
    refine x_get C 3 rfl fX7_10 N 0 rfl (v := .ref t0) rfl ?_
    refine x_get C 4 rfl fX7_70 N 1 rfl (v := .int (nI sz)) rfl ?_
    exact x_iret C B rfl 5 rfl (Nat.zero_le _) (Nat.zero_le _) ⟨by first | contradiction | (simp only [cntR, if_pos hs1]; done) | (simp only [cntR, if_pos hs1]; simp only [nlit, nI_add, pk_mul]; done) | (simp only [cntR, if_pos hs1, nlit, nI_add, pk_mul]; done) | rfl | (simp only [cntR, if_pos hs1]; rfl) | (simp only [cntR, if_pos hs1, nlit, nI_add, pk_mul]; rfl), by first | contradiction | (simp only [cntR, if_pos hs1]; done) | (simp only [cntR, if_pos hs1]; simp only [nlit, nI_add, pk_mul]; done) | (simp only [cntR, if_pos hs1, nlit, nI_add, pk_mul]; done) | rfl | (simp only [cntR, if_pos hs1]; rfl) | (simp only [cntR, if_pos hs1, nlit, nI_add, pk_mul]; rfl)⟩
  by_cases hs2 : x = 1
  · refine x_tin C 1 rfl (by rw [hs2]; decide) (by rw [hs2]; decide) (off := 39) (by rw [hs2]; rfl) (tgt := 40) rfl ?_
    refine x_run C 6 1 (pc' := 41) (lv' := [(0, .ref o0), (1, .int x)]) (st' := [.ref o0]) rfl ?_
    refine x_get C 7 rfl fX7_120 N 0 rfl (v := .int (nI cc)) rfl ?_
    exact x_iret C B rfl 8 rfl (Nat.zero_le _) (Nat.zero_le _) ⟨by first | contradiction | (simp only [cntR, if_neg hs1, if_pos hs2]; done) | (simp only [cntR, if_neg hs1, if_pos hs2]; simp only [nlit, nI_add, pk_mul]; done) | (simp only [cntR, if_neg hs1, if_pos hs2, nlit, nI_add, pk_mul]; done) | rfl | (simp only [cntR, if_neg hs1, if_pos hs2]; rfl) | (simp only [cntR, if_neg hs1, if_pos hs2, nlit, nI_add, pk_mul]; rfl), by first | contradiction | (simp only [cntR, if_neg hs1, if_pos hs2]; done) | (simp only [cntR, if_neg hs1, if_pos hs2]; simp only [nlit, nI_add, pk_mul]; done) | (simp only [cntR, if_neg hs1, if_pos hs2, nlit, nI_add, pk_mul]; done) | rfl | (simp only [cntR, if_neg hs1, if_pos hs2]; rfl) | (simp only [cntR, if_neg hs1, if_pos hs2, nlit, nI_add, pk_mul]; rfl)⟩
  by_cases hs3 : x = 2
  · refine x_tin C 1 rfl (by rw [hs3]; decide) (by rw [hs3]; decide) (off := 44) (by rw [hs3]; rfl) (tgt := 45) rfl ?_
    refine x_run C 9 1 (pc' := 46) (lv' := [(0, .ref o0), (1, .int x)]) (st' := [.ref o0]) rfl ?_
    refine x_get C 10 rfl fX7_78 N 0 rfl (v := .int (nI gc)) rfl ?_
    exact x_iret C B rfl 11 rfl (Nat.zero_le _) (Nat.zero_le _) ⟨by first | contradiction | (simp only [cntR, if_neg hs1, if_neg hs2, if_pos hs3]; done) | (simp only [cntR, if_neg hs1, if_neg hs2, if_pos hs3]; simp only [nlit, nI_add, pk_mul]; done) | (simp only [cntR, if_neg hs1, if_neg hs2, if_pos hs3, nlit, nI_add, pk_mul]; done) | rfl | (simp only [cntR, if_neg hs1, if_neg hs2, if_pos hs3]; rfl) | (simp only [cntR, if_neg hs1, if_neg hs2, if_pos hs3, nlit, nI_add, pk_mul]; rfl), by first | contradiction | (simp only [cntR, if_neg hs1, if_neg hs2, if_pos hs3]; done) | (simp only [cntR, if_neg hs1, if_neg hs2, if_pos hs3]; simp only [nlit, nI_add, pk_mul]; done) | (simp only [cntR, if_neg hs1, if_neg hs2, if_pos hs3, nlit, nI_add, pk_mul]; done) | rfl | (simp only [cntR, if_neg hs1, if_neg hs2, if_pos hs3]; rfl) | (simp only [cntR, if_neg hs1, if_neg hs2, if_pos hs3, nlit, nI_add, pk_mul]; rfl)⟩
  by_cases hs4 : x = 3
  · refine x_tin C 1 rfl (by rw [hs4]; decide) (by rw [hs4]; decide) (off := 49) (by rw [hs4]; rfl) (tgt := 50) rfl ?_
    refine x_run C 12 1 (pc' := 51) (lv' := [(0, .ref o0), (1, .int x)]) (st' := [.ref o0]) rfl ?_
    refine x_get C 13 rfl fX7_28 N 0 rfl (v := .ref i0) rfl ?_
    refine x_get C 14 rfl fX7_178 N 2 rfl (v := .int bn) rfl ?_
    exact x_iret C B rfl 15 rfl (Nat.zero_le _) (Nat.zero_le _) ⟨by first | contradiction | (simp only [cntR, if_neg hs1, if_neg hs2, if_neg hs3, if_pos hs4]; done) | (simp only [cntR, if_neg hs1, if_neg hs2, if_neg hs3, if_pos hs4]; simp only [nlit, nI_add, pk_mul]; done) | (simp only [cntR, if_neg hs1, if_neg hs2, if_neg hs3, if_pos hs4, nlit, nI_add, pk_mul]; done) | rfl | (simp only [cntR, if_neg hs1, if_neg hs2, if_neg hs3, if_pos hs4]; rfl) | (simp only [cntR, if_neg hs1, if_neg hs2, if_neg hs3, if_pos hs4, nlit, nI_add, pk_mul]; rfl), by first | contradiction | (simp only [cntR, if_neg hs1, if_neg hs2, if_neg hs3, if_pos hs4]; done) | (simp only [cntR, if_neg hs1, if_neg hs2, if_neg hs3, if_pos hs4]; simp only [nlit, nI_add, pk_mul]; done) | (simp only [cntR, if_neg hs1, if_neg hs2, if_neg hs3, if_pos hs4, nlit, nI_add, pk_mul]; done) | rfl | (simp only [cntR, if_neg hs1, if_neg hs2, if_neg hs3, if_pos hs4]; rfl) | (simp only [cntR, if_neg hs1, if_neg hs2, if_neg hs3, if_pos hs4, nlit, nI_add, pk_mul]; rfl)⟩
  refine x_tout C 1 rfl (by have hs1_ := lv_neT (a := 0) hs1 rfl; have hs2_ := lv_neT (a := 1) hs2 rfl; have hs3_ := lv_neT (a := 2) hs3 rfl; have hs4_ := lv_neT (a := 3) hs4 rfl; omega) (tgt := 58) rfl ?_
  refine x_run C 16 1 (pc' := 59) (lv' := [(0, .ref o0), (1, .int x)]) (st' := [.int (-1)]) rfl ?_
  exact x_iret C B rfl 17 rfl (Nat.zero_le _) (Nat.zero_le _) ⟨by first | contradiction | (simp only [cntR, if_neg hs1, if_neg hs2, if_neg hs3, if_neg hs4]; done) | (simp only [cntR, if_neg hs1, if_neg hs2, if_neg hs3, if_neg hs4]; simp only [nlit, nI_add, pk_mul]; done) | (simp only [cntR, if_neg hs1, if_neg hs2, if_neg hs3, if_neg hs4, nlit, nI_add, pk_mul]; done) | rfl | (simp only [cntR, if_neg hs1, if_neg hs2, if_neg hs3, if_neg hs4]; rfl) | (simp only [cntR, if_neg hs1, if_neg hs2, if_neg hs3, if_neg hs4, nlit, nI_add, pk_mul]; rfl), by first | contradiction | (simp only [cntR, if_neg hs1, if_neg hs2, if_neg hs3, if_neg hs4]; done) | (simp only [cntR, if_neg hs1, if_neg hs2, if_neg hs3, if_neg hs4]; simp only [nlit, nI_add, pk_mul]; done) | (simp only [cntR, if_neg hs1, if_neg hs2, if_neg hs3, if_neg hs4, nlit, nI_add, pk_mul]; done) | rfl | (simp only [cntR, if_neg hs1, if_neg hs2, if_neg hs3, if_neg hs4]; rfl) | (simp only [cntR, if_neg hs1, if_neg hs2, if_neg hs3, if_neg hs4, nlit, nI_add, pk_mul]; rfl)⟩
set_option maxHeartbeats 4000000 in
set_option maxRecDepth 100000 in
theorem c_X7_clear (Y : xD) (w : va_W) (o0 : Nat) (t0 : Nat) (r_0 : Nat) (i0 : Nat) (x0 : Nat) (h_0 : Nat) (s_0 : Nat) (k0 : Nat) (k1 : Nat) (cc : Nat) (gc : Nat) (ps : Int32) (t1 : Nat) (sz : Nat) (qo0 qt0 : Nat) (e0 : w[qo0]? = some (o0, cO 7 [.ref t0, .ref r_0, .ref i0, .ref x0, .ref h_0, .ref s_0, .ref k0, .ref k1, .int (nI cc), .int (nI gc), .int ps])) (e1 : w[qt0]? = some (t0, cO 6 [.ref t1, .int (nI sz)])) (N : xN w.length [qo0, qt0])  : Cf Y mX7_clear 1 [.ref o0] w (some (.int (nI sz))) [(qo0, (o0, cO 7 [.ref t0, .ref r_0, .ref i0, .ref x0, .ref h_0, .ref s_0, .ref k0, .ref k1, .int (nI cc), .int (nI gc), .int ps])), (qt0, (t0, cO 6 [.ref t1, .int 0]))] := by
  refine Ct.intro (T := tX7_clear) (by decide) oX7_clear (Nat.le_of_ble_eq_true rfl) (fun G C B => ?_)
  refine x_lay [(qo0, (o0, cO 7 [.ref t0, .ref r_0, .ref i0, .ref x0, .ref h_0, .ref s_0, .ref k0, .ref k1, .int (nI cc), .int (nI gc), .int ps])), (qt0, (t0, cO 6 [.ref t1, .int (nI sz)]))] (lay_cons e0 (lay_cons e1 lay_nil)) ?_
  refine x_run C 0 1 (pc' := 1) (lv' := [(0, .ref o0)]) (st' := [.ref o0]) rfl ?_
  refine x_get C 1 rfl fX7_10 N 0 rfl (v := .ref t0) rfl ?_
  refine x_cv C 2 (As := []) (rest := []) rfl vX7_74 N 1 rfl rfl (c_X6_useUp Y _ t0 t1 sz qt0 (ovl_at 1 N rfl) (N.ov [1] (by decide) rfl) ) rfl rfl (Nat.le_of_ble_eq_true rfl) ⟨Nat.le_of_ble_eq_true rfl, Nat.le_of_ble_eq_true rfl⟩ ⟨Nat.zero_le _, Nat.zero_le _⟩ [1] ⟨rfl, trivial⟩ (os' := [(qo0, (o0, cO 7 [.ref t0, .ref r_0, .ref i0, .ref x0, .ref h_0, .ref s_0, .ref k0, .ref k1, .int (nI cc), .int (nI gc), .int ps])), (qt0, (t0, cO 6 [.ref t1, .int 0]))]) rfl (st' := [.int (nI sz)]) rfl ?_
  exact x_iret C B rfl 3 rfl (Nat.zero_le _) (Nat.zero_le _) ⟨by first | rfl | (simp only [nlit, nI_add, pk_mul]; done), by first | rfl | (simp only [nlit, nI_add, pk_mul]; done)⟩
set_option maxHeartbeats 4000000 in
set_option maxRecDepth 100000 in
theorem c_X7_feedB (Y : xD) (w : va_W) (o0 : Nat) (t0 : Nat) (r_0 : Nat) (i0 : Nat) (x0 : Nat) (h_0 : Nat) (s_0 : Nat) (k0 : Nat) (k1 : Nat) (cc : Nat) (gc : Nat) (ps : Int32) (t1 : Nat) (sz : Nat) (tp : Nat → Nat) (v : Int64) (x : Int32) (qo0 qt0 qt1 : Nat) (e0 : w[qo0]? = some (o0, cO 7 [.ref t0, .ref r_0, .ref i0, .ref x0, .ref h_0, .ref s_0, .ref k0, .ref k1, .int (nI cc), .int (nI gc), .int ps])) (e1 : w[qt0]? = some (t0, cO 6 [.ref t1, .int (nI sz)])) (e2 : w[qt1]? = some (t1, cB Y 4000 (bF tp))) (N : xN w.length [qo0, qt0, qt1]) (hx : x < 1 ∨ ¬ x ≤ 8) : Cf Y mX7_feed 1 [.ref o0, .long v, .int x] w (some (.int (-1))) [(qo0, (o0, cO 7 [.ref t0, .ref r_0, .ref i0, .ref x0, .ref h_0, .ref s_0, .ref k0, .ref k1, .int (nI cc), .int (nI gc), .int ps])), (qt0, (t0, cO 6 [.ref t1, .int (nI sz)])), (qt1, (t1, cB Y 4000 (bF tp)))] := by
  refine Ct.intro (T := tX7_feed) (by decide) oX7_feed (Nat.le_of_ble_eq_true rfl) (fun G C B => ?_)
  refine x_lay [(qo0, (o0, cO 7 [.ref t0, .ref r_0, .ref i0, .ref x0, .ref h_0, .ref s_0, .ref k0, .ref k1, .int (nI cc), .int (nI gc), .int ps])), (qt0, (t0, cO 6 [.ref t1, .int (nI sz)])), (qt1, (t1, cB Y 4000 (bF tp)))] (lay_cons e0 (lay_cons e1 (lay_cons e2 lay_nil))) ?_
  refine x_run C 0 2 (pc' := 2) (lv' := [(0, .ref o0), (1, .long v), (3, .int x)]) (st' := [.int 1, .int x]) rfl ?_
  refine x_icmp_lt C 2 rfl (tgt := 11) rfl (fun hc1 => ?_) (fun hc1 => ?_)
  · refine x_run C 6 1 (pc' := 12) (lv' := [(0, .ref o0), (1, .long v), (3, .int x)]) (st' := [.int (-1)]) rfl ?_
    exact x_iret C B rfl 7 rfl (Nat.zero_le _) (Nat.zero_le _) ⟨by first | contradiction | (simp only [if_pos hc1]; done) | (simp only [if_pos hc1]; simp only [nlit, nI_add, pk_mul]; done) | (simp only [if_pos hc1, nlit, nI_add, pk_mul]; done) | rfl | (simp only [if_pos hc1]; rfl) | (simp only [if_pos hc1, nlit, nI_add, pk_mul]; rfl), by first | contradiction | (simp only [if_pos hc1]; done) | (simp only [if_pos hc1]; simp only [nlit, nI_add, pk_mul]; done) | (simp only [if_pos hc1, nlit, nI_add, pk_mul]; done) | rfl | (simp only [if_pos hc1]; rfl) | (simp only [if_pos hc1, nlit, nI_add, pk_mul]; rfl)⟩
  · refine x_run C 3 2 (pc' := 8) (lv' := [(0, .ref o0), (1, .long v), (3, .int x)]) (st' := [.int 8, .int x]) rfl ?_
    refine x_icmp_le C 5 rfl (tgt := 13) rfl (fun hc2 => ?_) (fun hc2 => ?_)
    · rcases hx with h | h <;> contradiction
    · refine x_run C 6 1 (pc' := 12) (lv' := [(0, .ref o0), (1, .long v), (3, .int x)]) (st' := [.int (-1)]) rfl ?_
      exact x_iret C B rfl 7 rfl (Nat.zero_le _) (Nat.zero_le _) ⟨by first | contradiction | (simp only [if_neg hc1, if_neg hc2]; done) | (simp only [if_neg hc1, if_neg hc2]; simp only [nlit, nI_add, pk_mul]; done) | (simp only [if_neg hc1, if_neg hc2, nlit, nI_add, pk_mul]; done) | rfl | (simp only [if_neg hc1, if_neg hc2]; rfl) | (simp only [if_neg hc1, if_neg hc2, nlit, nI_add, pk_mul]; rfl), by first | contradiction | (simp only [if_neg hc1, if_neg hc2]; done) | (simp only [if_neg hc1, if_neg hc2]; simp only [nlit, nI_add, pk_mul]; done) | (simp only [if_neg hc1, if_neg hc2, nlit, nI_add, pk_mul]; done) | rfl | (simp only [if_neg hc1, if_neg hc2]; rfl) | (simp only [if_neg hc1, if_neg hc2, nlit, nI_add, pk_mul]; rfl)⟩
set_option maxHeartbeats 4000000 in
set_option maxRecDepth 100000 in
theorem c_X7_feed (Y : xD) (w : va_W) (o0 : Nat) (t0 : Nat) (r_0 : Nat) (i0 : Nat) (x0 : Nat) (h_0 : Nat) (s_0 : Nat) (k0 : Nat) (k1 : Nat) (cc : Nat) (gc : Nat) (ps : Int32) (t1 : Nat) (sz : Nat) (tp : Nat → Nat) (v : Int64) (n : Nat) (qo0 qt0 qt1 : Nat) (e0 : w[qo0]? = some (o0, cO 7 [.ref t0, .ref r_0, .ref i0, .ref x0, .ref h_0, .ref s_0, .ref k0, .ref k1, .int (nI cc), .int (nI gc), .int ps])) (e1 : w[qt0]? = some (t0, cO 6 [.ref t1, .int (nI sz)])) (e2 : w[qt1]? = some (t1, cB Y 4000 (bF tp))) (N : xN w.length [qo0, qt0, qt1]) (hs : sz ≤ 4000) (h1 : 1 ≤ n) (h8 : n ≤ 8) (hf : sz + n ≤ 4000) : Cf Y mX7_feed 1 [.ref o0, .long v, .int (nI n)] w (some (.int (nI (sz + n)))) [(qo0, (o0, cO 7 [.ref t0, .ref r_0, .ref i0, .ref x0, .ref h_0, .ref s_0, .ref k0, .ref k1, .int (nI cc), .int (nI gc), .int ps])), (qt0, (t0, cO 6 [.ref t1, .int (nI (sz + n))])), (qt1, (t1, cB Y 4000 (bF (tapp tp sz v n n))))] := by
  refine Ct.intro (T := tX7_feed) (by decide) oX7_feed (Nat.le_of_ble_eq_true rfl) (fun G C B => ?_)
  refine x_lay [(qo0, (o0, cO 7 [.ref t0, .ref r_0, .ref i0, .ref x0, .ref h_0, .ref s_0, .ref k0, .ref k1, .int (nI cc), .int (nI gc), .int ps])), (qt0, (t0, cO 6 [.ref t1, .int (nI sz)])), (qt1, (t1, cB Y 4000 (bF tp)))] (lay_cons e0 (lay_cons e1 (lay_cons e2 lay_nil))) ?_
  refine x_run C 0 2 (pc' := 2) (lv' := [(0, .ref o0), (1, .long v), (3, .int (nI n))]) (st' := [.int 1, .int (nI n)]) rfl ?_
  refine x_st (st' := [.int (nI 1), .int (nI n)]) (by simp only [nlit, nI_add, pk_mul]) ?_
  refine x_icmpN_lt C 2 (by omega) (by omega) rfl (tgt := 11) rfl (fun hc1 => ?_) (fun hc1 => ?_)
  · exact absurd hc1 (by omega)
  · refine x_run C 3 2 (pc' := 8) (lv' := [(0, .ref o0), (1, .long v), (3, .int (nI n))]) (st' := [.int 8, .int (nI n)]) rfl ?_
    refine x_st (st' := [.int (nI 8), .int (nI n)]) (by simp only [nlit, nI_add, pk_mul]) ?_
    refine x_icmpN_le C 5 (by omega) (by omega) rfl (tgt := 13) rfl (fun hc2 => ?_) (fun hc2 => ?_)
    · refine x_run C 8 1 (pc' := 14) (lv' := [(0, .ref o0), (1, .long v), (3, .int (nI n))]) (st' := [.ref o0]) rfl ?_
      refine x_get C 9 rfl fX7_10 N 0 rfl (v := .ref t0) rfl ?_
      refine x_run C 10 2 (pc' := 19) (lv' := [(0, .ref o0), (1, .long v), (3, .int (nI n))]) (st' := [.int (nI n), .long v, .ref t0]) rfl ?_
      refine x_cv C 12 (As := [.long v, .int (nI n)]) (rest := []) rfl vX7_66 N 1 rfl rfl (c_X6_append Y _ t0 t1 sz tp v n qt0 qt1 (ovl_at 1 N rfl) (ovl_at 2 N rfl) (N.ov [1, 2] (by decide) rfl) (by first | assumption | omega) (by first | assumption | omega) (by first | assumption | omega) (by first | assumption | omega)) rfl rfl (Nat.le_of_ble_eq_true rfl) ⟨Nat.le_of_ble_eq_true rfl, Nat.le_of_ble_eq_true rfl⟩ ⟨Nat.zero_le _, Nat.zero_le _⟩ [1, 2] ⟨rfl, rfl, trivial⟩ (os' := [(qo0, (o0, cO 7 [.ref t0, .ref r_0, .ref i0, .ref x0, .ref h_0, .ref s_0, .ref k0, .ref k1, .int (nI cc), .int (nI gc), .int ps])), (qt0, (t0, cO 6 [.ref t1, .int (nI (sz + n))])), (qt1, (t1, cB Y 4000 (bF (tapp tp sz v n n))))]) rfl (st' := [.int 1]) rfl ?_
      refine x_st (st' := [.int (nI 1)]) (by simp only [nlit, nI_add, pk_mul]) ?_
      refine x_ifN_eq C 13 (by omega) rfl (tgt := 35) rfl (fun hc3 => absurd hc3 (by omega)) (fun hc3 => ?_)
      refine x_run C 14 1 (pc' := 26) (lv' := [(0, .ref o0), (1, .long v), (3, .int (nI n))]) (st' := [.ref o0]) rfl ?_
      refine x_get C 15 rfl fX7_10 N 0 rfl (v := .ref t0) rfl ?_
      refine x_get C 16 rfl fX7_70 N 1 rfl (v := .int (nI (sz + n))) rfl ?_
      refine x_run C 17 1 (pc' := 37) (lv' := [(0, .ref o0), (1, .long v), (3, .int (nI n))]) (st' := [.int (nI (sz + n))]) rfl ?_
      exact x_iret C B rfl 19 rfl (Nat.zero_le _) (Nat.zero_le _) ⟨by first | contradiction | (simp only [nlit]; done) | (simp only [nlit]; simp only [nlit, nI_add, pk_mul]; done) | (simp only [nlit, nI_add, pk_mul]; done) | rfl | (simp only [nlit]; rfl) | (simp only [nlit, nI_add, pk_mul]; rfl), by first | contradiction | (simp only [nlit]; done) | (simp only [nlit]; simp only [nlit, nI_add, pk_mul]; done) | (simp only [nlit, nI_add, pk_mul]; done) | rfl | (simp only [nlit]; rfl) | (simp only [nlit, nI_add, pk_mul]; rfl)⟩
    · exact absurd hc2 (by omega)
set_option maxHeartbeats 4000000 in
set_option maxRecDepth 100000 in
theorem c_X7_feedF (Y : xD) (w : va_W) (o0 : Nat) (t0 : Nat) (r_0 : Nat) (i0 : Nat) (x0 : Nat) (h_0 : Nat) (s_0 : Nat) (k0 : Nat) (k1 : Nat) (cc : Nat) (gc : Nat) (ps : Int32) (t1 : Nat) (sz : Nat) (tp : Nat → Nat) (v : Int64) (n : Nat) (qo0 qt0 qt1 : Nat) (e0 : w[qo0]? = some (o0, cO 7 [.ref t0, .ref r_0, .ref i0, .ref x0, .ref h_0, .ref s_0, .ref k0, .ref k1, .int (nI cc), .int (nI gc), .int ps])) (e1 : w[qt0]? = some (t0, cO 6 [.ref t1, .int (nI sz)])) (e2 : w[qt1]? = some (t1, cB Y 4000 (bF tp))) (N : xN w.length [qo0, qt0, qt1]) (hs : sz ≤ 4000) (h1 : 1 ≤ n) (h8 : n ≤ 8) (hf : 4000 < sz + n) : Cf Y mX7_feed 1 [.ref o0, .long v, .int (nI n)] w (some (.int (-2))) [(qo0, (o0, cO 7 [.ref t0, .ref r_0, .ref i0, .ref x0, .ref h_0, .ref s_0, .ref k0, .ref k1, .int (nI cc), .int (nI gc), .int ps])), (qt0, (t0, cO 6 [.ref t1, .int (nI sz)])), (qt1, (t1, cB Y 4000 (bF tp)))] := by
  refine Ct.intro (T := tX7_feed) (by decide) oX7_feed (Nat.le_of_ble_eq_true rfl) (fun G C B => ?_)
  refine x_lay [(qo0, (o0, cO 7 [.ref t0, .ref r_0, .ref i0, .ref x0, .ref h_0, .ref s_0, .ref k0, .ref k1, .int (nI cc), .int (nI gc), .int ps])), (qt0, (t0, cO 6 [.ref t1, .int (nI sz)])), (qt1, (t1, cB Y 4000 (bF tp)))] (lay_cons e0 (lay_cons e1 (lay_cons e2 lay_nil))) ?_
  refine x_run C 0 2 (pc' := 2) (lv' := [(0, .ref o0), (1, .long v), (3, .int (nI n))]) (st' := [.int 1, .int (nI n)]) rfl ?_
  refine x_st (st' := [.int (nI 1), .int (nI n)]) (by simp only [nlit, nI_add, pk_mul]) ?_
  refine x_icmpN_lt C 2 (by omega) (by omega) rfl (tgt := 11) rfl (fun hc1 => ?_) (fun hc1 => ?_)
  · exact absurd hc1 (by omega)
  · refine x_run C 3 2 (pc' := 8) (lv' := [(0, .ref o0), (1, .long v), (3, .int (nI n))]) (st' := [.int 8, .int (nI n)]) rfl ?_
    refine x_st (st' := [.int (nI 8), .int (nI n)]) (by simp only [nlit, nI_add, pk_mul]) ?_
    refine x_icmpN_le C 5 (by omega) (by omega) rfl (tgt := 13) rfl (fun hc2 => ?_) (fun hc2 => ?_)
    · refine x_run C 8 1 (pc' := 14) (lv' := [(0, .ref o0), (1, .long v), (3, .int (nI n))]) (st' := [.ref o0]) rfl ?_
      refine x_get C 9 rfl fX7_10 N 0 rfl (v := .ref t0) rfl ?_
      refine x_run C 10 2 (pc' := 19) (lv' := [(0, .ref o0), (1, .long v), (3, .int (nI n))]) (st' := [.int (nI n), .long v, .ref t0]) rfl ?_
      refine x_cv C 12 (As := [.long v, .int (nI n)]) (rest := []) rfl vX7_66 N 1 rfl rfl (c_X6_appendF Y _ t0 t1 sz tp v n qt0 qt1 (ovl_at 1 N rfl) (ovl_at 2 N rfl) (N.ov [1, 2] (by decide) rfl) (by first | assumption | omega) (by first | assumption | omega) (by first | assumption | omega) (by first | assumption | omega)) rfl rfl (Nat.le_of_ble_eq_true rfl) ⟨Nat.le_of_ble_eq_true rfl, Nat.le_of_ble_eq_true rfl⟩ ⟨Nat.zero_le _, Nat.zero_le _⟩ [1, 2] ⟨rfl, rfl, trivial⟩ (os' := [(qo0, (o0, cO 7 [.ref t0, .ref r_0, .ref i0, .ref x0, .ref h_0, .ref s_0, .ref k0, .ref k1, .int (nI cc), .int (nI gc), .int ps])), (qt0, (t0, cO 6 [.ref t1, .int (nI sz)])), (qt1, (t1, cB Y 4000 (bF tp)))]) rfl (st' := [.int 0]) rfl ?_
      refine x_st (st' := [.int (nI 0)]) (by simp only [nlit, nI_add, pk_mul]) ?_
      refine x_ifN_eq C 13 (by omega) rfl (tgt := 35) rfl (fun hc3 => ?_) (fun hc3 => absurd hc3 (by omega))
      refine x_run C 18 1 (pc' := 37) (lv' := [(0, .ref o0), (1, .long v), (3, .int (nI n))]) (st' := [.int (-2)]) rfl ?_
      exact x_iret C B rfl 19 rfl (Nat.zero_le _) (Nat.zero_le _) ⟨by first | contradiction | (simp only [nlit]; done) | (simp only [nlit]; simp only [nlit, nI_add, pk_mul]; done) | (simp only [nlit, nI_add, pk_mul]; done) | rfl | (simp only [nlit]; rfl) | (simp only [nlit, nI_add, pk_mul]; rfl), by first | contradiction | (simp only [nlit]; done) | (simp only [nlit]; simp only [nlit, nI_add, pk_mul]; done) | (simp only [nlit, nI_add, pk_mul]; done) | rfl | (simp only [nlit]; rfl) | (simp only [nlit, nI_add, pk_mul]; rfl)⟩
    · exact absurd hc2 (by omega)
set_option maxHeartbeats 4000000 in
set_option maxRecDepth 100000 in
theorem c_X7_circuitAt (Y : xD) (w : va_W) (o0 : Nat) (t0 : Nat) (r_0 : Nat) (i0 : Nat) (x0 : Nat) (h_0 : Nat) (s_0 : Nat) (k0 : Nat) (k1 : Nat) (cc : Nat) (gc : Nat) (ps : Int32) (fq : Nat → Option Nat) (j : Nat) (a : Nat) (qo0 qk : Nat) (e0 : w[qo0]? = some (o0, cO 7 [.ref t0, .ref r_0, .ref i0, .ref x0, .ref h_0, .ref s_0, .ref k0, .ref k1, .int (nI cc), .int (nI gc), .int ps])) (e1 : w[qk]? = some (k0, cQ Y 6 fq)) (N : xN w.length [qo0, qk]) (hj : j < cc) (h6 : cc ≤ 6) (hq : fq j = some a) : Cf Y mX7_circuitAt 0 [.ref o0, .int (nI j)] w (some (.ref a)) [(qo0, (o0, cO 7 [.ref t0, .ref r_0, .ref i0, .ref x0, .ref h_0, .ref s_0, .ref k0, .ref k1, .int (nI cc), .int (nI gc), .int ps])), (qk, (k0, cQ Y 6 fq))] := by
  refine Ct.intro (T := tX7_circuitAt) (by decide) oX7_circuitAt (Nat.le_of_ble_eq_true rfl) (fun G C B => ?_)
  refine x_lay [(qo0, (o0, cO 7 [.ref t0, .ref r_0, .ref i0, .ref x0, .ref h_0, .ref s_0, .ref k0, .ref k1, .int (nI cc), .int (nI gc), .int ps])), (qk, (k0, cQ Y 6 fq))] (lay_cons e0 (lay_cons e1 lay_nil)) ?_
  refine x_run C 0 1 (pc' := 1) (lv' := [(0, .ref o0), (1, .int (nI j))]) (st' := [.int (nI j)]) rfl ?_
  refine x_if_lt C 1 rfl (tgt := 12) rfl (fun hc1 => absurd hc1 (nI_pos (by omega))) (fun hc1 => ?_)
  refine x_run C 2 2 (pc' := 6) (lv' := [(0, .ref o0), (1, .int (nI j))]) (st' := [.ref o0, .int (nI j)]) rfl ?_
  refine x_get C 4 rfl fX7_120 N 0 rfl (v := .int (nI cc)) rfl ?_
  refine x_icmpN_lt C 5 (by omega) (by omega) rfl (tgt := 16) rfl (fun hc2 => ?_) (fun hc2 => ?_)
  · refine x_run C 8 1 (pc' := 17) (lv' := [(0, .ref o0), (1, .int (nI j))]) (st' := [.ref o0]) rfl ?_
    refine x_get C 9 rfl fX7_55 N 0 rfl (v := .ref k0) rfl ?_
    refine x_run C 10 1 (pc' := 21) (lv' := [(0, .ref o0), (1, .int (nI j))]) (st' := [.int (nI j), .ref k0]) rfl ?_
    refine x_qaldN C 11 rfl N 1 rfl (by omega) (by omega) ?_
    refine x_st (st' := [.ref a]) (by rw [hq]; rfl) ?_
    exact x_aret C B rfl 12 rfl (by first | exact Or.inl rfl | exact Or.inr ⟨_, rfl⟩) (Nat.zero_le _) (Nat.zero_le _) ⟨by first | contradiction | (simp only [nlit]; done) | (simp only [nlit]; simp only [nlit, nI_add, pk_mul]; done) | (simp only [nlit, nI_add, pk_mul]; done) | rfl | (simp only [nlit]; rfl) | (simp only [nlit, nI_add, pk_mul]; rfl), by first | contradiction | (simp only [nlit]; done) | (simp only [nlit]; simp only [nlit, nI_add, pk_mul]; done) | (simp only [nlit, nI_add, pk_mul]; done) | rfl | (simp only [nlit]; rfl) | (simp only [nlit, nI_add, pk_mul]; rfl)⟩
  · exact absurd hc2 (by omega)
set_option maxHeartbeats 4000000 in
set_option maxRecDepth 100000 in
theorem c_X7_circuitAtF (Y : xD) (w : va_W) (o0 : Nat) (t0 : Nat) (r_0 : Nat) (i0 : Nat) (x0 : Nat) (h_0 : Nat) (s_0 : Nat) (k0 : Nat) (k1 : Nat) (cc : Nat) (gc : Nat) (ps : Int32) (x : Int32) (qo0 : Nat) (e0 : w[qo0]? = some (o0, cO 7 [.ref t0, .ref r_0, .ref i0, .ref x0, .ref h_0, .ref s_0, .ref k0, .ref k1, .int (nI cc), .int (nI gc), .int ps])) (N : xN w.length [qo0]) (hx : x < 0 ∨ nI cc ≤ x) (h6 : cc ≤ 6) : Cf Y mX7_circuitAt 0 [.ref o0, .int x] w (some (.null)) [(qo0, (o0, cO 7 [.ref t0, .ref r_0, .ref i0, .ref x0, .ref h_0, .ref s_0, .ref k0, .ref k1, .int (nI cc), .int (nI gc), .int ps]))] := by
  refine Ct.intro (T := tX7_circuitAt) (by decide) oX7_circuitAt (Nat.le_of_ble_eq_true rfl) (fun G C B => ?_)
  refine x_lay [(qo0, (o0, cO 7 [.ref t0, .ref r_0, .ref i0, .ref x0, .ref h_0, .ref s_0, .ref k0, .ref k1, .int (nI cc), .int (nI gc), .int ps]))] (lay_cons e0 lay_nil) ?_
  refine x_run C 0 1 (pc' := 1) (lv' := [(0, .ref o0), (1, .int x)]) (st' := [.int x]) rfl ?_
  refine x_if_lt C 1 rfl (tgt := 12) rfl (fun hc1 => ?_) (fun hc1 => ?_)
  · refine x_run C 6 2 (pc' := 22) (lv' := [(0, .ref o0), (1, .int x)]) (st' := [.null]) rfl ?_
    exact x_aret C B rfl 12 rfl (by first | exact Or.inl rfl | exact Or.inr ⟨_, rfl⟩) (Nat.zero_le _) (Nat.zero_le _) ⟨by first | contradiction | (simp only [if_pos hc1]; done) | (simp only [if_pos hc1]; simp only [nlit, nI_add, pk_mul]; done) | (simp only [if_pos hc1, nlit, nI_add, pk_mul]; done) | rfl | (simp only [if_pos hc1]; rfl) | (simp only [if_pos hc1, nlit, nI_add, pk_mul]; rfl), by first | contradiction | (simp only [if_pos hc1]; done) | (simp only [if_pos hc1]; simp only [nlit, nI_add, pk_mul]; done) | (simp only [if_pos hc1, nlit, nI_add, pk_mul]; done) | rfl | (simp only [if_pos hc1]; rfl) | (simp only [if_pos hc1, nlit, nI_add, pk_mul]; rfl)⟩
  · refine x_run C 2 2 (pc' := 6) (lv' := [(0, .ref o0), (1, .int x)]) (st' := [.ref o0, .int x]) rfl ?_
    refine x_get C 4 rfl fX7_120 N 0 rfl (v := .int (nI cc)) rfl ?_
    refine x_icmp_lt C 5 rfl (tgt := 16) rfl (fun hc2 => ?_) (fun hc2 => ?_)
    · exact absurd hc2 (by rcases hx with h | h; exact absurd h (by assumption); exact Int32.not_lt.mpr h)
    · refine x_run C 6 2 (pc' := 22) (lv' := [(0, .ref o0), (1, .int x)]) (st' := [.null]) rfl ?_
      exact x_aret C B rfl 12 rfl (by first | exact Or.inl rfl | exact Or.inr ⟨_, rfl⟩) (Nat.zero_le _) (Nat.zero_le _) ⟨by first | contradiction | (simp only [if_neg hc1, if_neg hc2]; done) | (simp only [if_neg hc1, if_neg hc2]; simp only [nlit, nI_add, pk_mul]; done) | (simp only [if_neg hc1, if_neg hc2, nlit, nI_add, pk_mul]; done) | rfl | (simp only [if_neg hc1, if_neg hc2]; rfl) | (simp only [if_neg hc1, if_neg hc2, nlit, nI_add, pk_mul]; rfl), by first | contradiction | (simp only [if_neg hc1, if_neg hc2]; done) | (simp only [if_neg hc1, if_neg hc2]; simp only [nlit, nI_add, pk_mul]; done) | (simp only [if_neg hc1, if_neg hc2, nlit, nI_add, pk_mul]; done) | rfl | (simp only [if_neg hc1, if_neg hc2]; rfl) | (simp only [if_neg hc1, if_neg hc2, nlit, nI_add, pk_mul]; rfl)⟩
set_option maxHeartbeats 4000000 in
set_option maxRecDepth 100000 in
theorem c_X7_garbledAt (Y : xD) (w : va_W) (o0 : Nat) (t0 : Nat) (r_0 : Nat) (i0 : Nat) (x0 : Nat) (h_0 : Nat) (s_0 : Nat) (k0 : Nat) (k1 : Nat) (cc : Nat) (gc : Nat) (ps : Int32) (fq : Nat → Option Nat) (j : Nat) (a : Nat) (qo0 qk : Nat) (e0 : w[qo0]? = some (o0, cO 7 [.ref t0, .ref r_0, .ref i0, .ref x0, .ref h_0, .ref s_0, .ref k0, .ref k1, .int (nI cc), .int (nI gc), .int ps])) (e1 : w[qk]? = some (k1, cR Y 6 fq)) (N : xN w.length [qo0, qk]) (hj : j < gc) (h6 : gc ≤ 6) (hq : fq j = some a) : Cf Y mX7_garbledAt 0 [.ref o0, .int (nI j)] w (some (.ref a)) [(qo0, (o0, cO 7 [.ref t0, .ref r_0, .ref i0, .ref x0, .ref h_0, .ref s_0, .ref k0, .ref k1, .int (nI cc), .int (nI gc), .int ps])), (qk, (k1, cR Y 6 fq))] := by
  refine Ct.intro (T := tX7_garbledAt) (by decide) oX7_garbledAt (Nat.le_of_ble_eq_true rfl) (fun G C B => ?_)
  refine x_lay [(qo0, (o0, cO 7 [.ref t0, .ref r_0, .ref i0, .ref x0, .ref h_0, .ref s_0, .ref k0, .ref k1, .int (nI cc), .int (nI gc), .int ps])), (qk, (k1, cR Y 6 fq))] (lay_cons e0 (lay_cons e1 lay_nil)) ?_
  refine x_run C 0 1 (pc' := 1) (lv' := [(0, .ref o0), (1, .int (nI j))]) (st' := [.int (nI j)]) rfl ?_
  refine x_if_lt C 1 rfl (tgt := 12) rfl (fun hc1 => absurd hc1 (nI_pos (by omega))) (fun hc1 => ?_)
  refine x_run C 2 2 (pc' := 6) (lv' := [(0, .ref o0), (1, .int (nI j))]) (st' := [.ref o0, .int (nI j)]) rfl ?_
  refine x_get C 4 rfl fX7_78 N 0 rfl (v := .int (nI gc)) rfl ?_
  refine x_icmpN_lt C 5 (by omega) (by omega) rfl (tgt := 16) rfl (fun hc2 => ?_) (fun hc2 => ?_)
  · refine x_run C 8 1 (pc' := 17) (lv' := [(0, .ref o0), (1, .int (nI j))]) (st' := [.ref o0]) rfl ?_
    refine x_get C 9 rfl fX7_61 N 0 rfl (v := .ref k1) rfl ?_
    refine x_run C 10 1 (pc' := 21) (lv' := [(0, .ref o0), (1, .int (nI j))]) (st' := [.int (nI j), .ref k1]) rfl ?_
    refine x_raldN C 11 rfl N 1 rfl (by omega) (by omega) ?_
    refine x_st (st' := [.ref a]) (by rw [hq]; rfl) ?_
    exact x_aret C B rfl 12 rfl (by first | exact Or.inl rfl | exact Or.inr ⟨_, rfl⟩) (Nat.zero_le _) (Nat.zero_le _) ⟨by first | contradiction | (simp only [nlit]; done) | (simp only [nlit]; simp only [nlit, nI_add, pk_mul]; done) | (simp only [nlit, nI_add, pk_mul]; done) | rfl | (simp only [nlit]; rfl) | (simp only [nlit, nI_add, pk_mul]; rfl), by first | contradiction | (simp only [nlit]; done) | (simp only [nlit]; simp only [nlit, nI_add, pk_mul]; done) | (simp only [nlit, nI_add, pk_mul]; done) | rfl | (simp only [nlit]; rfl) | (simp only [nlit, nI_add, pk_mul]; rfl)⟩
  · exact absurd hc2 (by omega)
set_option maxHeartbeats 4000000 in
set_option maxRecDepth 100000 in
theorem c_X7_garbledAtF (Y : xD) (w : va_W) (o0 : Nat) (t0 : Nat) (r_0 : Nat) (i0 : Nat) (x0 : Nat) (h_0 : Nat) (s_0 : Nat) (k0 : Nat) (k1 : Nat) (cc : Nat) (gc : Nat) (ps : Int32) (x : Int32) (qo0 : Nat) (e0 : w[qo0]? = some (o0, cO 7 [.ref t0, .ref r_0, .ref i0, .ref x0, .ref h_0, .ref s_0, .ref k0, .ref k1, .int (nI cc), .int (nI gc), .int ps])) (N : xN w.length [qo0]) (hx : x < 0 ∨ nI gc ≤ x) (h6 : gc ≤ 6) : Cf Y mX7_garbledAt 0 [.ref o0, .int x] w (some (.null)) [(qo0, (o0, cO 7 [.ref t0, .ref r_0, .ref i0, .ref x0, .ref h_0, .ref s_0, .ref k0, .ref k1, .int (nI cc), .int (nI gc), .int ps]))] := by
  refine Ct.intro (T := tX7_garbledAt) (by decide) oX7_garbledAt (Nat.le_of_ble_eq_true rfl) (fun G C B => ?_)
  refine x_lay [(qo0, (o0, cO 7 [.ref t0, .ref r_0, .ref i0, .ref x0, .ref h_0, .ref s_0, .ref k0, .ref k1, .int (nI cc), .int (nI gc), .int ps]))] (lay_cons e0 lay_nil) ?_
  refine x_run C 0 1 (pc' := 1) (lv' := [(0, .ref o0), (1, .int x)]) (st' := [.int x]) rfl ?_
  refine x_if_lt C 1 rfl (tgt := 12) rfl (fun hc1 => ?_) (fun hc1 => ?_)
  · refine x_run C 6 2 (pc' := 22) (lv' := [(0, .ref o0), (1, .int x)]) (st' := [.null]) rfl ?_
    exact x_aret C B rfl 12 rfl (by first | exact Or.inl rfl | exact Or.inr ⟨_, rfl⟩) (Nat.zero_le _) (Nat.zero_le _) ⟨by first | contradiction | (simp only [if_pos hc1]; done) | (simp only [if_pos hc1]; simp only [nlit, nI_add, pk_mul]; done) | (simp only [if_pos hc1, nlit, nI_add, pk_mul]; done) | rfl | (simp only [if_pos hc1]; rfl) | (simp only [if_pos hc1, nlit, nI_add, pk_mul]; rfl), by first | contradiction | (simp only [if_pos hc1]; done) | (simp only [if_pos hc1]; simp only [nlit, nI_add, pk_mul]; done) | (simp only [if_pos hc1, nlit, nI_add, pk_mul]; done) | rfl | (simp only [if_pos hc1]; rfl) | (simp only [if_pos hc1, nlit, nI_add, pk_mul]; rfl)⟩
  · refine x_run C 2 2 (pc' := 6) (lv' := [(0, .ref o0), (1, .int x)]) (st' := [.ref o0, .int x]) rfl ?_
    refine x_get C 4 rfl fX7_78 N 0 rfl (v := .int (nI gc)) rfl ?_
    refine x_icmp_lt C 5 rfl (tgt := 16) rfl (fun hc2 => ?_) (fun hc2 => ?_)
    · exact absurd hc2 (by rcases hx with h | h; exact absurd h (by assumption); exact Int32.not_lt.mpr h)
    · refine x_run C 6 2 (pc' := 22) (lv' := [(0, .ref o0), (1, .int x)]) (st' := [.null]) rfl ?_
      exact x_aret C B rfl 12 rfl (by first | exact Or.inl rfl | exact Or.inr ⟨_, rfl⟩) (Nat.zero_le _) (Nat.zero_le _) ⟨by first | contradiction | (simp only [if_neg hc1, if_neg hc2]; done) | (simp only [if_neg hc1, if_neg hc2]; simp only [nlit, nI_add, pk_mul]; done) | (simp only [if_neg hc1, if_neg hc2, nlit, nI_add, pk_mul]; done) | rfl | (simp only [if_neg hc1, if_neg hc2]; rfl) | (simp only [if_neg hc1, if_neg hc2, nlit, nI_add, pk_mul]; rfl), by first | contradiction | (simp only [if_neg hc1, if_neg hc2]; done) | (simp only [if_neg hc1, if_neg hc2]; simp only [nlit, nI_add, pk_mul]; done) | (simp only [if_neg hc1, if_neg hc2, nlit, nI_add, pk_mul]; done) | rfl | (simp only [if_neg hc1, if_neg hc2]; rfl) | (simp only [if_neg hc1, if_neg hc2, nlit, nI_add, pk_mul]; rfl)⟩
