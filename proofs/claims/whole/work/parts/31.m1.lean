set_option maxHeartbeats 4000000 in
set_option maxRecDepth 100000 in
theorem c_X8_in (Y : xD) (w : va_W) (j : Nat) (a : Nat) (b : Nat)    (h1 : a ≤ j) (h2 : j ≤ b) (h3 : b < 2 ^ 31) : Cf Y mX8_in 0 [.int (nI j), .int (nI a), .int (nI b)] w (some (.int 1)) [] := by
  refine Ct.intro (T := tX8_in) (by decide) oX8_in (Nat.le_of_ble_eq_true rfl) (fun G C B => ?_)
  have N : xN w.length (keys []) := xN_nil _
  refine x_lay [] lay_nil ?_
  refine x_run C 0 2 (pc' := 2) (lv' := [(0, .int (nI j)), (1, .int (nI a)), (2, .int (nI b))]) (st' := [.int (nI a), .int (nI j)]) rfl ?_
  refine x_icmpN_lt C 2 (by omega) (by omega) rfl (tgt := 14) rfl (fun hc1 => ?_) (fun hc1 => ?_)
  · exact absurd hc1 (by omega)
  · refine x_run C 3 2 (pc' := 7) (lv' := [(0, .int (nI j)), (1, .int (nI a)), (2, .int (nI b))]) (st' := [.int (nI b), .int (nI j)]) rfl ?_
    refine x_icmpN_gt C 5 (by omega) (by omega) rfl (tgt := 14) rfl (fun hc2 => ?_) (fun hc2 => ?_)
    · exact absurd hc2 (by omega)
    · refine x_run C 6 2 (pc' := 15) (lv' := [(0, .int (nI j)), (1, .int (nI a)), (2, .int (nI b))]) (st' := [.int 1]) rfl ?_
      exact x_zret C B rfl 9 rfl (by first | exact Or.inl rfl | exact Or.inr rfl | decide) (Nat.zero_le _) (Nat.zero_le _) ⟨by first | contradiction | (simp only [nlit]; done) | (simp only [nlit]; simp only [nlit, nI_add, pk_mul]; done) | (simp only [nlit, nI_add, pk_mul]; done) | rfl | (simp only [nlit]; rfl) | (simp only [nlit, nI_add, pk_mul]; rfl), by first | contradiction | (simp only [nlit]; done) | (simp only [nlit]; simp only [nlit, nI_add, pk_mul]; done) | (simp only [nlit, nI_add, pk_mul]; done) | rfl | (simp only [nlit]; rfl) | (simp only [nlit, nI_add, pk_mul]; rfl)⟩
set_option maxHeartbeats 4000000 in
set_option maxRecDepth 100000 in
theorem c_X8_inF (Y : xD) (w : va_W) (x : Int32) (a : Int32) (b : Int32)    (hx : x < a ∨ b < x) : Cf Y mX8_in 0 [.int x, .int a, .int b] w (some (.int 0)) [] := by
  refine Ct.intro (T := tX8_in) (by decide) oX8_in (Nat.le_of_ble_eq_true rfl) (fun G C B => ?_)
  have N : xN w.length (keys []) := xN_nil _
  refine x_lay [] lay_nil ?_
  refine x_run C 0 2 (pc' := 2) (lv' := [(0, .int x), (1, .int a), (2, .int b)]) (st' := [.int a, .int x]) rfl ?_
  refine x_icmp_lt C 2 rfl (tgt := 14) rfl (fun hc1 => ?_) (fun hc1 => ?_)
  · refine x_run C 8 1 (pc' := 15) (lv' := [(0, .int x), (1, .int a), (2, .int b)]) (st' := [.int 0]) rfl ?_
    exact x_zret C B rfl 9 rfl (by first | exact Or.inl rfl | exact Or.inr rfl | decide) (Nat.zero_le _) (Nat.zero_le _) ⟨by first | contradiction | (simp only [if_pos hc1]; done) | (simp only [if_pos hc1]; simp only [nlit, nI_add, pk_mul]; done) | (simp only [if_pos hc1, nlit, nI_add, pk_mul]; done) | rfl | (simp only [if_pos hc1]; rfl) | (simp only [if_pos hc1, nlit, nI_add, pk_mul]; rfl), by first | contradiction | (simp only [if_pos hc1]; done) | (simp only [if_pos hc1]; simp only [nlit, nI_add, pk_mul]; done) | (simp only [if_pos hc1, nlit, nI_add, pk_mul]; done) | rfl | (simp only [if_pos hc1]; rfl) | (simp only [if_pos hc1, nlit, nI_add, pk_mul]; rfl)⟩
  · refine x_run C 3 2 (pc' := 7) (lv' := [(0, .int x), (1, .int a), (2, .int b)]) (st' := [.int b, .int x]) rfl ?_
    refine x_icmp_gt C 5 rfl (tgt := 14) rfl (fun hc2 => ?_) (fun hc2 => ?_)
    · refine x_run C 8 1 (pc' := 15) (lv' := [(0, .int x), (1, .int a), (2, .int b)]) (st' := [.int 0]) rfl ?_
      exact x_zret C B rfl 9 rfl (by first | exact Or.inl rfl | exact Or.inr rfl | decide) (Nat.zero_le _) (Nat.zero_le _) ⟨by first | contradiction | (simp only [if_neg hc1, if_pos hc2]; done) | (simp only [if_neg hc1, if_pos hc2]; simp only [nlit, nI_add, pk_mul]; done) | (simp only [if_neg hc1, if_pos hc2, nlit, nI_add, pk_mul]; done) | rfl | (simp only [if_neg hc1, if_pos hc2]; rfl) | (simp only [if_neg hc1, if_pos hc2, nlit, nI_add, pk_mul]; rfl), by first | contradiction | (simp only [if_neg hc1, if_pos hc2]; done) | (simp only [if_neg hc1, if_pos hc2]; simp only [nlit, nI_add, pk_mul]; done) | (simp only [if_neg hc1, if_pos hc2, nlit, nI_add, pk_mul]; done) | rfl | (simp only [if_neg hc1, if_pos hc2]; rfl) | (simp only [if_neg hc1, if_pos hc2, nlit, nI_add, pk_mul]; rfl)⟩
    · rcases hx with h | h <;> contradiction
set_option maxHeartbeats 4000000 in
set_option maxRecDepth 100000 in
theorem c_X8_inT (Y : xD) (w : va_W) (x : Int32) (a : Int32) (b : Int32)    (h1 : ¬ x < a) (h2 : ¬ b < x) : Cf Y mX8_in 0 [.int x, .int a, .int b] w (some (.int 1)) [] := by
  refine Ct.intro (T := tX8_in) (by decide) oX8_in (Nat.le_of_ble_eq_true rfl) (fun G C B => ?_)
  have N : xN w.length (keys []) := xN_nil _
  refine x_lay [] lay_nil ?_
  refine x_run C 0 2 (pc' := 2) (lv' := [(0, .int x), (1, .int a), (2, .int b)]) (st' := [.int a, .int x]) rfl ?_
  refine x_icmp_lt C 2 rfl (tgt := 14) rfl (fun hc1 => ?_) (fun hc1 => ?_)
  · exact absurd hc1 h1
  · refine x_run C 3 2 (pc' := 7) (lv' := [(0, .int x), (1, .int a), (2, .int b)]) (st' := [.int b, .int x]) rfl ?_
    refine x_icmp_gt C 5 rfl (tgt := 14) rfl (fun hc2 => ?_) (fun hc2 => ?_)
    · exact absurd hc2 h2
    · refine x_run C 6 2 (pc' := 15) (lv' := [(0, .int x), (1, .int a), (2, .int b)]) (st' := [.int 1]) rfl ?_
      exact x_zret C B rfl 9 rfl (by first | exact Or.inl rfl | exact Or.inr rfl | decide) (Nat.zero_le _) (Nat.zero_le _) ⟨by first | contradiction | (simp only [if_neg hc1, if_neg hc2]; done) | (simp only [if_neg hc1, if_neg hc2]; simp only [nlit, nI_add, pk_mul]; done) | (simp only [if_neg hc1, if_neg hc2, nlit, nI_add, pk_mul]; done) | rfl | (simp only [if_neg hc1, if_neg hc2]; rfl) | (simp only [if_neg hc1, if_neg hc2, nlit, nI_add, pk_mul]; rfl), by first | contradiction | (simp only [if_neg hc1, if_neg hc2]; done) | (simp only [if_neg hc1, if_neg hc2]; simp only [nlit, nI_add, pk_mul]; done) | (simp only [if_neg hc1, if_neg hc2, nlit, nI_add, pk_mul]; done) | rfl | (simp only [if_neg hc1, if_neg hc2]; rfl) | (simp only [if_neg hc1, if_neg hc2, nlit, nI_add, pk_mul]; rfl)⟩
set_option maxHeartbeats 4000000 in
set_option maxRecDepth 100000 in
theorem c_X8_uses (Y : xD) (w : va_W) (o0 : Nat) (A : Nat → Nat) (th : Int32) (su : Int32) (sz : Nat) (bl : Int32) (ci : Nat) (ma : Nat) (pa : Int32) (en : Int32) (wr : Int32) (qm : Nat) (e0 : w[qm]? = some (o0, cO 8 (mo A th su (nI sz) bl (nI ci) (nI ma) pa en wr))) (N : xN w.length [qm])  : Cf Y mX8_uses 0 [.ref o0] w (some (.int (nI sz))) [(qm, (o0, cO 8 (mo A th su (nI 0) bl (nI ci) (nI ma) pa en wr)))] := by
  refine Ct.intro (T := tX8_uses) (by decide) oX8_uses (Nat.le_of_ble_eq_true rfl) (fun G C B => ?_)
  refine x_lay [(qm, (o0, cO 8 (mo A th su (nI sz) bl (nI ci) (nI ma) pa en wr)))] (lay_cons e0 lay_nil) ?_
  refine x_run C 0 1 (pc' := 1) (lv' := [(0, .ref o0)]) (st' := [.ref o0]) rfl ?_
  refine x_get C 1 rfl fX8_139 N 0 rfl (v := .int (nI sz)) rfl ?_
  refine x_run C 2 3 (pc' := 7) (lv' := [(1, .int (nI sz)), (0, .ref o0)]) (st' := [.int 0, .ref o0]) rfl ?_
  refine x_put C 5 rfl pX8_139 N 0 rfl rfl rfl (Nat.le_of_ble_eq_true rfl) (os' := [(qm, (o0, cO 8 (mo A th su (nI 0) bl (nI ci) (nI ma) pa en wr)))]) rfl ?_
  refine x_run C 6 1 (pc' := 11) (lv' := [(1, .int (nI sz)), (0, .ref o0)]) (st' := [.int (nI sz)]) rfl ?_
  exact x_iret C B rfl 7 rfl (Nat.zero_le _) (Nat.zero_le _) ⟨by first | rfl | (simp only [nlit, nI_add, pk_mul]; done), by first | rfl | (simp only [nlit, nI_add, pk_mul]; done)⟩
set_option maxHeartbeats 4000000 in
set_option maxRecDepth 100000 in
theorem c_X8_clear (Y : xD) (w : va_W) (o0 : Nat) (A : Nat → Nat) (th : Int32) (su : Int32) (sz : Nat) (bl : Int32) (ci : Nat) (ma : Nat) (pa : Int32) (en : Int32) (wr : Int32) (qm : Nat) (e0 : w[qm]? = some (o0, cO 8 (mo A th su (nI sz) bl (nI ci) (nI ma) pa en wr))) (N : xN w.length [qm])  : Cf Y mX8_clear 1 [.ref o0] w (some (.int (nI sz))) [(qm, (o0, cO 8 (mo A (nI 0) su (nI 0) bl (nI ci) (nI ma) pa en wr)))] := by
  refine Ct.intro (T := tX8_clear) (by decide) oX8_clear (Nat.le_of_ble_eq_true rfl) (fun G C B => ?_)
  refine x_lay [(qm, (o0, cO 8 (mo A th su (nI sz) bl (nI ci) (nI ma) pa en wr)))] (lay_cons e0 lay_nil) ?_
  refine x_run C 0 2 (pc' := 2) (lv' := [(0, .ref o0)]) (st' := [.int 0, .ref o0]) rfl ?_
  refine x_put C 2 rfl pX8_117 N 0 rfl rfl rfl (Nat.le_of_ble_eq_true rfl) (os' := [(qm, (o0, cO 8 (mo A (nI 0) su (nI sz) bl (nI ci) (nI ma) pa en wr)))]) rfl ?_
  refine x_run C 3 1 (pc' := 6) (lv' := [(0, .ref o0)]) (st' := [.ref o0]) rfl ?_
  refine x_cv C 4 (As := []) (rest := []) rfl vX8_144 N 0 rfl rfl (c_X8_uses Y _ o0 A (nI 0) su sz bl ci ma pa en wr qm (ovl_at 0 N rfl) (N.ov [0] (by decide) rfl) ) rfl rfl (Nat.le_of_ble_eq_true rfl) ⟨Nat.le_of_ble_eq_true rfl, Nat.le_of_ble_eq_true rfl⟩ ⟨Nat.zero_le _, Nat.zero_le _⟩ [0] ⟨rfl, trivial⟩ (os' := [(qm, (o0, cO 8 (mo A (nI 0) su (nI 0) bl (nI ci) (nI ma) pa en wr)))]) rfl (st' := [.int (nI sz)]) rfl ?_
  exact x_iret C B rfl 5 rfl (Nat.zero_le _) (Nat.zero_le _) ⟨by first | rfl | (simp only [nlit, nI_add, pk_mul]; done), by first | rfl | (simp only [nlit, nI_add, pk_mul]; done)⟩
set_option maxHeartbeats 4000000 in
set_option maxRecDepth 100000 in
theorem c_X8_status (Y : xD) (w : va_W) (o0 : Nat) (A : Nat → Nat) (th : Int32) (su : Int32) (sz : Nat) (bl : Int32) (ci : Nat) (ma : Nat) (pa : Int32) (en : Int32) (wr : Int32) (qm : Nat) (e0 : w[qm]? = some (o0, cO 8 (mo A th su (nI sz) bl (nI ci) (nI ma) pa en wr))) (N : xN w.length [qm])  : Cf Y mX8_status 0 [.ref o0] w (some (.int su)) [(qm, (o0, cO 8 (mo A (nI 0) su (nI sz) bl (nI ci) (nI ma) pa en wr)))] := by
  refine Ct.intro (T := tX8_status) (by decide) oX8_status (Nat.le_of_ble_eq_true rfl) (fun G C B => ?_)
  refine x_lay [(qm, (o0, cO 8 (mo A th su (nI sz) bl (nI ci) (nI ma) pa en wr)))] (lay_cons e0 lay_nil) ?_
  refine x_run C 0 2 (pc' := 2) (lv' := [(0, .ref o0)]) (st' := [.int 0, .ref o0]) rfl ?_
  refine x_put C 2 rfl pX8_117 N 0 rfl rfl rfl (Nat.le_of_ble_eq_true rfl) (os' := [(qm, (o0, cO 8 (mo A (nI 0) su (nI sz) bl (nI ci) (nI ma) pa en wr)))]) rfl ?_
  refine x_run C 3 1 (pc' := 6) (lv' := [(0, .ref o0)]) (st' := [.ref o0]) rfl ?_
  refine x_get C 4 rfl fX8_247 N 0 rfl (v := .int su) rfl ?_
  exact x_iret C B rfl 5 rfl (Nat.zero_le _) (Nat.zero_le _) ⟨by first | rfl | (simp only [nlit, nI_add, pk_mul]; done), by first | rfl | (simp only [nlit, nI_add, pk_mul]; done)⟩
set_option maxHeartbeats 4000000 in
set_option maxRecDepth 100000 in
theorem c_X8_no (Y : xD) (w : va_W) (o0 : Nat) (A : Nat → Nat) (th : Int32) (su : Int32) (sz : Nat) (bl : Int32) (ci : Nat) (ma : Nat) (pa : Int32) (en : Int32) (wr : Int32) (x : Int32) (qm : Nat) (e0 : w[qm]? = some (o0, cO 8 (mo A th su (nI sz) bl (nI ci) (nI ma) pa en wr))) (N : xN w.length [qm])  : Cf Y mX8_no 0 [.ref o0, .int x] w (some (.long 0)) [(qm, (o0, cO 8 (mo A th x (nI sz) bl (nI ci) (nI ma) pa en wr)))] := by
  refine Ct.intro (T := tX8_no) (by decide) oX8_no (Nat.le_of_ble_eq_true rfl) (fun G C B => ?_)
  refine x_lay [(qm, (o0, cO 8 (mo A th su (nI sz) bl (nI ci) (nI ma) pa en wr)))] (lay_cons e0 lay_nil) ?_
  refine x_run C 0 2 (pc' := 2) (lv' := [(0, .ref o0), (1, .int x)]) (st' := [.int x, .ref o0]) rfl ?_
  refine x_put C 2 rfl pX8_247 N 0 rfl rfl rfl (Nat.le_of_ble_eq_true rfl) (os' := [(qm, (o0, cO 8 (mo A th x (nI sz) bl (nI ci) (nI ma) pa en wr)))]) rfl ?_
  refine x_run C 3 1 (pc' := 6) (lv' := [(0, .ref o0), (1, .int x)]) (st' := [.long 0]) rfl ?_
  exact x_lret C B rfl 4 rfl (Nat.zero_le _) (Nat.zero_le _) ⟨by first | rfl | (simp only [nlit, nI_add, pk_mul]; done), by first | rfl | (simp only [nlit, nI_add, pk_mul]; done)⟩
set_option maxHeartbeats 4000000 in
set_option maxRecDepth 100000 in
theorem c_X8_count (Y : xD) (w : va_W) (o0 : Nat) (A : Nat → Nat) (th : Int32) (su : Int32) (sz : Nat) (bl : Int32) (ci : Nat) (ma : Nat) (pa : Int32) (en : Int32) (wr : Int32) (x : Int32) (qm : Nat) (e0 : w[qm]? = some (o0, cO 8 (mo A th su (nI sz) bl (nI ci) (nI ma) pa en wr))) (N : xN w.length [qm])  : Cf Y mX8_count 0 [.ref o0, .int x] w (some (.int (cntR x sz ci ma bl))) [(qm, (o0, cO 8 (mo A (nI 0) su (nI sz) bl (nI ci) (nI ma) pa en wr)))] := by
  refine Ct.intro (T := tX8_count) (by decide) oX8_count (Nat.le_of_ble_eq_true rfl) (fun G C B => ?_)
  refine x_lay [(qm, (o0, cO 8 (mo A th su (nI sz) bl (nI ci) (nI ma) pa en wr)))] (lay_cons e0 lay_nil) ?_
  refine x_run C 0 2 (pc' := 2) (lv' := [(0, .ref o0), (1, .int x)]) (st' := [.int 0, .ref o0]) rfl ?_
  refine x_put C 2 rfl pX8_117 N 0 rfl rfl rfl (Nat.le_of_ble_eq_true rfl) (os' := [(qm, (o0, cO 8 (mo A (nI 0) su (nI sz) bl (nI ci) (nI ma) pa en wr)))]) rfl ?_
  refine x_run C 3 1 (pc' := 6) (lv' := [(0, .ref o0), (1, .int x)]) (st' := [.int x]) rfl ?_
  refine x_if_ne C 4 rfl (tgt := 16) rfl (fun hc1 => ?_) (fun hc1 => ?_)
  · refine x_run C 8 2 (pc' := 18) (lv' := [(0, .ref o0), (1, .int x)]) (st' := [.int 1, .int x]) rfl ?_
    refine x_icmp_ne C 10 rfl (tgt := 28) rfl (fun hc2 => ?_) (fun hc2 => ?_)
    · refine x_run C 14 2 (pc' := 30) (lv' := [(0, .ref o0), (1, .int x)]) (st' := [.int 2, .int x]) rfl ?_
      refine x_icmp_ne C 16 rfl (tgt := 40) rfl (fun hc3 => ?_) (fun hc3 => ?_)
      · refine x_run C 20 2 (pc' := 42) (lv' := [(0, .ref o0), (1, .int x)]) (st' := [.int 3, .int x]) rfl ?_
        refine x_icmp_ne C 22 rfl (tgt := 52) rfl (fun hc4 => ?_) (fun hc4 => ?_)
        · refine x_run C 26 1 (pc' := 53) (lv' := [(0, .ref o0), (1, .int x)]) (st' := [.int (-1)]) rfl ?_
          exact x_iret C B rfl 27 rfl (Nat.zero_le _) (Nat.zero_le _) ⟨by first | contradiction | (simp only [cntR, if_neg hc1, if_neg hc2, if_neg hc3, if_neg hc4]; done) | (simp only [cntR, if_neg hc1, if_neg hc2, if_neg hc3, if_neg hc4]; simp only [nlit, nI_add, pk_mul]; done) | (simp only [cntR, if_neg hc1, if_neg hc2, if_neg hc3, if_neg hc4, nlit, nI_add, pk_mul]; done) | rfl | (simp only [cntR, if_neg hc1, if_neg hc2, if_neg hc3, if_neg hc4]; rfl) | (simp only [cntR, if_neg hc1, if_neg hc2, if_neg hc3, if_neg hc4, nlit, nI_add, pk_mul]; rfl), by first | contradiction | (simp only [cntR, if_neg hc1, if_neg hc2, if_neg hc3, if_neg hc4]; done) | (simp only [cntR, if_neg hc1, if_neg hc2, if_neg hc3, if_neg hc4]; simp only [nlit, nI_add, pk_mul]; done) | (simp only [cntR, if_neg hc1, if_neg hc2, if_neg hc3, if_neg hc4, nlit, nI_add, pk_mul]; done) | rfl | (simp only [cntR, if_neg hc1, if_neg hc2, if_neg hc3, if_neg hc4]; rfl) | (simp only [cntR, if_neg hc1, if_neg hc2, if_neg hc3, if_neg hc4, nlit, nI_add, pk_mul]; rfl)⟩
        · refine x_run C 23 1 (pc' := 46) (lv' := [(0, .ref o0), (1, .int x)]) (st' := [.ref o0]) rfl ?_
          refine x_get C 24 rfl fX8_121 N 0 rfl (v := .int bl) rfl ?_
          refine x_run C 25 1 (pc' := 53) (lv' := [(0, .ref o0), (1, .int x)]) (st' := [.int bl]) rfl ?_
          exact x_iret C B rfl 27 rfl (Nat.zero_le _) (Nat.zero_le _) ⟨by first | contradiction | (simp only [cntR, if_neg hc1, if_neg hc2, if_neg hc3, if_pos hc4]; done) | (simp only [cntR, if_neg hc1, if_neg hc2, if_neg hc3, if_pos hc4]; simp only [nlit, nI_add, pk_mul]; done) | (simp only [cntR, if_neg hc1, if_neg hc2, if_neg hc3, if_pos hc4, nlit, nI_add, pk_mul]; done) | rfl | (simp only [cntR, if_neg hc1, if_neg hc2, if_neg hc3, if_pos hc4]; rfl) | (simp only [cntR, if_neg hc1, if_neg hc2, if_neg hc3, if_pos hc4, nlit, nI_add, pk_mul]; rfl), by first | contradiction | (simp only [cntR, if_neg hc1, if_neg hc2, if_neg hc3, if_pos hc4]; done) | (simp only [cntR, if_neg hc1, if_neg hc2, if_neg hc3, if_pos hc4]; simp only [nlit, nI_add, pk_mul]; done) | (simp only [cntR, if_neg hc1, if_neg hc2, if_neg hc3, if_pos hc4, nlit, nI_add, pk_mul]; done) | rfl | (simp only [cntR, if_neg hc1, if_neg hc2, if_neg hc3, if_pos hc4]; rfl) | (simp only [cntR, if_neg hc1, if_neg hc2, if_neg hc3, if_pos hc4, nlit, nI_add, pk_mul]; rfl)⟩
      · refine x_run C 17 1 (pc' := 34) (lv' := [(0, .ref o0), (1, .int x)]) (st' := [.ref o0]) rfl ?_
        refine x_get C 18 rfl fX8_148 N 0 rfl (v := .int (nI ma)) rfl ?_
        refine x_run C 19 1 (pc' := 53) (lv' := [(0, .ref o0), (1, .int x)]) (st' := [.int (nI ma)]) rfl ?_
        exact x_iret C B rfl 27 rfl (Nat.zero_le _) (Nat.zero_le _) ⟨by first | contradiction | (simp only [cntR, if_neg hc1, if_neg hc2, if_pos hc3]; done) | (simp only [cntR, if_neg hc1, if_neg hc2, if_pos hc3]; simp only [nlit, nI_add, pk_mul]; done) | (simp only [cntR, if_neg hc1, if_neg hc2, if_pos hc3, nlit, nI_add, pk_mul]; done) | rfl | (simp only [cntR, if_neg hc1, if_neg hc2, if_pos hc3]; rfl) | (simp only [cntR, if_neg hc1, if_neg hc2, if_pos hc3, nlit, nI_add, pk_mul]; rfl), by first | contradiction | (simp only [cntR, if_neg hc1, if_neg hc2, if_pos hc3]; done) | (simp only [cntR, if_neg hc1, if_neg hc2, if_pos hc3]; simp only [nlit, nI_add, pk_mul]; done) | (simp only [cntR, if_neg hc1, if_neg hc2, if_pos hc3, nlit, nI_add, pk_mul]; done) | rfl | (simp only [cntR, if_neg hc1, if_neg hc2, if_pos hc3]; rfl) | (simp only [cntR, if_neg hc1, if_neg hc2, if_pos hc3, nlit, nI_add, pk_mul]; rfl)⟩
    · refine x_run C 11 1 (pc' := 22) (lv' := [(0, .ref o0), (1, .int x)]) (st' := [.ref o0]) rfl ?_
      refine x_get C 12 rfl fX8_190 N 0 rfl (v := .int (nI ci)) rfl ?_
      refine x_run C 13 1 (pc' := 53) (lv' := [(0, .ref o0), (1, .int x)]) (st' := [.int (nI ci)]) rfl ?_
      exact x_iret C B rfl 27 rfl (Nat.zero_le _) (Nat.zero_le _) ⟨by first | contradiction | (simp only [cntR, if_neg hc1, if_pos hc2]; done) | (simp only [cntR, if_neg hc1, if_pos hc2]; simp only [nlit, nI_add, pk_mul]; done) | (simp only [cntR, if_neg hc1, if_pos hc2, nlit, nI_add, pk_mul]; done) | rfl | (simp only [cntR, if_neg hc1, if_pos hc2]; rfl) | (simp only [cntR, if_neg hc1, if_pos hc2, nlit, nI_add, pk_mul]; rfl), by first | contradiction | (simp only [cntR, if_neg hc1, if_pos hc2]; done) | (simp only [cntR, if_neg hc1, if_pos hc2]; simp only [nlit, nI_add, pk_mul]; done) | (simp only [cntR, if_neg hc1, if_pos hc2, nlit, nI_add, pk_mul]; done) | rfl | (simp only [cntR, if_neg hc1, if_pos hc2]; rfl) | (simp only [cntR, if_neg hc1, if_pos hc2, nlit, nI_add, pk_mul]; rfl)⟩
  · refine x_run C 5 1 (pc' := 10) (lv' := [(0, .ref o0), (1, .int x)]) (st' := [.ref o0]) rfl ?_
    refine x_get C 6 rfl fX8_139 N 0 rfl (v := .int (nI sz)) rfl ?_
    refine x_run C 7 1 (pc' := 53) (lv' := [(0, .ref o0), (1, .int x)]) (st' := [.int (nI sz)]) rfl ?_
    exact x_iret C B rfl 27 rfl (Nat.zero_le _) (Nat.zero_le _) ⟨by first | contradiction | (simp only [cntR, if_pos hc1]; done) | (simp only [cntR, if_pos hc1]; simp only [nlit, nI_add, pk_mul]; done) | (simp only [cntR, if_pos hc1, nlit, nI_add, pk_mul]; done) | rfl | (simp only [cntR, if_pos hc1]; rfl) | (simp only [cntR, if_pos hc1, nlit, nI_add, pk_mul]; rfl), by first | contradiction | (simp only [cntR, if_pos hc1]; done) | (simp only [cntR, if_pos hc1]; simp only [nlit, nI_add, pk_mul]; done) | (simp only [cntR, if_pos hc1, nlit, nI_add, pk_mul]; done) | rfl | (simp only [cntR, if_pos hc1]; rfl) | (simp only [cntR, if_pos hc1, nlit, nI_add, pk_mul]; rfl)⟩
set_option maxHeartbeats 4000000 in
set_option maxRecDepth 100000 in
theorem c_X8_isCircuit (Y : xD) (w : va_W) (o0 : Nat) (A : Nat → Nat) (th : Int32) (su : Int32) (sz : Nat) (bl : Int32) (ci : Nat) (ma : Nat) (pa : Int32) (en : Int32) (wr : Int32) (j : Nat) (qm : Nat) (e0 : w[qm]? = some (o0, cO 8 (mo A th su (nI sz) bl (nI ci) (nI ma) pa en wr))) (N : xN w.length [qm]) (hj : j < ci) (h6 : ci ≤ 6) : Cf Y mX8_isCircuit 1 [.ref o0, .int (nI j)] w (some (.int 1)) [(qm, (o0, cO 8 (mo A th su (nI sz) bl (nI ci) (nI ma) pa en wr)))] := by
  refine Ct.intro (T := tX8_isCircuit) (by decide) oX8_isCircuit (Nat.le_of_ble_eq_true rfl) (fun G C B => ?_)
  refine x_lay [(qm, (o0, cO 8 (mo A th su (nI sz) bl (nI ci) (nI ma) pa en wr)))] (lay_cons e0 lay_nil) ?_
  refine x_run C 0 3 (pc' := 3) (lv' := [(0, .ref o0), (1, .int (nI j))]) (st' := [.ref o0, .int 0, .int (nI j)]) rfl ?_
  refine x_get C 3 rfl fX8_190 N 0 rfl (v := .int (nI ci)) rfl ?_
  refine x_run C 4 2 (pc' := 8) (lv' := [(0, .ref o0), (1, .int (nI j))]) (st' := [.int ((nI ci) - 1), .int 0, .int (nI j)]) rfl ?_
  refine x_st (st' := [.int (nI (ci - 1)), .int (nI 0), .int (nI j)]) (by simp only [nlit, nI_add, pk_mul, pk_sub (show 1 ≤ ci by omega)]) ?_
  refine x_cs C 6 (As := [.int (nI j), .int (nI 0), .int (nI (ci - 1))]) (rest := []) rfl vX8_135 N (c_X8_in Y _ j 0 (ci - 1)    (by first | assumption | omega) (by first | assumption | omega) (by first | assumption | omega)) rfl rfl (Nat.le_of_ble_eq_true rfl) ⟨Nat.le_of_ble_eq_true rfl, Nat.le_of_ble_eq_true rfl⟩ ⟨Nat.zero_le _, Nat.zero_le _⟩ [] trivial (os' := [(qm, (o0, cO 8 (mo A th su (nI sz) bl (nI ci) (nI ma) pa en wr)))]) rfl (st' := [.int 1]) rfl ?_
  exact x_zret C B rfl 7 rfl (by first | exact Or.inl rfl | exact Or.inr rfl | decide) (Nat.zero_le _) (Nat.zero_le _) ⟨by first | rfl | (simp only [nlit, nI_add, pk_mul]; done), by first | rfl | (simp only [nlit, nI_add, pk_mul]; done)⟩
set_option maxHeartbeats 4000000 in
set_option maxRecDepth 100000 in
theorem c_X8_isCircuitF (Y : xD) (w : va_W) (o0 : Nat) (A : Nat → Nat) (th : Int32) (su : Int32) (sz : Nat) (bl : Int32) (ci : Nat) (ma : Nat) (pa : Int32) (en : Int32) (wr : Int32) (x : Int32) (qm : Nat) (e0 : w[qm]? = some (o0, cO 8 (mo A th su (nI sz) bl (nI ci) (nI ma) pa en wr))) (N : xN w.length [qm]) (hx : x < 0 ∨ nI ci ≤ x) (h6 : ci ≤ 6) : Cf Y mX8_isCircuit 1 [.ref o0, .int x] w (some (.int 0)) [(qm, (o0, cO 8 (mo A th su (nI sz) bl (nI ci) (nI ma) pa en wr)))] := by
  refine Ct.intro (T := tX8_isCircuit) (by decide) oX8_isCircuit (Nat.le_of_ble_eq_true rfl) (fun G C B => ?_)
  refine x_lay [(qm, (o0, cO 8 (mo A th su (nI sz) bl (nI ci) (nI ma) pa en wr)))] (lay_cons e0 lay_nil) ?_
  refine x_run C 0 3 (pc' := 3) (lv' := [(0, .ref o0), (1, .int x)]) (st' := [.ref o0, .int 0, .int x]) rfl ?_
  refine x_get C 3 rfl fX8_190 N 0 rfl (v := .int (nI ci)) rfl ?_
  refine x_run C 4 2 (pc' := 8) (lv' := [(0, .ref o0), (1, .int x)]) (st' := [.int ((nI ci) - 1), .int 0, .int x]) rfl ?_
  refine x_cs C 6 (As := [.int x, .int 0, .int ((nI ci) - 1)]) (rest := []) rfl vX8_135 N (c_X8_inF Y _ x 0 ((nI ci) - 1)    (hx.imp id (le_pred (by omega)))) rfl rfl (Nat.le_of_ble_eq_true rfl) ⟨Nat.le_of_ble_eq_true rfl, Nat.le_of_ble_eq_true rfl⟩ ⟨Nat.zero_le _, Nat.zero_le _⟩ [] trivial (os' := [(qm, (o0, cO 8 (mo A th su (nI sz) bl (nI ci) (nI ma) pa en wr)))]) rfl (st' := [.int 0]) rfl ?_
  exact x_zret C B rfl 7 rfl (by first | exact Or.inl rfl | exact Or.inr rfl | decide) (Nat.zero_le _) (Nat.zero_le _) ⟨by first | rfl | (simp only [nlit, nI_add, pk_mul]; done), by first | rfl | (simp only [nlit, nI_add, pk_mul]; done)⟩
set_option maxHeartbeats 4000000 in
set_option maxRecDepth 100000 in
theorem c_X8_isGarbled (Y : xD) (w : va_W) (o0 : Nat) (A : Nat → Nat) (th : Int32) (su : Int32) (sz : Nat) (bl : Int32) (ci : Nat) (ma : Nat) (pa : Int32) (en : Int32) (wr : Int32) (j : Nat) (qm : Nat) (e0 : w[qm]? = some (o0, cO 8 (mo A th su (nI sz) bl (nI ci) (nI ma) pa en wr))) (N : xN w.length [qm]) (hj : j < ma) (h6 : ma ≤ 6) : Cf Y mX8_isGarbled 1 [.ref o0, .int (nI j)] w (some (.int 1)) [(qm, (o0, cO 8 (mo A th su (nI sz) bl (nI ci) (nI ma) pa en wr)))] := by
  refine Ct.intro (T := tX8_isGarbled) (by decide) oX8_isGarbled (Nat.le_of_ble_eq_true rfl) (fun G C B => ?_)
  refine x_lay [(qm, (o0, cO 8 (mo A th su (nI sz) bl (nI ci) (nI ma) pa en wr)))] (lay_cons e0 lay_nil) ?_
  refine x_run C 0 3 (pc' := 3) (lv' := [(0, .ref o0), (1, .int (nI j))]) (st' := [.ref o0, .int 0, .int (nI j)]) rfl ?_
  refine x_get C 3 rfl fX8_148 N 0 rfl (v := .int (nI ma)) rfl ?_
  refine x_run C 4 2 (pc' := 8) (lv' := [(0, .ref o0), (1, .int (nI j))]) (st' := [.int ((nI ma) - 1), .int 0, .int (nI j)]) rfl ?_
  refine x_st (st' := [.int (nI (ma - 1)), .int (nI 0), .int (nI j)]) (by simp only [nlit, nI_add, pk_mul, pk_sub (show 1 ≤ ma by omega)]) ?_
  refine x_cs C 6 (As := [.int (nI j), .int (nI 0), .int (nI (ma - 1))]) (rest := []) rfl vX8_135 N (c_X8_in Y _ j 0 (ma - 1)    (by first | assumption | omega) (by first | assumption | omega) (by first | assumption | omega)) rfl rfl (Nat.le_of_ble_eq_true rfl) ⟨Nat.le_of_ble_eq_true rfl, Nat.le_of_ble_eq_true rfl⟩ ⟨Nat.zero_le _, Nat.zero_le _⟩ [] trivial (os' := [(qm, (o0, cO 8 (mo A th su (nI sz) bl (nI ci) (nI ma) pa en wr)))]) rfl (st' := [.int 1]) rfl ?_
  exact x_zret C B rfl 7 rfl (by first | exact Or.inl rfl | exact Or.inr rfl | decide) (Nat.zero_le _) (Nat.zero_le _) ⟨by first | rfl | (simp only [nlit, nI_add, pk_mul]; done), by first | rfl | (simp only [nlit, nI_add, pk_mul]; done)⟩
set_option maxHeartbeats 4000000 in
set_option maxRecDepth 100000 in
theorem c_X8_isGarbledF (Y : xD) (w : va_W) (o0 : Nat) (A : Nat → Nat) (th : Int32) (su : Int32) (sz : Nat) (bl : Int32) (ci : Nat) (ma : Nat) (pa : Int32) (en : Int32) (wr : Int32) (x : Int32) (qm : Nat) (e0 : w[qm]? = some (o0, cO 8 (mo A th su (nI sz) bl (nI ci) (nI ma) pa en wr))) (N : xN w.length [qm]) (hx : x < 0 ∨ nI ma ≤ x) (h6 : ma ≤ 6) : Cf Y mX8_isGarbled 1 [.ref o0, .int x] w (some (.int 0)) [(qm, (o0, cO 8 (mo A th su (nI sz) bl (nI ci) (nI ma) pa en wr)))] := by
  refine Ct.intro (T := tX8_isGarbled) (by decide) oX8_isGarbled (Nat.le_of_ble_eq_true rfl) (fun G C B => ?_)
  refine x_lay [(qm, (o0, cO 8 (mo A th su (nI sz) bl (nI ci) (nI ma) pa en wr)))] (lay_cons e0 lay_nil) ?_
  refine x_run C 0 3 (pc' := 3) (lv' := [(0, .ref o0), (1, .int x)]) (st' := [.ref o0, .int 0, .int x]) rfl ?_
  refine x_get C 3 rfl fX8_148 N 0 rfl (v := .int (nI ma)) rfl ?_
  refine x_run C 4 2 (pc' := 8) (lv' := [(0, .ref o0), (1, .int x)]) (st' := [.int ((nI ma) - 1), .int 0, .int x]) rfl ?_
  refine x_cs C 6 (As := [.int x, .int 0, .int ((nI ma) - 1)]) (rest := []) rfl vX8_135 N (c_X8_inF Y _ x 0 ((nI ma) - 1)    (hx.imp id (le_pred (by omega)))) rfl rfl (Nat.le_of_ble_eq_true rfl) ⟨Nat.le_of_ble_eq_true rfl, Nat.le_of_ble_eq_true rfl⟩ ⟨Nat.zero_le _, Nat.zero_le _⟩ [] trivial (os' := [(qm, (o0, cO 8 (mo A th su (nI sz) bl (nI ci) (nI ma) pa en wr)))]) rfl (st' := [.int 0]) rfl ?_
  exact x_zret C B rfl 7 rfl (by first | exact Or.inl rfl | exact Or.inr rfl | decide) (Nat.zero_le _) (Nat.zero_le _) ⟨by first | rfl | (simp only [nlit, nI_add, pk_mul]; done), by first | rfl | (simp only [nlit, nI_add, pk_mul]; done)⟩
set_option maxHeartbeats 4000000 in
set_option maxRecDepth 100000 in
theorem c_X8_placeOf (Y : xD) (w : va_W) (j : Nat) (v : Nat)     : Cf Y mX8_placeOf 0 [.int (nI j), .int (nI v)] w (some (.int (nI (16 * (56 * j + v))))) [] := by
  refine Ct.intro (T := tX8_placeOf) (by decide) oX8_placeOf (Nat.le_of_ble_eq_true rfl) (fun G C B => ?_)
  have N : xN w.length (keys []) := xN_nil _
  refine x_lay [] lay_nil ?_
  refine x_run C 0 7 (pc' := 9) (lv' := [(0, .int (nI j)), (1, .int (nI v))]) (st' := [.int (16 * ((56 * (nI j)) + (nI v)))]) rfl ?_
  exact x_iret C B rfl 7 rfl (Nat.zero_le _) (Nat.zero_le _) ⟨by first | rfl | (simp only [nlit, nI_add, pk_mul]; done), by first | rfl | (simp only [nlit, nI_add, pk_mul]; done)⟩
set_option maxHeartbeats 4000000 in
set_option maxRecDepth 100000 in
theorem c_X8_rowAt (Y : xD) (w : va_W) (j : Nat) (t : Nat) (r : Nat)     : Cf Y mX8_rowAt 0 [.int (nI j), .int (nI t), .int (nI r)] w (some (.int (nI (16 * (4 * (40 * j + t) + r))))) [] := by
  refine Ct.intro (T := tX8_rowAt) (by decide) oX8_rowAt (Nat.le_of_ble_eq_true rfl) (fun G C B => ?_)
  have N : xN w.length (keys []) := xN_nil _
  refine x_lay [] lay_nil ?_
  refine x_run C 0 11 (pc' := 13) (lv' := [(0, .int (nI j)), (1, .int (nI t)), (2, .int (nI r))]) (st' := [.int (16 * ((4 * ((40 * (nI j)) + (nI t))) + (nI r)))]) rfl ?_
  exact x_iret C B rfl 11 rfl (Nat.zero_le _) (Nat.zero_le _) ⟨by first | rfl | (simp only [nlit, nI_add, pk_mul]; done), by first | rfl | (simp only [nlit, nI_add, pk_mul]; done)⟩
set_option maxHeartbeats 4000000 in
set_option maxRecDepth 100000 in
theorem c_X8_result (Y : xD) (w : va_W) (o0 : Nat) (A : Nat → Nat) (th : Int32) (su : Int32) (sz : Nat) (bl : Int32) (ci : Nat) (ma : Nat) (pa : Int32) (en : Int32) (wr : Int32) (fr : Nat → Nat) (b : Nat) (qm q_result : Nat) (e0 : w[qm]? = some (o0, cO 8 (mo A th su (nI sz) bl (nI ci) (nI ma) pa en wr))) (e1 : w[q_result]? = some (A 1, cI Y 16 (iF fr))) (N : xN w.length [qm, q_result]) (hb : b < 16) : Cf Y mX8_result 1 [.ref o0, .int (nI b)] w (some (.int (nI (fr b)))) [(qm, (o0, cO 8 (mo A (nI 0) su (nI sz) bl (nI ci) (nI ma) pa en wr))), (q_result, (A 1, cI Y 16 (iF fr)))] := by
  refine Ct.intro (T := tX8_result) (by decide) oX8_result (Nat.le_of_ble_eq_true rfl) (fun G C B => ?_)
  refine x_lay [(qm, (o0, cO 8 (mo A th su (nI sz) bl (nI ci) (nI ma) pa en wr))), (q_result, (A 1, cI Y 16 (iF fr)))] (lay_cons e0 (lay_cons e1 lay_nil)) ?_
  refine x_run C 0 2 (pc' := 2) (lv' := [(0, .ref o0), (1, .int (nI b))]) (st' := [.int 0, .ref o0]) rfl ?_
  refine x_put C 2 rfl pX8_117 N 0 rfl rfl rfl (Nat.le_of_ble_eq_true rfl) (os' := [(qm, (o0, cO 8 (mo A (nI 0) su (nI sz) bl (nI ci) (nI ma) pa en wr))), (q_result, (A 1, cI Y 16 (iF fr)))]) rfl ?_
  refine x_run C 3 3 (pc' := 9) (lv' := [(0, .ref o0), (1, .int (nI b))]) (st' := [.int 15, .int 0, .int (nI b)]) rfl ?_
  refine x_st (st' := [.int (nI 15), .int (nI 0), .int (nI b)]) (by simp only [nlit, nI_add, pk_mul]) ?_
  refine x_cs C 6 (As := [.int (nI b), .int (nI 0), .int (nI 15)]) (rest := []) rfl vX8_135 N (c_X8_in Y _ b 0 15    (by first | assumption | omega) (by first | assumption | omega) (by first | assumption | omega)) rfl rfl (Nat.le_of_ble_eq_true rfl) ⟨Nat.le_of_ble_eq_true rfl, Nat.le_of_ble_eq_true rfl⟩ ⟨Nat.zero_le _, Nat.zero_le _⟩ [] trivial (os' := [(qm, (o0, cO 8 (mo A (nI 0) su (nI sz) bl (nI ci) (nI ma) pa en wr))), (q_result, (A 1, cI Y 16 (iF fr)))]) rfl (st' := [.int 1]) rfl ?_
  refine x_st (st' := [.int (nI 1)]) (by simp only [nlit, nI_add, pk_mul]) ?_
  refine x_ifN_eq C 7 (by omega) rfl (tgt := 24) rfl (fun hc1 => absurd hc1 (by omega)) (fun hc1 => ?_)
  refine x_run C 8 1 (pc' := 16) (lv' := [(0, .ref o0), (1, .int (nI b))]) (st' := [.ref o0]) rfl ?_
  refine x_get C 9 rfl fX8_13 N 0 rfl (v := .ref (A 1)) rfl ?_
  refine x_run C 10 1 (pc' := 20) (lv' := [(0, .ref o0), (1, .int (nI b))]) (st' := [.int (nI b), .ref (A 1)]) rfl ?_
  refine x_ialdN C 11 rfl N 1 rfl (by omega) (by omega) ?_
  refine x_st (st' := [.int (nI (fr b))]) rfl ?_
  refine x_run C 12 1 (pc' := 25) (lv' := [(0, .ref o0), (1, .int (nI b))]) (st' := [.int (nI (fr b))]) rfl ?_
  exact x_iret C B rfl 14 rfl (Nat.zero_le _) (Nat.zero_le _) ⟨by first | rfl | (simp only [nlit, nI_add, pk_mul]; done), by first | rfl | (simp only [nlit, nI_add, pk_mul]; done)⟩
set_option maxHeartbeats 4000000 in
set_option maxRecDepth 100000 in
theorem c_X8_resultF (Y : xD) (w : va_W) (o0 : Nat) (A : Nat → Nat) (th : Int32) (su : Int32) (sz : Nat) (bl : Int32) (ci : Nat) (ma : Nat) (pa : Int32) (en : Int32) (wr : Int32) (x : Int32) (qm : Nat) (e0 : w[qm]? = some (o0, cO 8 (mo A th su (nI sz) bl (nI ci) (nI ma) pa en wr))) (N : xN w.length [qm]) (hx : x < 0 ∨ 16 ≤ x) : Cf Y mX8_result 1 [.ref o0, .int x] w (some (.int (-1))) [(qm, (o0, cO 8 (mo A (nI 0) su (nI sz) bl (nI ci) (nI ma) pa en wr)))] := by
  refine Ct.intro (T := tX8_result) (by decide) oX8_result (Nat.le_of_ble_eq_true rfl) (fun G C B => ?_)
  refine x_lay [(qm, (o0, cO 8 (mo A th su (nI sz) bl (nI ci) (nI ma) pa en wr)))] (lay_cons e0 lay_nil) ?_
  refine x_run C 0 2 (pc' := 2) (lv' := [(0, .ref o0), (1, .int x)]) (st' := [.int 0, .ref o0]) rfl ?_
  refine x_put C 2 rfl pX8_117 N 0 rfl rfl rfl (Nat.le_of_ble_eq_true rfl) (os' := [(qm, (o0, cO 8 (mo A (nI 0) su (nI sz) bl (nI ci) (nI ma) pa en wr)))]) rfl ?_
  refine x_run C 3 3 (pc' := 9) (lv' := [(0, .ref o0), (1, .int x)]) (st' := [.int 15, .int 0, .int x]) rfl ?_
  refine x_cs C 6 (As := [.int x, .int 0, .int 15]) (rest := []) rfl vX8_135 N (c_X8_inF Y _ x 0 15    (hx.imp id (fun h => Int32.lt_of_lt_of_le (by decide) h))) rfl rfl (Nat.le_of_ble_eq_true rfl) ⟨Nat.le_of_ble_eq_true rfl, Nat.le_of_ble_eq_true rfl⟩ ⟨Nat.zero_le _, Nat.zero_le _⟩ [] trivial (os' := [(qm, (o0, cO 8 (mo A (nI 0) su (nI sz) bl (nI ci) (nI ma) pa en wr)))]) rfl (st' := [.int 0]) rfl ?_
  refine x_st (st' := [.int (nI 0)]) (by simp only [nlit, nI_add, pk_mul]) ?_
  refine x_ifN_eq C 7 (by omega) rfl (tgt := 24) rfl (fun hc1 => ?_) (fun hc1 => absurd hc1 (by omega))
  refine x_run C 13 1 (pc' := 25) (lv' := [(0, .ref o0), (1, .int x)]) (st' := [.int (-1)]) rfl ?_
  exact x_iret C B rfl 14 rfl (Nat.zero_le _) (Nat.zero_le _) ⟨by first | rfl | (simp only [nlit, nI_add, pk_mul]; done), by first | rfl | (simp only [nlit, nI_add, pk_mul]; done)⟩
/-- the reference's product, step by step: the sum, the shifted factor -/
def tmS (a b : Int32) : Nat → Int32 × Int32
  | 0 => (0, a)
  | k + 1 => ((tmS a b k).1 ^^^ (if jshr b (nI k) &&& 1 = 1 then (tmS a b k).2 else 0), jshl (tmS a b k).2 1 ^^^ (if (tmS a b k).2 ≤ 127 then 0 else 283))
def tmI (a b : Int32) : Int32 := (tmS a b 8).1
set_option maxHeartbeats 4000000 in
set_option maxRecDepth 100000 in
theorem c_X8_times (Y : xD) (w : va_W) (a : Int32) (b : Int32)     : Cf Y mX8_times 0 [.int a, .int b] w (some (.int (tmI a b))) [] := by
  refine Ct.intro (T := tX8_times) (by decide) oX8_times (Nat.le_of_ble_eq_true rfl) (fun G C B => ?_)
  have N : xN w.length (keys []) := xN_nil _
  refine x_lay [] lay_nil ?_
  refine x_run C 0 6 (pc' := 7) (lv' := [(4, .int 0), (3, .int 0), (2, .int a), (0, .int a), (1, .int b)]) (st' := []) rfl ?_
  have L7 : ∀ k : Nat, 0 ≤ k → k ≤ 8 → X G Y 0 0 7 [(0, .int a), (1, .int b), (2, .int ((tmS a b k).2)), (3, .int ((tmS a b k).1)), (4, .int (nI k))] [] (ovl w []) := by
    intro k lo7 hi7
    revert lo7
    refine x_up (fun k => 0 ≤ k → X G Y 0 0 7 [(0, .int a), (1, .int b), (2, .int ((tmS a b k).2)), (3, .int ((tmS a b k).1)), (4, .int (nI k))] [] (ovl w [])) 8 ?_ ?_ k hi7
    · intro lo7
      refine x_run C 6 2 (pc' := 11) (lv' := [(0, .int a), (1, .int b), (2, .int ((tmS a b 8).2)), (3, .int ((tmS a b 8).1)), (4, .int (nI 8))]) (st' := [.int 8, .int (nI 8)]) rfl ?_
      refine x_st (st' := [.int (nI 8), .int (nI 8)]) (by simp only [nlit, nI_add, pk_mul]) ?_
      refine x_icmpN_ge C 8 (by omega) (by omega) rfl (tgt := 56) rfl (fun hc1 => ?_) (fun hc1 => ?_)
      · refine x_run C 35 1 (pc' := 57) (lv' := [(0, .int a), (1, .int b), (2, .int ((tmS a b 8).2)), (3, .int ((tmS a b 8).1)), (4, .int (nI 8))]) (st' := [.int ((tmS a b 8).1)]) rfl ?_
        exact x_iret C B rfl 36 rfl (Nat.zero_le _) (Nat.zero_le _) ⟨by first | contradiction | (simp only [tmI]; done) | (simp only [tmI]; simp only [nlit, nI_add, pk_mul]; done) | (simp only [tmI, nlit, nI_add, pk_mul]; done) | rfl | (simp only [tmI]; rfl) | (simp only [tmI, nlit, nI_add, pk_mul]; rfl), by first | contradiction | (simp only [tmI]; done) | (simp only [tmI]; simp only [nlit, nI_add, pk_mul]; done) | (simp only [tmI, nlit, nI_add, pk_mul]; done) | rfl | (simp only [tmI]; rfl) | (simp only [tmI, nlit, nI_add, pk_mul]; rfl)⟩
      · exact absurd hc1 (by omega)
    · intro k hi7 ih7 lo7
      refine x_run C 6 2 (pc' := 11) (lv' := [(0, .int a), (1, .int b), (2, .int ((tmS a b k).2)), (3, .int ((tmS a b k).1)), (4, .int (nI k))]) (st' := [.int 8, .int (nI k)]) rfl ?_
      refine x_st (st' := [.int (nI 8), .int (nI k)]) (by simp only [nlit, nI_add, pk_mul]) ?_
      refine x_icmpN_ge C 8 (by omega) (by omega) rfl (tgt := 56) rfl (fun hc2 => ?_) (fun hc2 => ?_)
      · exact absurd hc2 (by omega)
      · refine x_run C 9 7 (pc' := 22) (lv' := [(0, .int a), (1, .int b), (2, .int ((tmS a b k).2)), (3, .int ((tmS a b k).1)), (4, .int (nI k))]) (st' := [.int 1, .int ((jshr b (nI k)) &&& 1), .int ((tmS a b k).1)]) rfl ?_
        refine x_icmp_ne C 16 rfl (tgt := 29) rfl (fun hc3 => ?_) (fun hc3 => ?_)
        · refine x_run C 19 8 (pc' := 38) (lv' := [(3, .int (((tmS a b k).1) ^^^ 0)), (0, .int a), (1, .int b), (2, .int ((tmS a b k).2)), (4, .int (nI k))]) (st' := [.int 127, .int ((tmS a b k).2), .int (jshl ((tmS a b k).2) 1)]) rfl ?_
          refine x_icmp_le C 27 rfl (tgt := 47) rfl (fun hc4 => ?_) (fun hc4 => ?_)
          · refine x_run C 30 5 (pc' := 7) (lv' := [(4, .int ((nI k) + 1)), (2, .int ((jshl ((tmS a b k).2) 1) ^^^ 0)), (3, .int (((tmS a b k).1) ^^^ 0)), (0, .int a), (1, .int b)]) (st' := []) rfl ?_
            refine x_sub (lv' := [(0, .int a), (1, .int b), (2, .int ((jshl ((tmS a b k).2) 1) ^^^ 0)), (3, .int (((tmS a b k).1) ^^^ 0)), (4, .int ((nI k) + 1))]) [3, 4, 1, 2, 0] rfl ?_
            refine x_loc (lv' := [(0, .int a), (1, .int b), (2, .int ((tmS a b (k + 1)).2)), (3, .int ((tmS a b (k + 1)).1)), (4, .int (nI (k + 1)))]) (by simp only [tmS, if_neg hc3, if_pos hc4]; simp only [nlit, nI_add]) ?_
            exact ih7 (by omega)
          · refine x_run C 28 2 (pc' := 48) (lv' := [(3, .int (((tmS a b k).1) ^^^ 0)), (0, .int a), (1, .int b), (2, .int ((tmS a b k).2)), (4, .int (nI k))]) (st' := [.int 283, .int (jshl ((tmS a b k).2) 1)]) rfl ?_
            refine x_run C 31 4 (pc' := 7) (lv' := [(4, .int ((nI k) + 1)), (2, .int ((jshl ((tmS a b k).2) 1) ^^^ 283)), (3, .int (((tmS a b k).1) ^^^ 0)), (0, .int a), (1, .int b)]) (st' := []) rfl ?_
            refine x_sub (lv' := [(0, .int a), (1, .int b), (2, .int ((jshl ((tmS a b k).2) 1) ^^^ 283)), (3, .int (((tmS a b k).1) ^^^ 0)), (4, .int ((nI k) + 1))]) [3, 4, 1, 2, 0] rfl ?_
            refine x_loc (lv' := [(0, .int a), (1, .int b), (2, .int ((tmS a b (k + 1)).2)), (3, .int ((tmS a b (k + 1)).1)), (4, .int (nI (k + 1)))]) (by simp only [tmS, if_neg hc3, if_neg hc4]; simp only [nlit, nI_add]) ?_
            exact ih7 (by omega)
        · refine x_run C 17 2 (pc' := 30) (lv' := [(0, .int a), (1, .int b), (2, .int ((tmS a b k).2)), (3, .int ((tmS a b k).1)), (4, .int (nI k))]) (st' := [.int ((tmS a b k).2), .int ((tmS a b k).1)]) rfl ?_
          refine x_run C 20 7 (pc' := 38) (lv' := [(3, .int (((tmS a b k).1) ^^^ ((tmS a b k).2))), (0, .int a), (1, .int b), (2, .int ((tmS a b k).2)), (4, .int (nI k))]) (st' := [.int 127, .int ((tmS a b k).2), .int (jshl ((tmS a b k).2) 1)]) rfl ?_
          refine x_icmp_le C 27 rfl (tgt := 47) rfl (fun hc5 => ?_) (fun hc5 => ?_)
          · refine x_run C 30 5 (pc' := 7) (lv' := [(4, .int ((nI k) + 1)), (2, .int ((jshl ((tmS a b k).2) 1) ^^^ 0)), (3, .int (((tmS a b k).1) ^^^ ((tmS a b k).2))), (0, .int a), (1, .int b)]) (st' := []) rfl ?_
            refine x_sub (lv' := [(0, .int a), (1, .int b), (2, .int ((jshl ((tmS a b k).2) 1) ^^^ 0)), (3, .int (((tmS a b k).1) ^^^ ((tmS a b k).2))), (4, .int ((nI k) + 1))]) [3, 4, 1, 2, 0] rfl ?_
            refine x_loc (lv' := [(0, .int a), (1, .int b), (2, .int ((tmS a b (k + 1)).2)), (3, .int ((tmS a b (k + 1)).1)), (4, .int (nI (k + 1)))]) (by simp only [tmS, if_pos hc3, if_pos hc5]; simp only [nlit, nI_add]) ?_
            exact ih7 (by omega)
          · refine x_run C 28 2 (pc' := 48) (lv' := [(3, .int (((tmS a b k).1) ^^^ ((tmS a b k).2))), (0, .int a), (1, .int b), (2, .int ((tmS a b k).2)), (4, .int (nI k))]) (st' := [.int 283, .int (jshl ((tmS a b k).2) 1)]) rfl ?_
            refine x_run C 31 4 (pc' := 7) (lv' := [(4, .int ((nI k) + 1)), (2, .int ((jshl ((tmS a b k).2) 1) ^^^ 283)), (3, .int (((tmS a b k).1) ^^^ ((tmS a b k).2))), (0, .int a), (1, .int b)]) (st' := []) rfl ?_
            refine x_sub (lv' := [(0, .int a), (1, .int b), (2, .int ((jshl ((tmS a b k).2) 1) ^^^ 283)), (3, .int (((tmS a b k).1) ^^^ ((tmS a b k).2))), (4, .int ((nI k) + 1))]) [3, 4, 1, 2, 0] rfl ?_
            refine x_loc (lv' := [(0, .int a), (1, .int b), (2, .int ((tmS a b (k + 1)).2)), (3, .int ((tmS a b (k + 1)).1)), (4, .int (nI (k + 1)))]) (by simp only [tmS, if_pos hc3, if_neg hc5]; simp only [nlit, nI_add]) ?_
            exact ih7 (by omega)
  refine x_sub (lv' := [(0, .int a), (1, .int b), (2, .int a), (3, .int 0), (4, .int 0)]) [3, 4, 2, 1, 0] rfl ?_
  refine x_loc (lv' := [(0, .int a), (1, .int b), (2, .int ((tmS a b 0).2)), (3, .int ((tmS a b 0).1)), (4, .int (nI 0))]) (by rfl) ?_
  exact L7 0 (Nat.le_refl _) (by omega)
