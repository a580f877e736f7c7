set_option maxHeartbeats 4000000 in
set_option maxRecDepth 100000 in
theorem c_X8_placeF (Y : xD) (w : va_W) (o0 : Nat) (A : Nat → Nat) (th : Int32) (su : Int32) (sz : Nat) (bl : Int32) (ci : Nat) (ma : Nat) (pa : Int32) (en : Int32) (wr : Int32) (x : Int32) (x0 : Int32) (x1 : Int32) (x2 : Int32) (qm : Nat) (e0 : w[qm]? = some (o0, cO 8 (mo A th su (nI sz) bl (nI ci) (nI ma) pa en wr))) (N : xN w.length [qm]) (hx : x < 0 ∨ nI ma ≤ x) (h6 : ma ≤ 6) : Cf Y mX8_place 2 [.ref o0, .int x, .int x0, .int x1, .int x2] w (some (.long 0)) [(qm, (o0, cO 8 (mo A (nI 0) (-1) (nI sz) bl (nI ci) (nI ma) pa en wr)))] := by
  refine Ct.intro (T := tX8_place) (by decide) oX8_place (Nat.le_of_ble_eq_true rfl) (fun G C B => ?_)
  refine x_lay [(qm, (o0, cO 8 (mo A th su (nI sz) bl (nI ci) (nI ma) pa en wr)))] (lay_cons e0 lay_nil) ?_
  refine x_run C 0 2 (pc' := 2) (lv' := [(0, .ref o0), (1, .int x), (2, .int x0), (3, .int x1), (4, .int x2)]) (st' := [.int 0, .ref o0]) rfl ?_
  refine x_put C 2 rfl pX8_117 N 0 rfl rfl rfl (Nat.le_of_ble_eq_true rfl) (os' := [(qm, (o0, cO 8 (mo A (nI 0) su (nI sz) bl (nI ci) (nI ma) pa en wr)))]) rfl ?_
  refine x_run C 3 2 (pc' := 7) (lv' := [(0, .ref o0), (1, .int x), (2, .int x0), (3, .int x1), (4, .int x2)]) (st' := [.int 0, .ref o0]) rfl ?_
  refine x_put C 5 rfl pX8_247 N 0 rfl rfl rfl (Nat.le_of_ble_eq_true rfl) (os' := [(qm, (o0, cO 8 (mo A (nI 0) (nI 0) (nI sz) bl (nI ci) (nI ma) pa en wr)))]) rfl ?_
  refine x_run C 6 2 (pc' := 12) (lv' := [(0, .ref o0), (1, .int x), (2, .int x0), (3, .int x1), (4, .int x2)]) (st' := [.int x, .ref o0]) rfl ?_
  refine x_cv C 8 (As := [.int x]) (rest := []) rfl vX8_230 N 0 rfl rfl (c_X8_isGarbledF Y _ o0 A (nI 0) (nI 0) sz bl ci ma pa en wr x qm (ovl_at 0 N rfl) (N.ov [0] (by decide) rfl) hx (by first | assumption | omega)) rfl rfl (Nat.le_of_ble_eq_true rfl) ⟨Nat.le_of_ble_eq_true rfl, Nat.le_of_ble_eq_true rfl⟩ ⟨Nat.zero_le _, Nat.zero_le _⟩ [0] ⟨rfl, trivial⟩ (os' := [(qm, (o0, cO 8 (mo A (nI 0) (nI 0) (nI sz) bl (nI ci) (nI ma) pa en wr)))]) rfl (st' := [.int 0]) rfl ?_
  refine x_st (st' := [.int (nI 0)]) (by simp only [nlit, nI_add, pk_mul]) ?_
  refine x_ifN_eq C 9 (by omega) rfl (tgt := 47) rfl (fun hc1 => ?_) (fun hc1 => absurd hc1 (by omega))
  refine x_run C 27 2 (pc' := 49) (lv' := [(0, .ref o0), (1, .int x), (2, .int x0), (3, .int x1), (4, .int x2)]) (st' := [.int (-1), .ref o0]) rfl ?_
  refine x_cv C 29 (As := [.int (-1)]) (rest := []) rfl vX8_250 N 0 rfl rfl (c_X8_no Y _ o0 A (nI 0) (nI 0) sz bl ci ma pa en wr (-1) qm (ovl_at 0 N rfl) (N.ov [0] (by decide) rfl) ) rfl rfl (Nat.le_of_ble_eq_true rfl) ⟨Nat.le_of_ble_eq_true rfl, Nat.le_of_ble_eq_true rfl⟩ ⟨Nat.zero_le _, Nat.zero_le _⟩ [0] ⟨rfl, trivial⟩ (os' := [(qm, (o0, cO 8 (mo A (nI 0) (-1) (nI sz) bl (nI ci) (nI ma) pa en wr)))]) rfl (st' := [.long 0]) rfl ?_
  exact x_lret C B rfl 30 rfl (Nat.zero_le _) (Nat.zero_le _) ⟨by first | rfl | (simp only [nlit, nI_add, pk_mul]; done), by first | rfl | (simp only [nlit, nI_add, pk_mul]; done)⟩
set_option maxHeartbeats 4000000 in
set_option maxRecDepth 100000 in
theorem c_X8_placeW (Y : xD) (w : va_W) (o0 : Nat) (A : Nat → Nat) (th : Int32) (su : Int32) (sz : Nat) (bl : Int32) (ci : Nat) (ma : Nat) (pa : Int32) (en : Int32) (wr : Int32) (co : Nat → Int32) (i1 : Nat → Int32) (g1 : Nat → Int32) (j : Nat) (c : Nat) (n : Nat) (g : Nat) (v : Int32) (k : Int32) (i : Int32) (qm q_circuitOf q_inputs q_gates : Nat) (e0 : w[qm]? = some (o0, cO 8 (mo A th su (nI sz) bl (nI ci) (nI ma) pa en wr))) (e1 : w[q_circuitOf]? = some (A 15, cI Y 6 co)) (e2 : w[q_inputs]? = some (A 6, cI Y 6 i1)) (e3 : w[q_gates]? = some (A 7, cI Y 6 g1)) (N : xN w.length [qm, q_circuitOf, q_inputs, q_gates]) (hj : j < ma) (h6 : ma ≤ 6) (hc6 : c < 6) (hn16 : n ≤ 16) (hn1 : 1 ≤ n) (hg40 : g ≤ 40) (hco : co j = nI c) (hin : i1 c = nI n) (hga : g1 c = nI g) (hv : v < 0 ∨ nI (n + g) ≤ v) : Cf Y mX8_place 2 [.ref o0, .int (nI j), .int v, .int k, .int i] w (some (.long 0)) [(qm, (o0, cO 8 (mo A (nI 0) (-1) (nI sz) bl (nI ci) (nI ma) pa en wr))), (q_circuitOf, (A 15, cI Y 6 co)), (q_inputs, (A 6, cI Y 6 i1)), (q_gates, (A 7, cI Y 6 g1))] := by
  refine Ct.intro (T := tX8_place) (by decide) oX8_place (Nat.le_of_ble_eq_true rfl) (fun G C B => ?_)
  refine x_lay [(qm, (o0, cO 8 (mo A th su (nI sz) bl (nI ci) (nI ma) pa en wr))), (q_circuitOf, (A 15, cI Y 6 co)), (q_inputs, (A 6, cI Y 6 i1)), (q_gates, (A 7, cI Y 6 g1))] (lay_cons e0 (lay_cons e1 (lay_cons e2 (lay_cons e3 lay_nil)))) ?_
  refine x_run C 0 2 (pc' := 2) (lv' := [(0, .ref o0), (1, .int (nI j)), (2, .int v), (3, .int k), (4, .int i)]) (st' := [.int 0, .ref o0]) rfl ?_
  refine x_put C 2 rfl pX8_117 N 0 rfl rfl rfl (Nat.le_of_ble_eq_true rfl) (os' := [(qm, (o0, cO 8 (mo A (nI 0) su (nI sz) bl (nI ci) (nI ma) pa en wr))), (q_circuitOf, (A 15, cI Y 6 co)), (q_inputs, (A 6, cI Y 6 i1)), (q_gates, (A 7, cI Y 6 g1))]) rfl ?_
  refine x_run C 3 2 (pc' := 7) (lv' := [(0, .ref o0), (1, .int (nI j)), (2, .int v), (3, .int k), (4, .int i)]) (st' := [.int 0, .ref o0]) rfl ?_
  refine x_put C 5 rfl pX8_247 N 0 rfl rfl rfl (Nat.le_of_ble_eq_true rfl) (os' := [(qm, (o0, cO 8 (mo A (nI 0) (nI 0) (nI sz) bl (nI ci) (nI ma) pa en wr))), (q_circuitOf, (A 15, cI Y 6 co)), (q_inputs, (A 6, cI Y 6 i1)), (q_gates, (A 7, cI Y 6 g1))]) rfl ?_
  refine x_run C 6 2 (pc' := 12) (lv' := [(0, .ref o0), (1, .int (nI j)), (2, .int v), (3, .int k), (4, .int i)]) (st' := [.int (nI j), .ref o0]) rfl ?_
  refine x_cv C 8 (As := [.int (nI j)]) (rest := []) rfl vX8_230 N 0 rfl rfl (c_X8_isGarbled Y _ o0 A (nI 0) (nI 0) sz bl ci ma pa en wr j qm (ovl_at 0 N rfl) (N.ov [0] (by decide) rfl) (by first | assumption | omega) (by first | assumption | omega)) rfl rfl (Nat.le_of_ble_eq_true rfl) ⟨Nat.le_of_ble_eq_true rfl, Nat.le_of_ble_eq_true rfl⟩ ⟨Nat.zero_le _, Nat.zero_le _⟩ [0] ⟨rfl, trivial⟩ (os' := [(qm, (o0, cO 8 (mo A (nI 0) (nI 0) (nI sz) bl (nI ci) (nI ma) pa en wr))), (q_circuitOf, (A 15, cI Y 6 co)), (q_inputs, (A 6, cI Y 6 i1)), (q_gates, (A 7, cI Y 6 g1))]) rfl (st' := [.int 1]) rfl ?_
  refine x_st (st' := [.int (nI 1)]) (by simp only [nlit, nI_add, pk_mul]) ?_
  refine x_ifN_eq C 9 (by omega) rfl (tgt := 47) rfl (fun hc1 => absurd hc1 (by omega)) (fun hc1 => ?_)
  refine x_run C 10 4 (pc' := 22) (lv' := [(0, .ref o0), (1, .int (nI j)), (2, .int v), (3, .int k), (4, .int i)]) (st' := [.ref o0, .ref o0, .int 0, .int v]) rfl ?_
  refine x_get C 14 rfl fX8_55 N 0 rfl (v := .ref (A 15)) rfl ?_
  refine x_run C 15 1 (pc' := 26) (lv' := [(0, .ref o0), (1, .int (nI j)), (2, .int v), (3, .int k), (4, .int i)]) (st' := [.int (nI j), .ref (A 15), .ref o0, .int 0, .int v]) rfl ?_
  refine x_ialdN C 16 rfl N 1 rfl (by omega) (by omega) ?_
  refine x_st (st' := [.int (nI c), .ref o0, .int 0, .int v]) (by rw [hco]) ?_
  refine x_cv C 17 (As := [.int (nI c)]) (rest := [.int 0, .int v]) rfl vX8_199 N 0 rfl rfl (c_X8_wiresOf Y _ o0 A (nI 0) (nI 0) sz bl ci ma pa en wr i1 g1 c n g qm q_inputs q_gates (ovl_at 0 N rfl) (ovl_at 2 N rfl) (ovl_at 3 N rfl) (N.ov [0, 2, 3] (by decide) rfl) (by first | assumption | omega) (by first | assumption | omega) (by first | assumption | omega)) rfl rfl (Nat.le_of_ble_eq_true rfl) ⟨Nat.le_of_ble_eq_true rfl, Nat.le_of_ble_eq_true rfl⟩ ⟨Nat.zero_le _, Nat.zero_le _⟩ [0, 2, 3] ⟨rfl, rfl, rfl, trivial⟩ (os' := [(qm, (o0, cO 8 (mo A (nI 0) (nI 0) (nI sz) bl (nI ci) (nI ma) pa en wr))), (q_circuitOf, (A 15, cI Y 6 co)), (q_inputs, (A 6, cI Y 6 i1)), (q_gates, (A 7, cI Y 6 g1))]) rfl (st' := [.int (nI (n + g)), .int 0, .int v]) rfl ?_
  refine x_run C 18 2 (pc' := 32) (lv' := [(0, .ref o0), (1, .int (nI j)), (2, .int v), (3, .int k), (4, .int i)]) (st' := [.int ((nI (n + g)) - 1), .int 0, .int v]) rfl ?_
  refine x_cs C 20 (As := [.int v, .int 0, .int ((nI (n + g)) - 1)]) (rest := []) rfl vX8_135 N (c_X8_inF Y _ v 0 ((nI (n + g)) - 1)    (hv.imp id (le_pred (by omega)))) rfl rfl (Nat.le_of_ble_eq_true rfl) ⟨Nat.le_of_ble_eq_true rfl, Nat.le_of_ble_eq_true rfl⟩ ⟨Nat.zero_le _, Nat.zero_le _⟩ [] trivial (os' := [(qm, (o0, cO 8 (mo A (nI 0) (nI 0) (nI sz) bl (nI ci) (nI ma) pa en wr))), (q_circuitOf, (A 15, cI Y 6 co)), (q_inputs, (A 6, cI Y 6 i1)), (q_gates, (A 7, cI Y 6 g1))]) rfl (st' := [.int 0]) rfl ?_
  refine x_st (st' := [.int (nI 0)]) (by simp only [nlit, nI_add, pk_mul]) ?_
  refine x_ifN_eq C 21 (by omega) rfl (tgt := 47) rfl (fun hc2 => ?_) (fun hc2 => absurd hc2 (by omega))
  refine x_run C 27 2 (pc' := 49) (lv' := [(0, .ref o0), (1, .int (nI j)), (2, .int v), (3, .int k), (4, .int i)]) (st' := [.int (-1), .ref o0]) rfl ?_
  refine x_cv C 29 (As := [.int (-1)]) (rest := []) rfl vX8_250 N 0 rfl rfl (c_X8_no Y _ o0 A (nI 0) (nI 0) sz bl ci ma pa en wr (-1) qm (ovl_at 0 N rfl) (N.ov [0] (by decide) rfl) ) rfl rfl (Nat.le_of_ble_eq_true rfl) ⟨Nat.le_of_ble_eq_true rfl, Nat.le_of_ble_eq_true rfl⟩ ⟨Nat.zero_le _, Nat.zero_le _⟩ [0] ⟨rfl, trivial⟩ (os' := [(qm, (o0, cO 8 (mo A (nI 0) (-1) (nI sz) bl (nI ci) (nI ma) pa en wr))), (q_circuitOf, (A 15, cI Y 6 co)), (q_inputs, (A 6, cI Y 6 i1)), (q_gates, (A 7, cI Y 6 g1))]) rfl (st' := [.long 0]) rfl ?_
  exact x_lret C B rfl 30 rfl (Nat.zero_le _) (Nat.zero_le _) ⟨by first | rfl | (simp only [nlit, nI_add, pk_mul]; done), by first | rfl | (simp only [nlit, nI_add, pk_mul]; done)⟩
set_option maxHeartbeats 4000000 in
set_option maxRecDepth 100000 in
theorem c_X8_placeK (Y : xD) (w : va_W) (o0 : Nat) (A : Nat → Nat) (th : Int32) (su : Int32) (sz : Nat) (bl : Int32) (ci : Nat) (ma : Nat) (pa : Int32) (en : Int32) (wr : Int32) (co : Nat → Int32) (i1 : Nat → Int32) (g1 : Nat → Int32) (j : Nat) (c : Nat) (n : Nat) (g : Nat) (v : Nat) (k : Int32) (i : Int32) (qm q_circuitOf q_inputs q_gates : Nat) (e0 : w[qm]? = some (o0, cO 8 (mo A th su (nI sz) bl (nI ci) (nI ma) pa en wr))) (e1 : w[q_circuitOf]? = some (A 15, cI Y 6 co)) (e2 : w[q_inputs]? = some (A 6, cI Y 6 i1)) (e3 : w[q_gates]? = some (A 7, cI Y 6 g1)) (N : xN w.length [qm, q_circuitOf, q_inputs, q_gates]) (hj : j < ma) (h6 : ma ≤ 6) (hc6 : c < 6) (hn16 : n ≤ 16) (hn1 : 1 ≤ n) (hg40 : g ≤ 40) (hco : co j = nI c) (hin : i1 c = nI n) (hga : g1 c = nI g) (hv : v < n + g) (hk : k < 0 ∨ 4 < k) : Cf Y mX8_place 2 [.ref o0, .int (nI j), .int (nI v), .int k, .int i] w (some (.long 0)) [(qm, (o0, cO 8 (mo A (nI 0) (-1) (nI sz) bl (nI ci) (nI ma) pa en wr))), (q_circuitOf, (A 15, cI Y 6 co)), (q_inputs, (A 6, cI Y 6 i1)), (q_gates, (A 7, cI Y 6 g1))] := by
  refine Ct.intro (T := tX8_place) (by decide) oX8_place (Nat.le_of_ble_eq_true rfl) (fun G C B => ?_)
  refine x_lay [(qm, (o0, cO 8 (mo A th su (nI sz) bl (nI ci) (nI ma) pa en wr))), (q_circuitOf, (A 15, cI Y 6 co)), (q_inputs, (A 6, cI Y 6 i1)), (q_gates, (A 7, cI Y 6 g1))] (lay_cons e0 (lay_cons e1 (lay_cons e2 (lay_cons e3 lay_nil)))) ?_
  refine x_run C 0 2 (pc' := 2) (lv' := [(0, .ref o0), (1, .int (nI j)), (2, .int (nI v)), (3, .int k), (4, .int i)]) (st' := [.int 0, .ref o0]) rfl ?_
  refine x_put C 2 rfl pX8_117 N 0 rfl rfl rfl (Nat.le_of_ble_eq_true rfl) (os' := [(qm, (o0, cO 8 (mo A (nI 0) su (nI sz) bl (nI ci) (nI ma) pa en wr))), (q_circuitOf, (A 15, cI Y 6 co)), (q_inputs, (A 6, cI Y 6 i1)), (q_gates, (A 7, cI Y 6 g1))]) rfl ?_
  refine x_run C 3 2 (pc' := 7) (lv' := [(0, .ref o0), (1, .int (nI j)), (2, .int (nI v)), (3, .int k), (4, .int i)]) (st' := [.int 0, .ref o0]) rfl ?_
  refine x_put C 5 rfl pX8_247 N 0 rfl rfl rfl (Nat.le_of_ble_eq_true rfl) (os' := [(qm, (o0, cO 8 (mo A (nI 0) (nI 0) (nI sz) bl (nI ci) (nI ma) pa en wr))), (q_circuitOf, (A 15, cI Y 6 co)), (q_inputs, (A 6, cI Y 6 i1)), (q_gates, (A 7, cI Y 6 g1))]) rfl ?_
  refine x_run C 6 2 (pc' := 12) (lv' := [(0, .ref o0), (1, .int (nI j)), (2, .int (nI v)), (3, .int k), (4, .int i)]) (st' := [.int (nI j), .ref o0]) rfl ?_
  refine x_cv C 8 (As := [.int (nI j)]) (rest := []) rfl vX8_230 N 0 rfl rfl (c_X8_isGarbled Y _ o0 A (nI 0) (nI 0) sz bl ci ma pa en wr j qm (ovl_at 0 N rfl) (N.ov [0] (by decide) rfl) (by first | assumption | omega) (by first | assumption | omega)) rfl rfl (Nat.le_of_ble_eq_true rfl) ⟨Nat.le_of_ble_eq_true rfl, Nat.le_of_ble_eq_true rfl⟩ ⟨Nat.zero_le _, Nat.zero_le _⟩ [0] ⟨rfl, trivial⟩ (os' := [(qm, (o0, cO 8 (mo A (nI 0) (nI 0) (nI sz) bl (nI ci) (nI ma) pa en wr))), (q_circuitOf, (A 15, cI Y 6 co)), (q_inputs, (A 6, cI Y 6 i1)), (q_gates, (A 7, cI Y 6 g1))]) rfl (st' := [.int 1]) rfl ?_
  refine x_st (st' := [.int (nI 1)]) (by simp only [nlit, nI_add, pk_mul]) ?_
  refine x_ifN_eq C 9 (by omega) rfl (tgt := 47) rfl (fun hc1 => absurd hc1 (by omega)) (fun hc1 => ?_)
  refine x_run C 10 4 (pc' := 22) (lv' := [(0, .ref o0), (1, .int (nI j)), (2, .int (nI v)), (3, .int k), (4, .int i)]) (st' := [.ref o0, .ref o0, .int 0, .int (nI v)]) rfl ?_
  refine x_get C 14 rfl fX8_55 N 0 rfl (v := .ref (A 15)) rfl ?_
  refine x_run C 15 1 (pc' := 26) (lv' := [(0, .ref o0), (1, .int (nI j)), (2, .int (nI v)), (3, .int k), (4, .int i)]) (st' := [.int (nI j), .ref (A 15), .ref o0, .int 0, .int (nI v)]) rfl ?_
  refine x_ialdN C 16 rfl N 1 rfl (by omega) (by omega) ?_
  refine x_st (st' := [.int (nI c), .ref o0, .int 0, .int (nI v)]) (by rw [hco]) ?_
  refine x_cv C 17 (As := [.int (nI c)]) (rest := [.int 0, .int (nI v)]) rfl vX8_199 N 0 rfl rfl (c_X8_wiresOf Y _ o0 A (nI 0) (nI 0) sz bl ci ma pa en wr i1 g1 c n g qm q_inputs q_gates (ovl_at 0 N rfl) (ovl_at 2 N rfl) (ovl_at 3 N rfl) (N.ov [0, 2, 3] (by decide) rfl) (by first | assumption | omega) (by first | assumption | omega) (by first | assumption | omega)) rfl rfl (Nat.le_of_ble_eq_true rfl) ⟨Nat.le_of_ble_eq_true rfl, Nat.le_of_ble_eq_true rfl⟩ ⟨Nat.zero_le _, Nat.zero_le _⟩ [0, 2, 3] ⟨rfl, rfl, rfl, trivial⟩ (os' := [(qm, (o0, cO 8 (mo A (nI 0) (nI 0) (nI sz) bl (nI ci) (nI ma) pa en wr))), (q_circuitOf, (A 15, cI Y 6 co)), (q_inputs, (A 6, cI Y 6 i1)), (q_gates, (A 7, cI Y 6 g1))]) rfl (st' := [.int (nI (n + g)), .int 0, .int (nI v)]) rfl ?_
  refine x_run C 18 2 (pc' := 32) (lv' := [(0, .ref o0), (1, .int (nI j)), (2, .int (nI v)), (3, .int k), (4, .int i)]) (st' := [.int ((nI (n + g)) - 1), .int 0, .int (nI v)]) rfl ?_
  refine x_st (st' := [.int (nI ((n + g) - 1)), .int 0, .int (nI v)]) (by simp only [nlit, nI_add, pk_mul, pk_sub (show 1 ≤ (n + g) by omega)]) ?_
  refine x_st (st' := [.int (nI ((n + g) - 1)), .int (nI 0), .int (nI v)]) (by simp only [nlit, nI_add, pk_mul]) ?_
  refine x_cs C 20 (As := [.int (nI v), .int (nI 0), .int (nI ((n + g) - 1))]) (rest := []) rfl vX8_135 N (c_X8_in Y _ v 0 ((n + g) - 1)    (by first | assumption | omega) (by first | assumption | omega) (by first | assumption | omega)) rfl rfl (Nat.le_of_ble_eq_true rfl) ⟨Nat.le_of_ble_eq_true rfl, Nat.le_of_ble_eq_true rfl⟩ ⟨Nat.zero_le _, Nat.zero_le _⟩ [] trivial (os' := [(qm, (o0, cO 8 (mo A (nI 0) (nI 0) (nI sz) bl (nI ci) (nI ma) pa en wr))), (q_circuitOf, (A 15, cI Y 6 co)), (q_inputs, (A 6, cI Y 6 i1)), (q_gates, (A 7, cI Y 6 g1))]) rfl (st' := [.int 1]) rfl ?_
  refine x_st (st' := [.int (nI 1)]) (by simp only [nlit, nI_add, pk_mul]) ?_
  refine x_ifN_eq C 21 (by omega) rfl (tgt := 47) rfl (fun hc2 => absurd hc2 (by omega)) (fun hc2 => ?_)
  refine x_run C 22 3 (pc' := 41) (lv' := [(0, .ref o0), (1, .int (nI j)), (2, .int (nI v)), (3, .int k), (4, .int i)]) (st' := [.int 4, .int 0, .int k]) rfl ?_
  refine x_cs C 25 (As := [.int k, .int 0, .int 4]) (rest := []) rfl vX8_135 N (c_X8_inF Y _ k 0 4    hk) rfl rfl (Nat.le_of_ble_eq_true rfl) ⟨Nat.le_of_ble_eq_true rfl, Nat.le_of_ble_eq_true rfl⟩ ⟨Nat.zero_le _, Nat.zero_le _⟩ [] trivial (os' := [(qm, (o0, cO 8 (mo A (nI 0) (nI 0) (nI sz) bl (nI ci) (nI ma) pa en wr))), (q_circuitOf, (A 15, cI Y 6 co)), (q_inputs, (A 6, cI Y 6 i1)), (q_gates, (A 7, cI Y 6 g1))]) rfl (st' := [.int 0]) rfl ?_
  refine x_st (st' := [.int (nI 0)]) (by simp only [nlit, nI_add, pk_mul]) ?_
  refine x_ifN_ne C 26 (by omega) rfl (tgt := 53) rfl (fun hc3 => absurd hc3 (by omega)) (fun hc3 => ?_)
  refine x_run C 27 2 (pc' := 49) (lv' := [(0, .ref o0), (1, .int (nI j)), (2, .int (nI v)), (3, .int k), (4, .int i)]) (st' := [.int (-1), .ref o0]) rfl ?_
  refine x_cv C 29 (As := [.int (-1)]) (rest := []) rfl vX8_250 N 0 rfl rfl (c_X8_no Y _ o0 A (nI 0) (nI 0) sz bl ci ma pa en wr (-1) qm (ovl_at 0 N rfl) (N.ov [0] (by decide) rfl) ) rfl rfl (Nat.le_of_ble_eq_true rfl) ⟨Nat.le_of_ble_eq_true rfl, Nat.le_of_ble_eq_true rfl⟩ ⟨Nat.zero_le _, Nat.zero_le _⟩ [0] ⟨rfl, trivial⟩ (os' := [(qm, (o0, cO 8 (mo A (nI 0) (-1) (nI sz) bl (nI ci) (nI ma) pa en wr))), (q_circuitOf, (A 15, cI Y 6 co)), (q_inputs, (A 6, cI Y 6 i1)), (q_gates, (A 7, cI Y 6 g1))]) rfl (st' := [.long 0]) rfl ?_
  exact x_lret C B rfl 30 rfl (Nat.zero_le _) (Nat.zero_le _) ⟨by first | rfl | (simp only [nlit, nI_add, pk_mul]; done), by first | rfl | (simp only [nlit, nI_add, pk_mul]; done)⟩
set_option maxHeartbeats 4000000 in
set_option maxRecDepth 100000 in
theorem c_X8_placeN (Y : xD) (w : va_W) (o0 : Nat) (A : Nat → Nat) (th : Int32) (su : Int32) (sz : Nat) (bl : Int32) (ci : Nat) (ma : Nat) (pa : Int32) (en : Int32) (wr : Int32) (co : Nat → Int32) (i1 : Nat → Int32) (g1 : Nat → Int32) (j : Nat) (c : Nat) (n : Nat) (g : Nat) (v : Nat) (kk : Nat) (i : Int32) (fh : Nat → Int32) (qm q_circuitOf q_inputs q_gates q_has : Nat) (e0 : w[qm]? = some (o0, cO 8 (mo A th su (nI sz) bl (nI ci) (nI ma) pa en wr))) (e1 : w[q_circuitOf]? = some (A 15, cI Y 6 co)) (e2 : w[q_inputs]? = some (A 6, cI Y 6 i1)) (e3 : w[q_gates]? = some (A 7, cI Y 6 g1)) (e4 : w[q_has]? = some (A 24, cZ Y 336 fh)) (N : xN w.length [qm, q_circuitOf, q_inputs, q_gates, q_has]) (hj : j < ma) (h6 : ma ≤ 6) (hc6 : c < 6) (hn16 : n ≤ 16) (hn1 : 1 ≤ n) (hg40 : g ≤ 40) (hco : co j = nI c) (hin : i1 c = nI n) (hga : g1 c = nI g) (hv : v < n + g) (hk : kk < 5) (hh : fh (56 * j + v) = 0) : Cf Y mX8_place 2 [.ref o0, .int (nI j), .int (nI v), .int (nI kk), .int i] w (some (.long 0)) [(qm, (o0, cO 8 (mo A (nI 0) (-11) (nI sz) bl (nI ci) (nI ma) pa en wr))), (q_circuitOf, (A 15, cI Y 6 co)), (q_inputs, (A 6, cI Y 6 i1)), (q_gates, (A 7, cI Y 6 g1)), (q_has, (A 24, cZ Y 336 fh))] := by
  refine Ct.intro (T := tX8_place) (by decide) oX8_place (Nat.le_of_ble_eq_true rfl) (fun G C B => ?_)
  refine x_lay [(qm, (o0, cO 8 (mo A th su (nI sz) bl (nI ci) (nI ma) pa en wr))), (q_circuitOf, (A 15, cI Y 6 co)), (q_inputs, (A 6, cI Y 6 i1)), (q_gates, (A 7, cI Y 6 g1)), (q_has, (A 24, cZ Y 336 fh))] (lay_cons e0 (lay_cons e1 (lay_cons e2 (lay_cons e3 (lay_cons e4 lay_nil))))) ?_
  refine x_run C 0 2 (pc' := 2) (lv' := [(0, .ref o0), (1, .int (nI j)), (2, .int (nI v)), (3, .int (nI kk)), (4, .int i)]) (st' := [.int 0, .ref o0]) rfl ?_
  refine x_put C 2 rfl pX8_117 N 0 rfl rfl rfl (Nat.le_of_ble_eq_true rfl) (os' := [(qm, (o0, cO 8 (mo A (nI 0) su (nI sz) bl (nI ci) (nI ma) pa en wr))), (q_circuitOf, (A 15, cI Y 6 co)), (q_inputs, (A 6, cI Y 6 i1)), (q_gates, (A 7, cI Y 6 g1)), (q_has, (A 24, cZ Y 336 fh))]) rfl ?_
  refine x_run C 3 2 (pc' := 7) (lv' := [(0, .ref o0), (1, .int (nI j)), (2, .int (nI v)), (3, .int (nI kk)), (4, .int i)]) (st' := [.int 0, .ref o0]) rfl ?_
  refine x_put C 5 rfl pX8_247 N 0 rfl rfl rfl (Nat.le_of_ble_eq_true rfl) (os' := [(qm, (o0, cO 8 (mo A (nI 0) (nI 0) (nI sz) bl (nI ci) (nI ma) pa en wr))), (q_circuitOf, (A 15, cI Y 6 co)), (q_inputs, (A 6, cI Y 6 i1)), (q_gates, (A 7, cI Y 6 g1)), (q_has, (A 24, cZ Y 336 fh))]) rfl ?_
  refine x_run C 6 2 (pc' := 12) (lv' := [(0, .ref o0), (1, .int (nI j)), (2, .int (nI v)), (3, .int (nI kk)), (4, .int i)]) (st' := [.int (nI j), .ref o0]) rfl ?_
  refine x_cv C 8 (As := [.int (nI j)]) (rest := []) rfl vX8_230 N 0 rfl rfl (c_X8_isGarbled Y _ o0 A (nI 0) (nI 0) sz bl ci ma pa en wr j qm (ovl_at 0 N rfl) (N.ov [0] (by decide) rfl) (by first | assumption | omega) (by first | assumption | omega)) rfl rfl (Nat.le_of_ble_eq_true rfl) ⟨Nat.le_of_ble_eq_true rfl, Nat.le_of_ble_eq_true rfl⟩ ⟨Nat.zero_le _, Nat.zero_le _⟩ [0] ⟨rfl, trivial⟩ (os' := [(qm, (o0, cO 8 (mo A (nI 0) (nI 0) (nI sz) bl (nI ci) (nI ma) pa en wr))), (q_circuitOf, (A 15, cI Y 6 co)), (q_inputs, (A 6, cI Y 6 i1)), (q_gates, (A 7, cI Y 6 g1)), (q_has, (A 24, cZ Y 336 fh))]) rfl (st' := [.int 1]) rfl ?_
  refine x_st (st' := [.int (nI 1)]) (by simp only [nlit, nI_add, pk_mul]) ?_
  refine x_ifN_eq C 9 (by omega) rfl (tgt := 47) rfl (fun hc1 => absurd hc1 (by omega)) (fun hc1 => ?_)
  refine x_run C 10 4 (pc' := 22) (lv' := [(0, .ref o0), (1, .int (nI j)), (2, .int (nI v)), (3, .int (nI kk)), (4, .int i)]) (st' := [.ref o0, .ref o0, .int 0, .int (nI v)]) rfl ?_
  refine x_get C 14 rfl fX8_55 N 0 rfl (v := .ref (A 15)) rfl ?_
  refine x_run C 15 1 (pc' := 26) (lv' := [(0, .ref o0), (1, .int (nI j)), (2, .int (nI v)), (3, .int (nI kk)), (4, .int i)]) (st' := [.int (nI j), .ref (A 15), .ref o0, .int 0, .int (nI v)]) rfl ?_
  refine x_ialdN C 16 rfl N 1 rfl (by omega) (by omega) ?_
  refine x_st (st' := [.int (nI c), .ref o0, .int 0, .int (nI v)]) (by rw [hco]) ?_
  refine x_cv C 17 (As := [.int (nI c)]) (rest := [.int 0, .int (nI v)]) rfl vX8_199 N 0 rfl rfl (c_X8_wiresOf Y _ o0 A (nI 0) (nI 0) sz bl ci ma pa en wr i1 g1 c n g qm q_inputs q_gates (ovl_at 0 N rfl) (ovl_at 2 N rfl) (ovl_at 3 N rfl) (N.ov [0, 2, 3] (by decide) rfl) (by first | assumption | omega) (by first | assumption | omega) (by first | assumption | omega)) rfl rfl (Nat.le_of_ble_eq_true rfl) ⟨Nat.le_of_ble_eq_true rfl, Nat.le_of_ble_eq_true rfl⟩ ⟨Nat.zero_le _, Nat.zero_le _⟩ [0, 2, 3] ⟨rfl, rfl, rfl, trivial⟩ (os' := [(qm, (o0, cO 8 (mo A (nI 0) (nI 0) (nI sz) bl (nI ci) (nI ma) pa en wr))), (q_circuitOf, (A 15, cI Y 6 co)), (q_inputs, (A 6, cI Y 6 i1)), (q_gates, (A 7, cI Y 6 g1)), (q_has, (A 24, cZ Y 336 fh))]) rfl (st' := [.int (nI (n + g)), .int 0, .int (nI v)]) rfl ?_
  refine x_run C 18 2 (pc' := 32) (lv' := [(0, .ref o0), (1, .int (nI j)), (2, .int (nI v)), (3, .int (nI kk)), (4, .int i)]) (st' := [.int ((nI (n + g)) - 1), .int 0, .int (nI v)]) rfl ?_
  refine x_st (st' := [.int (nI ((n + g) - 1)), .int 0, .int (nI v)]) (by simp only [nlit, nI_add, pk_mul, pk_sub (show 1 ≤ (n + g) by omega)]) ?_
  refine x_st (st' := [.int (nI ((n + g) - 1)), .int (nI 0), .int (nI v)]) (by simp only [nlit, nI_add, pk_mul]) ?_
  refine x_cs C 20 (As := [.int (nI v), .int (nI 0), .int (nI ((n + g) - 1))]) (rest := []) rfl vX8_135 N (c_X8_in Y _ v 0 ((n + g) - 1)    (by first | assumption | omega) (by first | assumption | omega) (by first | assumption | omega)) rfl rfl (Nat.le_of_ble_eq_true rfl) ⟨Nat.le_of_ble_eq_true rfl, Nat.le_of_ble_eq_true rfl⟩ ⟨Nat.zero_le _, Nat.zero_le _⟩ [] trivial (os' := [(qm, (o0, cO 8 (mo A (nI 0) (nI 0) (nI sz) bl (nI ci) (nI ma) pa en wr))), (q_circuitOf, (A 15, cI Y 6 co)), (q_inputs, (A 6, cI Y 6 i1)), (q_gates, (A 7, cI Y 6 g1)), (q_has, (A 24, cZ Y 336 fh))]) rfl (st' := [.int 1]) rfl ?_
  refine x_st (st' := [.int (nI 1)]) (by simp only [nlit, nI_add, pk_mul]) ?_
  refine x_ifN_eq C 21 (by omega) rfl (tgt := 47) rfl (fun hc2 => absurd hc2 (by omega)) (fun hc2 => ?_)
  refine x_run C 22 3 (pc' := 41) (lv' := [(0, .ref o0), (1, .int (nI j)), (2, .int (nI v)), (3, .int (nI kk)), (4, .int i)]) (st' := [.int 4, .int 0, .int (nI kk)]) rfl ?_
  refine x_st (st' := [.int (nI 4), .int (nI 0), .int (nI kk)]) (by simp only [nlit, nI_add, pk_mul]) ?_
  refine x_cs C 25 (As := [.int (nI kk), .int (nI 0), .int (nI 4)]) (rest := []) rfl vX8_135 N (c_X8_in Y _ kk 0 4    (by first | assumption | omega) (by first | assumption | omega) (by first | assumption | omega)) rfl rfl (Nat.le_of_ble_eq_true rfl) ⟨Nat.le_of_ble_eq_true rfl, Nat.le_of_ble_eq_true rfl⟩ ⟨Nat.zero_le _, Nat.zero_le _⟩ [] trivial (os' := [(qm, (o0, cO 8 (mo A (nI 0) (nI 0) (nI sz) bl (nI ci) (nI ma) pa en wr))), (q_circuitOf, (A 15, cI Y 6 co)), (q_inputs, (A 6, cI Y 6 i1)), (q_gates, (A 7, cI Y 6 g1)), (q_has, (A 24, cZ Y 336 fh))]) rfl (st' := [.int 1]) rfl ?_
  refine x_st (st' := [.int (nI 1)]) (by simp only [nlit, nI_add, pk_mul]) ?_
  refine x_ifN_ne C 26 (by omega) rfl (tgt := 53) rfl (fun hc3 => ?_) (fun hc3 => absurd hc3 (by omega))
  refine x_run C 31 1 (pc' := 54) (lv' := [(0, .ref o0), (1, .int (nI j)), (2, .int (nI v)), (3, .int (nI kk)), (4, .int i)]) (st' := [.ref o0]) rfl ?_
  refine x_get C 32 rfl fX8_82 N 0 rfl (v := .ref (A 24)) rfl ?_
  refine x_run C 33 5 (pc' := 63) (lv' := [(0, .ref o0), (1, .int (nI j)), (2, .int (nI v)), (3, .int (nI kk)), (4, .int i)]) (st' := [.int ((56 * (nI j)) + (nI v)), .ref (A 24)]) rfl ?_
  refine x_st (st' := [.int (nI ((56 * j) + v)), .ref (A 24)]) (by simp only [nlit, nI_add, pk_mul]) ?_
  refine x_zaldN C 38 rfl N 4 rfl (by omega) (by omega) ?_
  refine x_if_ne C 39 rfl (tgt := 74) rfl (fun hc4 => ?_) (fun hc4 => ?_)
  · exact absurd hh hc4
  · refine x_run C 40 2 (pc' := 70) (lv' := [(0, .ref o0), (1, .int (nI j)), (2, .int (nI v)), (3, .int (nI kk)), (4, .int i)]) (st' := [.int (-11), .ref o0]) rfl ?_
    refine x_cv C 42 (As := [.int (-11)]) (rest := []) rfl vX8_250 N 0 rfl rfl (c_X8_no Y _ o0 A (nI 0) (nI 0) sz bl ci ma pa en wr (-11) qm (ovl_at 0 N rfl) (N.ov [0] (by decide) rfl) ) rfl rfl (Nat.le_of_ble_eq_true rfl) ⟨Nat.le_of_ble_eq_true rfl, Nat.le_of_ble_eq_true rfl⟩ ⟨Nat.zero_le _, Nat.zero_le _⟩ [0] ⟨rfl, trivial⟩ (os' := [(qm, (o0, cO 8 (mo A (nI 0) (-11) (nI sz) bl (nI ci) (nI ma) pa en wr))), (q_circuitOf, (A 15, cI Y 6 co)), (q_inputs, (A 6, cI Y 6 i1)), (q_gates, (A 7, cI Y 6 g1)), (q_has, (A 24, cZ Y 336 fh))]) rfl (st' := [.long 0]) rfl ?_
    exact x_lret C B rfl 43 rfl (Nat.zero_le _) (Nat.zero_le _) ⟨by first | contradiction | (simp only [if_pos hc4]; done) | (simp only [if_pos hc4]; simp only [nlit, nI_add, pk_mul]; done) | (simp only [if_pos hc4, nlit, nI_add, pk_mul]; done) | rfl | (simp only [if_pos hc4]; rfl) | (simp only [if_pos hc4, nlit, nI_add, pk_mul]; rfl), by first | contradiction | (simp only [if_pos hc4]; done) | (simp only [if_pos hc4]; simp only [nlit, nI_add, pk_mul]; done) | (simp only [if_pos hc4, nlit, nI_add, pk_mul]; done) | rfl | (simp only [if_pos hc4]; rfl) | (simp only [if_pos hc4, nlit, nI_add, pk_mul]; rfl)⟩
set_option maxHeartbeats 4000000 in
set_option maxRecDepth 100000 in
theorem c_X8_placeC (Y : xD) (w : va_W) (o0 : Nat) (A : Nat → Nat) (th : Int32) (su : Int32) (sz : Nat) (bl : Int32) (ci : Nat) (ma : Nat) (pa : Int32) (en : Int32) (wr : Int32) (co : Nat → Int32) (i1 : Nat → Int32) (g1 : Nat → Int32) (j : Nat) (c : Nat) (n : Nat) (g : Nat) (v : Nat) (kk : Nat) (kd : Nat) (i : Int32) (fh : Nat → Int32) (kn : Nat → Int32) (qm q_circuitOf q_inputs q_gates q_has q_kind : Nat) (e0 : w[qm]? = some (o0, cO 8 (mo A th su (nI sz) bl (nI ci) (nI ma) pa en wr))) (e1 : w[q_circuitOf]? = some (A 15, cI Y 6 co)) (e2 : w[q_inputs]? = some (A 6, cI Y 6 i1)) (e3 : w[q_gates]? = some (A 7, cI Y 6 g1)) (e4 : w[q_has]? = some (A 24, cZ Y 336 fh)) (e5 : w[q_kind]? = some (A 17, cI Y 6 kn)) (N : xN w.length [qm, q_circuitOf, q_inputs, q_gates, q_has, q_kind]) (hj : j < ma) (h6 : ma ≤ 6) (hc6 : c < 6) (hn16 : n ≤ 16) (hn1 : 1 ≤ n) (hg40 : g ≤ 40) (hco : co j = nI c) (hin : i1 c = nI n) (hga : g1 c = nI g) (hv : v < n + g) (hk : kk < 5) (hkn : kn j = nI kd) (hkd : kd < 5) (hh : ¬ fh (56 * j + v) = 0) (hne : ¬ kk = kd) : Cf Y mX8_place 2 [.ref o0, .int (nI j), .int (nI v), .int (nI kk), .int i] w (some (.long 0)) [(qm, (o0, cO 8 (mo A (nI 0) (-13) (nI sz) bl (nI ci) (nI ma) pa en wr))), (q_circuitOf, (A 15, cI Y 6 co)), (q_inputs, (A 6, cI Y 6 i1)), (q_gates, (A 7, cI Y 6 g1)), (q_has, (A 24, cZ Y 336 fh)), (q_kind, (A 17, cI Y 6 kn))] := by
  refine Ct.intro (T := tX8_place) (by decide) oX8_place (Nat.le_of_ble_eq_true rfl) (fun G C B => ?_)
  refine x_lay [(qm, (o0, cO 8 (mo A th su (nI sz) bl (nI ci) (nI ma) pa en wr))), (q_circuitOf, (A 15, cI Y 6 co)), (q_inputs, (A 6, cI Y 6 i1)), (q_gates, (A 7, cI Y 6 g1)), (q_has, (A 24, cZ Y 336 fh)), (q_kind, (A 17, cI Y 6 kn))] (lay_cons e0 (lay_cons e1 (lay_cons e2 (lay_cons e3 (lay_cons e4 (lay_cons e5 lay_nil)))))) ?_
  refine x_run C 0 2 (pc' := 2) (lv' := [(0, .ref o0), (1, .int (nI j)), (2, .int (nI v)), (3, .int (nI kk)), (4, .int i)]) (st' := [.int 0, .ref o0]) rfl ?_
  refine x_put C 2 rfl pX8_117 N 0 rfl rfl rfl (Nat.le_of_ble_eq_true rfl) (os' := [(qm, (o0, cO 8 (mo A (nI 0) su (nI sz) bl (nI ci) (nI ma) pa en wr))), (q_circuitOf, (A 15, cI Y 6 co)), (q_inputs, (A 6, cI Y 6 i1)), (q_gates, (A 7, cI Y 6 g1)), (q_has, (A 24, cZ Y 336 fh)), (q_kind, (A 17, cI Y 6 kn))]) rfl ?_
  refine x_run C 3 2 (pc' := 7) (lv' := [(0, .ref o0), (1, .int (nI j)), (2, .int (nI v)), (3, .int (nI kk)), (4, .int i)]) (st' := [.int 0, .ref o0]) rfl ?_
  refine x_put C 5 rfl pX8_247 N 0 rfl rfl rfl (Nat.le_of_ble_eq_true rfl) (os' := [(qm, (o0, cO 8 (mo A (nI 0) (nI 0) (nI sz) bl (nI ci) (nI ma) pa en wr))), (q_circuitOf, (A 15, cI Y 6 co)), (q_inputs, (A 6, cI Y 6 i1)), (q_gates, (A 7, cI Y 6 g1)), (q_has, (A 24, cZ Y 336 fh)), (q_kind, (A 17, cI Y 6 kn))]) rfl ?_
  refine x_run C 6 2 (pc' := 12) (lv' := [(0, .ref o0), (1, .int (nI j)), (2, .int (nI v)), (3, .int (nI kk)), (4, .int i)]) (st' := [.int (nI j), .ref o0]) rfl ?_
  refine x_cv C 8 (As := [.int (nI j)]) (rest := []) rfl vX8_230 N 0 rfl rfl (c_X8_isGarbled Y _ o0 A (nI 0) (nI 0) sz bl ci ma pa en wr j qm (ovl_at 0 N rfl) (N.ov [0] (by decide) rfl) (by first | assumption | omega) (by first | assumption | omega)) rfl rfl (Nat.le_of_ble_eq_true rfl) ⟨Nat.le_of_ble_eq_true rfl, Nat.le_of_ble_eq_true rfl⟩ ⟨Nat.zero_le _, Nat.zero_le _⟩ [0] ⟨rfl, trivial⟩ (os' := [(qm, (o0, cO 8 (mo A (nI 0) (nI 0) (nI sz) bl (nI ci) (nI ma) pa en wr))), (q_circuitOf, (A 15, cI Y 6 co)), (q_inputs, (A 6, cI Y 6 i1)), (q_gates, (A 7, cI Y 6 g1)), (q_has, (A 24, cZ Y 336 fh)), (q_kind, (A 17, cI Y 6 kn))]) rfl (st' := [.int 1]) rfl ?_
  refine x_st (st' := [.int (nI 1)]) (by simp only [nlit, nI_add, pk_mul]) ?_
  refine x_ifN_eq C 9 (by omega) rfl (tgt := 47) rfl (fun hc1 => absurd hc1 (by omega)) (fun hc1 => ?_)
  refine x_run C 10 4 (pc' := 22) (lv' := [(0, .ref o0), (1, .int (nI j)), (2, .int (nI v)), (3, .int (nI kk)), (4, .int i)]) (st' := [.ref o0, .ref o0, .int 0, .int (nI v)]) rfl ?_
  refine x_get C 14 rfl fX8_55 N 0 rfl (v := .ref (A 15)) rfl ?_
  refine x_run C 15 1 (pc' := 26) (lv' := [(0, .ref o0), (1, .int (nI j)), (2, .int (nI v)), (3, .int (nI kk)), (4, .int i)]) (st' := [.int (nI j), .ref (A 15), .ref o0, .int 0, .int (nI v)]) rfl ?_
  refine x_ialdN C 16 rfl N 1 rfl (by omega) (by omega) ?_
  refine x_st (st' := [.int (nI c), .ref o0, .int 0, .int (nI v)]) (by rw [hco]) ?_
  refine x_cv C 17 (As := [.int (nI c)]) (rest := [.int 0, .int (nI v)]) rfl vX8_199 N 0 rfl rfl (c_X8_wiresOf Y _ o0 A (nI 0) (nI 0) sz bl ci ma pa en wr i1 g1 c n g qm q_inputs q_gates (ovl_at 0 N rfl) (ovl_at 2 N rfl) (ovl_at 3 N rfl) (N.ov [0, 2, 3] (by decide) rfl) (by first | assumption | omega) (by first | assumption | omega) (by first | assumption | omega)) rfl rfl (Nat.le_of_ble_eq_true rfl) ⟨Nat.le_of_ble_eq_true rfl, Nat.le_of_ble_eq_true rfl⟩ ⟨Nat.zero_le _, Nat.zero_le _⟩ [0, 2, 3] ⟨rfl, rfl, rfl, trivial⟩ (os' := [(qm, (o0, cO 8 (mo A (nI 0) (nI 0) (nI sz) bl (nI ci) (nI ma) pa en wr))), (q_circuitOf, (A 15, cI Y 6 co)), (q_inputs, (A 6, cI Y 6 i1)), (q_gates, (A 7, cI Y 6 g1)), (q_has, (A 24, cZ Y 336 fh)), (q_kind, (A 17, cI Y 6 kn))]) rfl (st' := [.int (nI (n + g)), .int 0, .int (nI v)]) rfl ?_
  refine x_run C 18 2 (pc' := 32) (lv' := [(0, .ref o0), (1, .int (nI j)), (2, .int (nI v)), (3, .int (nI kk)), (4, .int i)]) (st' := [.int ((nI (n + g)) - 1), .int 0, .int (nI v)]) rfl ?_
  refine x_st (st' := [.int (nI ((n + g) - 1)), .int 0, .int (nI v)]) (by simp only [nlit, nI_add, pk_mul, pk_sub (show 1 ≤ (n + g) by omega)]) ?_
  refine x_st (st' := [.int (nI ((n + g) - 1)), .int (nI 0), .int (nI v)]) (by simp only [nlit, nI_add, pk_mul]) ?_
  refine x_cs C 20 (As := [.int (nI v), .int (nI 0), .int (nI ((n + g) - 1))]) (rest := []) rfl vX8_135 N (c_X8_in Y _ v 0 ((n + g) - 1)    (by first | assumption | omega) (by first | assumption | omega) (by first | assumption | omega)) rfl rfl (Nat.le_of_ble_eq_true rfl) ⟨Nat.le_of_ble_eq_true rfl, Nat.le_of_ble_eq_true rfl⟩ ⟨Nat.zero_le _, Nat.zero_le _⟩ [] trivial (os' := [(qm, (o0, cO 8 (mo A (nI 0) (nI 0) (nI sz) bl (nI ci) (nI ma) pa en wr))), (q_circuitOf, (A 15, cI Y 6 co)), (q_inputs, (A 6, cI Y 6 i1)), (q_gates, (A 7, cI Y 6 g1)), (q_has, (A 24, cZ Y 336 fh)), (q_kind, (A 17, cI Y 6 kn))]) rfl (st' := [.int 1]) rfl ?_
  refine x_st (st' := [.int (nI 1)]) (by simp only [nlit, nI_add, pk_mul]) ?_
  refine x_ifN_eq C 21 (by omega) rfl (tgt := 47) rfl (fun hc2 => absurd hc2 (by omega)) (fun hc2 => ?_)
  refine x_run C 22 3 (pc' := 41) (lv' := [(0, .ref o0), (1, .int (nI j)), (2, .int (nI v)), (3, .int (nI kk)), (4, .int i)]) (st' := [.int 4, .int 0, .int (nI kk)]) rfl ?_
  refine x_st (st' := [.int (nI 4), .int (nI 0), .int (nI kk)]) (by simp only [nlit, nI_add, pk_mul]) ?_
  refine x_cs C 25 (As := [.int (nI kk), .int (nI 0), .int (nI 4)]) (rest := []) rfl vX8_135 N (c_X8_in Y _ kk 0 4    (by first | assumption | omega) (by first | assumption | omega) (by first | assumption | omega)) rfl rfl (Nat.le_of_ble_eq_true rfl) ⟨Nat.le_of_ble_eq_true rfl, Nat.le_of_ble_eq_true rfl⟩ ⟨Nat.zero_le _, Nat.zero_le _⟩ [] trivial (os' := [(qm, (o0, cO 8 (mo A (nI 0) (nI 0) (nI sz) bl (nI ci) (nI ma) pa en wr))), (q_circuitOf, (A 15, cI Y 6 co)), (q_inputs, (A 6, cI Y 6 i1)), (q_gates, (A 7, cI Y 6 g1)), (q_has, (A 24, cZ Y 336 fh)), (q_kind, (A 17, cI Y 6 kn))]) rfl (st' := [.int 1]) rfl ?_
  refine x_st (st' := [.int (nI 1)]) (by simp only [nlit, nI_add, pk_mul]) ?_
  refine x_ifN_ne C 26 (by omega) rfl (tgt := 53) rfl (fun hc3 => ?_) (fun hc3 => absurd hc3 (by omega))
  refine x_run C 31 1 (pc' := 54) (lv' := [(0, .ref o0), (1, .int (nI j)), (2, .int (nI v)), (3, .int (nI kk)), (4, .int i)]) (st' := [.ref o0]) rfl ?_
  refine x_get C 32 rfl fX8_82 N 0 rfl (v := .ref (A 24)) rfl ?_
  refine x_run C 33 5 (pc' := 63) (lv' := [(0, .ref o0), (1, .int (nI j)), (2, .int (nI v)), (3, .int (nI kk)), (4, .int i)]) (st' := [.int ((56 * (nI j)) + (nI v)), .ref (A 24)]) rfl ?_
  refine x_st (st' := [.int (nI ((56 * j) + v)), .ref (A 24)]) (by simp only [nlit, nI_add, pk_mul]) ?_
  refine x_zaldN C 38 rfl N 4 rfl (by omega) (by omega) ?_
  refine x_if_ne C 39 rfl (tgt := 74) rfl (fun hc4 => ?_) (fun hc4 => ?_)
  · refine x_run C 44 2 (pc' := 76) (lv' := [(0, .ref o0), (1, .int (nI j)), (2, .int (nI v)), (3, .int (nI kk)), (4, .int i)]) (st' := [.ref o0, .int (nI kk)]) rfl ?_
    refine x_get C 46 rfl fX8_61 N 0 rfl (v := .ref (A 17)) rfl ?_
    refine x_run C 47 1 (pc' := 80) (lv' := [(0, .ref o0), (1, .int (nI j)), (2, .int (nI v)), (3, .int (nI kk)), (4, .int i)]) (st' := [.int (nI j), .ref (A 17), .int (nI kk)]) rfl ?_
    refine x_ialdN C 48 rfl N 5 rfl (by omega) (by omega) ?_
    refine x_st (st' := [.int (nI kd), .int (nI kk)]) (by rw [hkn]) ?_
    refine x_icmpN_eq C 49 (by omega) (by omega) rfl (tgt := 91) rfl (fun hc5 => ?_) (fun hc5 => ?_)
    · exact absurd hc5 hne
    · refine x_run C 50 2 (pc' := 87) (lv' := [(0, .ref o0), (1, .int (nI j)), (2, .int (nI v)), (3, .int (nI kk)), (4, .int i)]) (st' := [.int (-13), .ref o0]) rfl ?_
      refine x_cv C 52 (As := [.int (-13)]) (rest := []) rfl vX8_250 N 0 rfl rfl (c_X8_no Y _ o0 A (nI 0) (nI 0) sz bl ci ma pa en wr (-13) qm (ovl_at 0 N rfl) (N.ov [0] (by decide) rfl) ) rfl rfl (Nat.le_of_ble_eq_true rfl) ⟨Nat.le_of_ble_eq_true rfl, Nat.le_of_ble_eq_true rfl⟩ ⟨Nat.zero_le _, Nat.zero_le _⟩ [0] ⟨rfl, trivial⟩ (os' := [(qm, (o0, cO 8 (mo A (nI 0) (-13) (nI sz) bl (nI ci) (nI ma) pa en wr))), (q_circuitOf, (A 15, cI Y 6 co)), (q_inputs, (A 6, cI Y 6 i1)), (q_gates, (A 7, cI Y 6 g1)), (q_has, (A 24, cZ Y 336 fh)), (q_kind, (A 17, cI Y 6 kn))]) rfl (st' := [.long 0]) rfl ?_
      exact x_lret C B rfl 53 rfl (Nat.zero_le _) (Nat.zero_le _) ⟨by first | contradiction | (simp only [if_neg hc4, if_neg hc5]; done) | (simp only [if_neg hc4, if_neg hc5]; simp only [nlit, nI_add, pk_mul]; done) | (simp only [if_neg hc4, if_neg hc5, nlit, nI_add, pk_mul]; done) | rfl | (simp only [if_neg hc4, if_neg hc5]; rfl) | (simp only [if_neg hc4, if_neg hc5, nlit, nI_add, pk_mul]; rfl), by first | contradiction | (simp only [if_neg hc4, if_neg hc5]; done) | (simp only [if_neg hc4, if_neg hc5]; simp only [nlit, nI_add, pk_mul]; done) | (simp only [if_neg hc4, if_neg hc5, nlit, nI_add, pk_mul]; done) | rfl | (simp only [if_neg hc4, if_neg hc5]; rfl) | (simp only [if_neg hc4, if_neg hc5, nlit, nI_add, pk_mul]; rfl)⟩
  · exact absurd hc4 hh
def plV (fn : Nat → Nat) (p k : Nat) : Int64 := if k = 0 then (w8 fn p 1).toInt32.toInt8.toInt32.toInt64 else if k = 1 then (w8 fn p 2).toInt32.toInt16.toInt32.toInt64 else if k = 2 then w8 fn p 2 else if k = 3 then (w8 fn p 4).toInt32.toInt64 else w8 fn p 8
set_option maxHeartbeats 4000000 in
set_option maxRecDepth 100000 in
theorem c_X8_placeX0 (Y : xD) (w : va_W) (o0 : Nat) (A : Nat → Nat) (th : Int32) (su : Int32) (sz : Nat) (bl : Int32) (ci : Nat) (ma : Nat) (pa : Int32) (en : Int32) (wr : Int32) (co : Nat → Int32) (i1 : Nat → Int32) (g1 : Nat → Int32) (j : Nat) (c : Nat) (n : Nat) (g : Nat) (v : Nat) (kd : Nat) (i : Int32) (fh : Nat → Int32) (kn : Nat → Int32) (qm q_circuitOf q_inputs q_gates q_has q_kind : Nat) (e0 : w[qm]? = some (o0, cO 8 (mo A th su (nI sz) bl (nI ci) (nI ma) pa en wr))) (e1 : w[q_circuitOf]? = some (A 15, cI Y 6 co)) (e2 : w[q_inputs]? = some (A 6, cI Y 6 i1)) (e3 : w[q_gates]? = some (A 7, cI Y 6 g1)) (e4 : w[q_has]? = some (A 24, cZ Y 336 fh)) (e5 : w[q_kind]? = some (A 17, cI Y 6 kn)) (N : xN w.length [qm, q_circuitOf, q_inputs, q_gates, q_has, q_kind]) (hj : j < ma) (h6 : ma ≤ 6) (hc6 : c < 6) (hn16 : n ≤ 16) (hn1 : 1 ≤ n) (hg40 : g ≤ 40) (hco : co j = nI c) (hin : i1 c = nI n) (hga : g1 c = nI g) (hv : v < n + g) (hkn : kn j = nI kd) (hkd : kd = 0) (hh : ¬ fh (56 * j + v) = 0) (hi : i < 0 ∨ 16 ≤ i) : Cf Y mX8_place 2 [.ref o0, .int (nI j), .int (nI v), .int 0, .int i] w (some (.long 0)) [(qm, (o0, cO 8 (mo A (nI 0) (-12) (nI sz) bl (nI ci) (nI ma) pa en wr))), (q_circuitOf, (A 15, cI Y 6 co)), (q_inputs, (A 6, cI Y 6 i1)), (q_gates, (A 7, cI Y 6 g1)), (q_has, (A 24, cZ Y 336 fh)), (q_kind, (A 17, cI Y 6 kn))] := by
  refine Ct.intro (T := tX8_place) (by decide) oX8_place (Nat.le_of_ble_eq_true rfl) (fun G C B => ?_)
  refine x_lay [(qm, (o0, cO 8 (mo A th su (nI sz) bl (nI ci) (nI ma) pa en wr))), (q_circuitOf, (A 15, cI Y 6 co)), (q_inputs, (A 6, cI Y 6 i1)), (q_gates, (A 7, cI Y 6 g1)), (q_has, (A 24, cZ Y 336 fh)), (q_kind, (A 17, cI Y 6 kn))] (lay_cons e0 (lay_cons e1 (lay_cons e2 (lay_cons e3 (lay_cons e4 (lay_cons e5 lay_nil)))))) ?_
  refine x_run C 0 2 (pc' := 2) (lv' := [(0, .ref o0), (1, .int (nI j)), (2, .int (nI v)), (3, .int 0), (4, .int i)]) (st' := [.int 0, .ref o0]) rfl ?_
  refine x_put C 2 rfl pX8_117 N 0 rfl rfl rfl (Nat.le_of_ble_eq_true rfl) (os' := [(qm, (o0, cO 8 (mo A (nI 0) su (nI sz) bl (nI ci) (nI ma) pa en wr))), (q_circuitOf, (A 15, cI Y 6 co)), (q_inputs, (A 6, cI Y 6 i1)), (q_gates, (A 7, cI Y 6 g1)), (q_has, (A 24, cZ Y 336 fh)), (q_kind, (A 17, cI Y 6 kn))]) rfl ?_
  refine x_run C 3 2 (pc' := 7) (lv' := [(0, .ref o0), (1, .int (nI j)), (2, .int (nI v)), (3, .int 0), (4, .int i)]) (st' := [.int 0, .ref o0]) rfl ?_
  refine x_put C 5 rfl pX8_247 N 0 rfl rfl rfl (Nat.le_of_ble_eq_true rfl) (os' := [(qm, (o0, cO 8 (mo A (nI 0) (nI 0) (nI sz) bl (nI ci) (nI ma) pa en wr))), (q_circuitOf, (A 15, cI Y 6 co)), (q_inputs, (A 6, cI Y 6 i1)), (q_gates, (A 7, cI Y 6 g1)), (q_has, (A 24, cZ Y 336 fh)), (q_kind, (A 17, cI Y 6 kn))]) rfl ?_
  refine x_run C 6 2 (pc' := 12) (lv' := [(0, .ref o0), (1, .int (nI j)), (2, .int (nI v)), (3, .int 0), (4, .int i)]) (st' := [.int (nI j), .ref o0]) rfl ?_
  refine x_cv C 8 (As := [.int (nI j)]) (rest := []) rfl vX8_230 N 0 rfl rfl (c_X8_isGarbled Y _ o0 A (nI 0) (nI 0) sz bl ci ma pa en wr j qm (ovl_at 0 N rfl) (N.ov [0] (by decide) rfl) (by first | assumption | omega) (by first | assumption | omega)) rfl rfl (Nat.le_of_ble_eq_true rfl) ⟨Nat.le_of_ble_eq_true rfl, Nat.le_of_ble_eq_true rfl⟩ ⟨Nat.zero_le _, Nat.zero_le _⟩ [0] ⟨rfl, trivial⟩ (os' := [(qm, (o0, cO 8 (mo A (nI 0) (nI 0) (nI sz) bl (nI ci) (nI ma) pa en wr))), (q_circuitOf, (A 15, cI Y 6 co)), (q_inputs, (A 6, cI Y 6 i1)), (q_gates, (A 7, cI Y 6 g1)), (q_has, (A 24, cZ Y 336 fh)), (q_kind, (A 17, cI Y 6 kn))]) rfl (st' := [.int 1]) rfl ?_
  refine x_st (st' := [.int (nI 1)]) (by simp only [nlit, nI_add, pk_mul]) ?_
  refine x_ifN_eq C 9 (by omega) rfl (tgt := 47) rfl (fun hc1 => absurd hc1 (by omega)) (fun hc1 => ?_)
  refine x_run C 10 4 (pc' := 22) (lv' := [(0, .ref o0), (1, .int (nI j)), (2, .int (nI v)), (3, .int 0), (4, .int i)]) (st' := [.ref o0, .ref o0, .int 0, .int (nI v)]) rfl ?_
  refine x_get C 14 rfl fX8_55 N 0 rfl (v := .ref (A 15)) rfl ?_
  refine x_run C 15 1 (pc' := 26) (lv' := [(0, .ref o0), (1, .int (nI j)), (2, .int (nI v)), (3, .int 0), (4, .int i)]) (st' := [.int (nI j), .ref (A 15), .ref o0, .int 0, .int (nI v)]) rfl ?_
  refine x_ialdN C 16 rfl N 1 rfl (by omega) (by omega) ?_
  refine x_st (st' := [.int (nI c), .ref o0, .int 0, .int (nI v)]) (by rw [hco]) ?_
  refine x_cv C 17 (As := [.int (nI c)]) (rest := [.int 0, .int (nI v)]) rfl vX8_199 N 0 rfl rfl (c_X8_wiresOf Y _ o0 A (nI 0) (nI 0) sz bl ci ma pa en wr i1 g1 c n g qm q_inputs q_gates (ovl_at 0 N rfl) (ovl_at 2 N rfl) (ovl_at 3 N rfl) (N.ov [0, 2, 3] (by decide) rfl) (by first | assumption | omega) (by first | assumption | omega) (by first | assumption | omega)) rfl rfl (Nat.le_of_ble_eq_true rfl) ⟨Nat.le_of_ble_eq_true rfl, Nat.le_of_ble_eq_true rfl⟩ ⟨Nat.zero_le _, Nat.zero_le _⟩ [0, 2, 3] ⟨rfl, rfl, rfl, trivial⟩ (os' := [(qm, (o0, cO 8 (mo A (nI 0) (nI 0) (nI sz) bl (nI ci) (nI ma) pa en wr))), (q_circuitOf, (A 15, cI Y 6 co)), (q_inputs, (A 6, cI Y 6 i1)), (q_gates, (A 7, cI Y 6 g1)), (q_has, (A 24, cZ Y 336 fh)), (q_kind, (A 17, cI Y 6 kn))]) rfl (st' := [.int (nI (n + g)), .int 0, .int (nI v)]) rfl ?_
  refine x_run C 18 2 (pc' := 32) (lv' := [(0, .ref o0), (1, .int (nI j)), (2, .int (nI v)), (3, .int 0), (4, .int i)]) (st' := [.int ((nI (n + g)) - 1), .int 0, .int (nI v)]) rfl ?_
  refine x_st (st' := [.int (nI ((n + g) - 1)), .int 0, .int (nI v)]) (by simp only [nlit, nI_add, pk_mul, pk_sub (show 1 ≤ (n + g) by omega)]) ?_
  refine x_st (st' := [.int (nI ((n + g) - 1)), .int (nI 0), .int (nI v)]) (by simp only [nlit, nI_add, pk_mul]) ?_
  refine x_cs C 20 (As := [.int (nI v), .int (nI 0), .int (nI ((n + g) - 1))]) (rest := []) rfl vX8_135 N (c_X8_in Y _ v 0 ((n + g) - 1)    (by first | assumption | omega) (by first | assumption | omega) (by first | assumption | omega)) rfl rfl (Nat.le_of_ble_eq_true rfl) ⟨Nat.le_of_ble_eq_true rfl, Nat.le_of_ble_eq_true rfl⟩ ⟨Nat.zero_le _, Nat.zero_le _⟩ [] trivial (os' := [(qm, (o0, cO 8 (mo A (nI 0) (nI 0) (nI sz) bl (nI ci) (nI ma) pa en wr))), (q_circuitOf, (A 15, cI Y 6 co)), (q_inputs, (A 6, cI Y 6 i1)), (q_gates, (A 7, cI Y 6 g1)), (q_has, (A 24, cZ Y 336 fh)), (q_kind, (A 17, cI Y 6 kn))]) rfl (st' := [.int 1]) rfl ?_
  refine x_st (st' := [.int (nI 1)]) (by simp only [nlit, nI_add, pk_mul]) ?_
  refine x_ifN_eq C 21 (by omega) rfl (tgt := 47) rfl (fun hc2 => absurd hc2 (by omega)) (fun hc2 => ?_)
  refine x_run C 22 3 (pc' := 41) (lv' := [(0, .ref o0), (1, .int (nI j)), (2, .int (nI v)), (3, .int 0), (4, .int i)]) (st' := [.int 4, .int 0, .int 0]) rfl ?_
  refine x_st (st' := [.int (nI 4), .int (nI 0), .int (nI 0)]) (by simp only [nlit, nI_add, pk_mul]) ?_
  refine x_cs C 25 (As := [.int (nI 0), .int (nI 0), .int (nI 4)]) (rest := []) rfl vX8_135 N (c_X8_in Y _ 0 0 4    (by first | assumption | omega) (by first | assumption | omega) (by first | assumption | omega)) rfl rfl (Nat.le_of_ble_eq_true rfl) ⟨Nat.le_of_ble_eq_true rfl, Nat.le_of_ble_eq_true rfl⟩ ⟨Nat.zero_le _, Nat.zero_le _⟩ [] trivial (os' := [(qm, (o0, cO 8 (mo A (nI 0) (nI 0) (nI sz) bl (nI ci) (nI ma) pa en wr))), (q_circuitOf, (A 15, cI Y 6 co)), (q_inputs, (A 6, cI Y 6 i1)), (q_gates, (A 7, cI Y 6 g1)), (q_has, (A 24, cZ Y 336 fh)), (q_kind, (A 17, cI Y 6 kn))]) rfl (st' := [.int 1]) rfl ?_
  refine x_st (st' := [.int (nI 1)]) (by simp only [nlit, nI_add, pk_mul]) ?_
  refine x_ifN_ne C 26 (by omega) rfl (tgt := 53) rfl (fun hc3 => ?_) (fun hc3 => absurd hc3 (by omega))
  refine x_run C 31 1 (pc' := 54) (lv' := [(0, .ref o0), (1, .int (nI j)), (2, .int (nI v)), (3, .int 0), (4, .int i)]) (st' := [.ref o0]) rfl ?_
  refine x_get C 32 rfl fX8_82 N 0 rfl (v := .ref (A 24)) rfl ?_
  refine x_run C 33 5 (pc' := 63) (lv' := [(0, .ref o0), (1, .int (nI j)), (2, .int (nI v)), (3, .int 0), (4, .int i)]) (st' := [.int ((56 * (nI j)) + (nI v)), .ref (A 24)]) rfl ?_
  refine x_st (st' := [.int (nI ((56 * j) + v)), .ref (A 24)]) (by simp only [nlit, nI_add, pk_mul]) ?_
  refine x_zaldN C 38 rfl N 4 rfl (by omega) (by omega) ?_
  refine x_if_ne C 39 rfl (tgt := 74) rfl (fun hc4 => ?_) (fun hc4 => ?_)
  · refine x_run C 44 2 (pc' := 76) (lv' := [(0, .ref o0), (1, .int (nI j)), (2, .int (nI v)), (3, .int 0), (4, .int i)]) (st' := [.ref o0, .int 0]) rfl ?_
    refine x_get C 46 rfl fX8_61 N 0 rfl (v := .ref (A 17)) rfl ?_
    refine x_run C 47 1 (pc' := 80) (lv' := [(0, .ref o0), (1, .int (nI j)), (2, .int (nI v)), (3, .int 0), (4, .int i)]) (st' := [.int (nI j), .ref (A 17), .int 0]) rfl ?_
    refine x_ialdN C 48 rfl N 5 rfl (by omega) (by omega) ?_
    refine x_st (st' := [.int (nI kd), .int 0]) (by rw [hkn]) ?_
    refine x_st (st' := [.int (nI kd), .int (nI 0)]) (by simp only [nlit, nI_add, pk_mul]) ?_
    refine x_icmpN_eq C 49 (by omega) (by omega) rfl (tgt := 91) rfl (fun hc5 => ?_) (fun hc5 => ?_)
    · refine x_run C 54 1 (pc' := 92) (lv' := [(0, .ref o0), (1, .int (nI j)), (2, .int (nI v)), (3, .int 0), (4, .int i)]) (st' := [.int 0]) rfl ?_
      refine x_st (st' := [.int (nI 0)]) (by simp only [nlit, nI_add, pk_mul]) ?_
      refine x_ifN_ne C 55 (by omega) rfl (tgt := 99) rfl (fun hc6 => absurd hc6 (by omega)) (fun hc6 => ?_)
      refine x_run C 56 2 (pc' := 119) (lv' := [(0, .ref o0), (1, .int (nI j)), (2, .int (nI v)), (3, .int 0), (4, .int i)]) (st' := [.int 1]) rfl ?_
      refine x_run C 69 8 (pc' := 131) (lv' := [(5, .int 1), (0, .ref o0), (1, .int (nI j)), (2, .int (nI v)), (3, .int 0), (4, .int i)]) (st' := [.int ((16 / 1) - 1), .int 0, .int i]) rfl ?_
      refine x_cs C 77 (As := [.int i, .int 0, .int ((16 / 1) - 1)]) (rest := []) rfl vX8_135 N (c_X8_inF Y _ i 0 ((16 / 1) - 1)    (hi.imp id (fun h => Int32.lt_of_lt_of_le (by decide) h))) rfl rfl (Nat.le_of_ble_eq_true rfl) ⟨Nat.le_of_ble_eq_true rfl, Nat.le_of_ble_eq_true rfl⟩ ⟨Nat.zero_le _, Nat.zero_le _⟩ [] trivial (os' := [(qm, (o0, cO 8 (mo A (nI 0) (nI 0) (nI sz) bl (nI ci) (nI ma) pa en wr))), (q_circuitOf, (A 15, cI Y 6 co)), (q_inputs, (A 6, cI Y 6 i1)), (q_gates, (A 7, cI Y 6 g1)), (q_has, (A 24, cZ Y 336 fh)), (q_kind, (A 17, cI Y 6 kn))]) rfl (st' := [.int 0]) rfl ?_
      refine x_st (st' := [.int (nI 0)]) (by simp only [nlit, nI_add, pk_mul]) ?_
      refine x_ifN_ne C 78 (by omega) rfl (tgt := 144) rfl (fun hc7 => absurd hc7 (by omega)) (fun hc7 => ?_)
      refine x_run C 79 2 (pc' := 140) (lv' := [(5, .int 1), (0, .ref o0), (1, .int (nI j)), (2, .int (nI v)), (3, .int 0), (4, .int i)]) (st' := [.int (-12), .ref o0]) rfl ?_
      refine x_cv C 81 (As := [.int (-12)]) (rest := []) rfl vX8_250 N 0 rfl rfl (c_X8_no Y _ o0 A (nI 0) (nI 0) sz bl ci ma pa en wr (-12) qm (ovl_at 0 N rfl) (N.ov [0] (by decide) rfl) ) rfl rfl (Nat.le_of_ble_eq_true rfl) ⟨Nat.le_of_ble_eq_true rfl, Nat.le_of_ble_eq_true rfl⟩ ⟨Nat.zero_le _, Nat.zero_le _⟩ [0] ⟨rfl, trivial⟩ (os' := [(qm, (o0, cO 8 (mo A (nI 0) (-12) (nI sz) bl (nI ci) (nI ma) pa en wr))), (q_circuitOf, (A 15, cI Y 6 co)), (q_inputs, (A 6, cI Y 6 i1)), (q_gates, (A 7, cI Y 6 g1)), (q_has, (A 24, cZ Y 336 fh)), (q_kind, (A 17, cI Y 6 kn))]) rfl (st' := [.long 0]) rfl ?_
      exact x_lret C B rfl 82 rfl (Nat.zero_le _) (Nat.zero_le _) ⟨by first | contradiction | (simp only [if_neg hc4, if_pos hc5]; done) | (simp only [if_neg hc4, if_pos hc5]; simp only [nlit, nI_add, pk_mul]; done) | (simp only [if_neg hc4, if_pos hc5, nlit, nI_add, pk_mul]; done) | rfl | (simp only [if_neg hc4, if_pos hc5]; rfl) | (simp only [if_neg hc4, if_pos hc5, nlit, nI_add, pk_mul]; rfl), by first | contradiction | (simp only [if_neg hc4, if_pos hc5]; done) | (simp only [if_neg hc4, if_pos hc5]; simp only [nlit, nI_add, pk_mul]; done) | (simp only [if_neg hc4, if_pos hc5, nlit, nI_add, pk_mul]; done) | rfl | (simp only [if_neg hc4, if_pos hc5]; rfl) | (simp only [if_neg hc4, if_pos hc5, nlit, nI_add, pk_mul]; rfl)⟩
    · exact absurd (by omega) hc5
  · exact absurd hc4 hh
set_option maxHeartbeats 4000000 in
set_option maxRecDepth 100000 in
theorem c_X8_place0 (Y : xD) (w : va_W) (o0 : Nat) (A : Nat → Nat) (th : Int32) (su : Int32) (sz : Nat) (bl : Int32) (ci : Nat) (ma : Nat) (pa : Int32) (en : Int32) (wr : Int32) (co : Nat → Int32) (i1 : Nat → Int32) (g1 : Nat → Int32) (j : Nat) (c : Nat) (n : Nat) (g : Nat) (v : Nat) (kd : Nat) (i : Nat) (fh : Nat → Int32) (kn : Nat → Int32) (fn : Nat → Nat) (qm q_circuitOf q_inputs q_gates q_has q_kind q_now : Nat) (e0 : w[qm]? = some (o0, cO 8 (mo A th su (nI sz) bl (nI ci) (nI ma) pa en wr))) (e1 : w[q_circuitOf]? = some (A 15, cI Y 6 co)) (e2 : w[q_inputs]? = some (A 6, cI Y 6 i1)) (e3 : w[q_gates]? = some (A 7, cI Y 6 g1)) (e4 : w[q_has]? = some (A 24, cZ Y 336 fh)) (e5 : w[q_kind]? = some (A 17, cI Y 6 kn)) (e6 : w[q_now]? = some (A 23, cI Y 5376 (iF fn))) (N : xN w.length [qm, q_circuitOf, q_inputs, q_gates, q_has, q_kind, q_now]) (hj : j < ma) (h6 : ma ≤ 6) (hc6 : c < 6) (hn16 : n ≤ 16) (hn1 : 1 ≤ n) (hg40 : g ≤ 40) (hco : co j = nI c) (hin : i1 c = nI n) (hga : g1 c = nI g) (hv : v < n + g) (hkn : kn j = nI kd) (hkd : kd = 0) (hh : ¬ fh (56 * j + v) = 0) (hi : i < 16) : Cf Y mX8_place 2 [.ref o0, .int (nI j), .int (nI v), .int 0, .int (nI i)] w (some (.long (plV fn (16 * (56 * j + v) + 1 * i) 0))) [(qm, (o0, cO 8 (mo A (nI 0) (nI 0) (nI sz) bl (nI ci) (nI ma) pa en wr))), (q_circuitOf, (A 15, cI Y 6 co)), (q_inputs, (A 6, cI Y 6 i1)), (q_gates, (A 7, cI Y 6 g1)), (q_has, (A 24, cZ Y 336 fh)), (q_kind, (A 17, cI Y 6 kn)), (q_now, (A 23, cI Y 5376 (iF fn)))] := by
  refine Ct.intro (T := tX8_place) (by decide) oX8_place (Nat.le_of_ble_eq_true rfl) (fun G C B => ?_)
  refine x_lay [(qm, (o0, cO 8 (mo A th su (nI sz) bl (nI ci) (nI ma) pa en wr))), (q_circuitOf, (A 15, cI Y 6 co)), (q_inputs, (A 6, cI Y 6 i1)), (q_gates, (A 7, cI Y 6 g1)), (q_has, (A 24, cZ Y 336 fh)), (q_kind, (A 17, cI Y 6 kn)), (q_now, (A 23, cI Y 5376 (iF fn)))] (lay_cons e0 (lay_cons e1 (lay_cons e2 (lay_cons e3 (lay_cons e4 (lay_cons e5 (lay_cons e6 lay_nil))))))) ?_
  refine x_run C 0 2 (pc' := 2) (lv' := [(0, .ref o0), (1, .int (nI j)), (2, .int (nI v)), (3, .int 0), (4, .int (nI i))]) (st' := [.int 0, .ref o0]) rfl ?_
  refine x_put C 2 rfl pX8_117 N 0 rfl rfl rfl (Nat.le_of_ble_eq_true rfl) (os' := [(qm, (o0, cO 8 (mo A (nI 0) su (nI sz) bl (nI ci) (nI ma) pa en wr))), (q_circuitOf, (A 15, cI Y 6 co)), (q_inputs, (A 6, cI Y 6 i1)), (q_gates, (A 7, cI Y 6 g1)), (q_has, (A 24, cZ Y 336 fh)), (q_kind, (A 17, cI Y 6 kn)), (q_now, (A 23, cI Y 5376 (iF fn)))]) rfl ?_
  refine x_run C 3 2 (pc' := 7) (lv' := [(0, .ref o0), (1, .int (nI j)), (2, .int (nI v)), (3, .int 0), (4, .int (nI i))]) (st' := [.int 0, .ref o0]) rfl ?_
  refine x_put C 5 rfl pX8_247 N 0 rfl rfl rfl (Nat.le_of_ble_eq_true rfl) (os' := [(qm, (o0, cO 8 (mo A (nI 0) (nI 0) (nI sz) bl (nI ci) (nI ma) pa en wr))), (q_circuitOf, (A 15, cI Y 6 co)), (q_inputs, (A 6, cI Y 6 i1)), (q_gates, (A 7, cI Y 6 g1)), (q_has, (A 24, cZ Y 336 fh)), (q_kind, (A 17, cI Y 6 kn)), (q_now, (A 23, cI Y 5376 (iF fn)))]) rfl ?_
  refine x_run C 6 2 (pc' := 12) (lv' := [(0, .ref o0), (1, .int (nI j)), (2, .int (nI v)), (3, .int 0), (4, .int (nI i))]) (st' := [.int (nI j), .ref o0]) rfl ?_
  refine x_cv C 8 (As := [.int (nI j)]) (rest := []) rfl vX8_230 N 0 rfl rfl (c_X8_isGarbled Y _ o0 A (nI 0) (nI 0) sz bl ci ma pa en wr j qm (ovl_at 0 N rfl) (N.ov [0] (by decide) rfl) (by first | assumption | omega) (by first | assumption | omega)) rfl rfl (Nat.le_of_ble_eq_true rfl) ⟨Nat.le_of_ble_eq_true rfl, Nat.le_of_ble_eq_true rfl⟩ ⟨Nat.zero_le _, Nat.zero_le _⟩ [0] ⟨rfl, trivial⟩ (os' := [(qm, (o0, cO 8 (mo A (nI 0) (nI 0) (nI sz) bl (nI ci) (nI ma) pa en wr))), (q_circuitOf, (A 15, cI Y 6 co)), (q_inputs, (A 6, cI Y 6 i1)), (q_gates, (A 7, cI Y 6 g1)), (q_has, (A 24, cZ Y 336 fh)), (q_kind, (A 17, cI Y 6 kn)), (q_now, (A 23, cI Y 5376 (iF fn)))]) rfl (st' := [.int 1]) rfl ?_
  refine x_st (st' := [.int (nI 1)]) (by simp only [nlit, nI_add, pk_mul]) ?_
  refine x_ifN_eq C 9 (by omega) rfl (tgt := 47) rfl (fun hc1 => absurd hc1 (by omega)) (fun hc1 => ?_)
  refine x_run C 10 4 (pc' := 22) (lv' := [(0, .ref o0), (1, .int (nI j)), (2, .int (nI v)), (3, .int 0), (4, .int (nI i))]) (st' := [.ref o0, .ref o0, .int 0, .int (nI v)]) rfl ?_
  refine x_get C 14 rfl fX8_55 N 0 rfl (v := .ref (A 15)) rfl ?_
  refine x_run C 15 1 (pc' := 26) (lv' := [(0, .ref o0), (1, .int (nI j)), (2, .int (nI v)), (3, .int 0), (4, .int (nI i))]) (st' := [.int (nI j), .ref (A 15), .ref o0, .int 0, .int (nI v)]) rfl ?_
  refine x_ialdN C 16 rfl N 1 rfl (by omega) (by omega) ?_
  refine x_st (st' := [.int (nI c), .ref o0, .int 0, .int (nI v)]) (by rw [hco]) ?_
  refine x_cv C 17 (As := [.int (nI c)]) (rest := [.int 0, .int (nI v)]) rfl vX8_199 N 0 rfl rfl (c_X8_wiresOf Y _ o0 A (nI 0) (nI 0) sz bl ci ma pa en wr i1 g1 c n g qm q_inputs q_gates (ovl_at 0 N rfl) (ovl_at 2 N rfl) (ovl_at 3 N rfl) (N.ov [0, 2, 3] (by decide) rfl) (by first | assumption | omega) (by first | assumption | omega) (by first | assumption | omega)) rfl rfl (Nat.le_of_ble_eq_true rfl) ⟨Nat.le_of_ble_eq_true rfl, Nat.le_of_ble_eq_true rfl⟩ ⟨Nat.zero_le _, Nat.zero_le _⟩ [0, 2, 3] ⟨rfl, rfl, rfl, trivial⟩ (os' := [(qm, (o0, cO 8 (mo A (nI 0) (nI 0) (nI sz) bl (nI ci) (nI ma) pa en wr))), (q_circuitOf, (A 15, cI Y 6 co)), (q_inputs, (A 6, cI Y 6 i1)), (q_gates, (A 7, cI Y 6 g1)), (q_has, (A 24, cZ Y 336 fh)), (q_kind, (A 17, cI Y 6 kn)), (q_now, (A 23, cI Y 5376 (iF fn)))]) rfl (st' := [.int (nI (n + g)), .int 0, .int (nI v)]) rfl ?_
  refine x_run C 18 2 (pc' := 32) (lv' := [(0, .ref o0), (1, .int (nI j)), (2, .int (nI v)), (3, .int 0), (4, .int (nI i))]) (st' := [.int ((nI (n + g)) - 1), .int 0, .int (nI v)]) rfl ?_
  refine x_st (st' := [.int (nI ((n + g) - 1)), .int 0, .int (nI v)]) (by simp only [nlit, nI_add, pk_mul, pk_sub (show 1 ≤ (n + g) by omega)]) ?_
  refine x_st (st' := [.int (nI ((n + g) - 1)), .int (nI 0), .int (nI v)]) (by simp only [nlit, nI_add, pk_mul]) ?_
  refine x_cs C 20 (As := [.int (nI v), .int (nI 0), .int (nI ((n + g) - 1))]) (rest := []) rfl vX8_135 N (c_X8_in Y _ v 0 ((n + g) - 1)    (by first | assumption | omega) (by first | assumption | omega) (by first | assumption | omega)) rfl rfl (Nat.le_of_ble_eq_true rfl) ⟨Nat.le_of_ble_eq_true rfl, Nat.le_of_ble_eq_true rfl⟩ ⟨Nat.zero_le _, Nat.zero_le _⟩ [] trivial (os' := [(qm, (o0, cO 8 (mo A (nI 0) (nI 0) (nI sz) bl (nI ci) (nI ma) pa en wr))), (q_circuitOf, (A 15, cI Y 6 co)), (q_inputs, (A 6, cI Y 6 i1)), (q_gates, (A 7, cI Y 6 g1)), (q_has, (A 24, cZ Y 336 fh)), (q_kind, (A 17, cI Y 6 kn)), (q_now, (A 23, cI Y 5376 (iF fn)))]) rfl (st' := [.int 1]) rfl ?_
  refine x_st (st' := [.int (nI 1)]) (by simp only [nlit, nI_add, pk_mul]) ?_
  refine x_ifN_eq C 21 (by omega) rfl (tgt := 47) rfl (fun hc2 => absurd hc2 (by omega)) (fun hc2 => ?_)
  refine x_run C 22 3 (pc' := 41) (lv' := [(0, .ref o0), (1, .int (nI j)), (2, .int (nI v)), (3, .int 0), (4, .int (nI i))]) (st' := [.int 4, .int 0, .int 0]) rfl ?_
  refine x_st (st' := [.int (nI 4), .int (nI 0), .int (nI 0)]) (by simp only [nlit, nI_add, pk_mul]) ?_
  refine x_cs C 25 (As := [.int (nI 0), .int (nI 0), .int (nI 4)]) (rest := []) rfl vX8_135 N (c_X8_in Y _ 0 0 4    (by first | assumption | omega) (by first | assumption | omega) (by first | assumption | omega)) rfl rfl (Nat.le_of_ble_eq_true rfl) ⟨Nat.le_of_ble_eq_true rfl, Nat.le_of_ble_eq_true rfl⟩ ⟨Nat.zero_le _, Nat.zero_le _⟩ [] trivial (os' := [(qm, (o0, cO 8 (mo A (nI 0) (nI 0) (nI sz) bl (nI ci) (nI ma) pa en wr))), (q_circuitOf, (A 15, cI Y 6 co)), (q_inputs, (A 6, cI Y 6 i1)), (q_gates, (A 7, cI Y 6 g1)), (q_has, (A 24, cZ Y 336 fh)), (q_kind, (A 17, cI Y 6 kn)), (q_now, (A 23, cI Y 5376 (iF fn)))]) rfl (st' := [.int 1]) rfl ?_
  refine x_st (st' := [.int (nI 1)]) (by simp only [nlit, nI_add, pk_mul]) ?_
  refine x_ifN_ne C 26 (by omega) rfl (tgt := 53) rfl (fun hc3 => ?_) (fun hc3 => absurd hc3 (by omega))
  refine x_run C 31 1 (pc' := 54) (lv' := [(0, .ref o0), (1, .int (nI j)), (2, .int (nI v)), (3, .int 0), (4, .int (nI i))]) (st' := [.ref o0]) rfl ?_
  refine x_get C 32 rfl fX8_82 N 0 rfl (v := .ref (A 24)) rfl ?_
  refine x_run C 33 5 (pc' := 63) (lv' := [(0, .ref o0), (1, .int (nI j)), (2, .int (nI v)), (3, .int 0), (4, .int (nI i))]) (st' := [.int ((56 * (nI j)) + (nI v)), .ref (A 24)]) rfl ?_
  refine x_st (st' := [.int (nI ((56 * j) + v)), .ref (A 24)]) (by simp only [nlit, nI_add, pk_mul]) ?_
  refine x_zaldN C 38 rfl N 4 rfl (by omega) (by omega) ?_
  refine x_if_ne C 39 rfl (tgt := 74) rfl (fun hc4 => ?_) (fun hc4 => ?_)
  · refine x_run C 44 2 (pc' := 76) (lv' := [(0, .ref o0), (1, .int (nI j)), (2, .int (nI v)), (3, .int 0), (4, .int (nI i))]) (st' := [.ref o0, .int 0]) rfl ?_
    refine x_get C 46 rfl fX8_61 N 0 rfl (v := .ref (A 17)) rfl ?_
    refine x_run C 47 1 (pc' := 80) (lv' := [(0, .ref o0), (1, .int (nI j)), (2, .int (nI v)), (3, .int 0), (4, .int (nI i))]) (st' := [.int (nI j), .ref (A 17), .int 0]) rfl ?_
    refine x_ialdN C 48 rfl N 5 rfl (by omega) (by omega) ?_
    refine x_st (st' := [.int (nI kd), .int 0]) (by rw [hkn]) ?_
    refine x_st (st' := [.int (nI kd), .int (nI 0)]) (by simp only [nlit, nI_add, pk_mul]) ?_
    refine x_icmpN_eq C 49 (by omega) (by omega) rfl (tgt := 91) rfl (fun hc5 => ?_) (fun hc5 => ?_)
    · refine x_run C 54 1 (pc' := 92) (lv' := [(0, .ref o0), (1, .int (nI j)), (2, .int (nI v)), (3, .int 0), (4, .int (nI i))]) (st' := [.int 0]) rfl ?_
      refine x_st (st' := [.int (nI 0)]) (by simp only [nlit, nI_add, pk_mul]) ?_
      refine x_ifN_ne C 55 (by omega) rfl (tgt := 99) rfl (fun hc6 => absurd hc6 (by omega)) (fun hc6 => ?_)
      refine x_run C 56 2 (pc' := 119) (lv' := [(0, .ref o0), (1, .int (nI j)), (2, .int (nI v)), (3, .int 0), (4, .int (nI i))]) (st' := [.int 1]) rfl ?_
      refine x_run C 69 8 (pc' := 131) (lv' := [(5, .int 1), (0, .ref o0), (1, .int (nI j)), (2, .int (nI v)), (3, .int 0), (4, .int (nI i))]) (st' := [.int ((16 / 1) - 1), .int 0, .int (nI i)]) rfl ?_
      refine x_st (st' := [.int (nI 15), .int (nI 0), .int (nI i)]) (by simp only [nlit, nI_add, pk_mul, pk_div (show 16 < 2 ^ 31 by omega) (show 0 < 1 by decide) (show 1 < 2 ^ 31 by decide), pk_sub (show 1 ≤ 16 by omega)]) ?_
      refine x_cs C 77 (As := [.int (nI i), .int (nI 0), .int (nI 15)]) (rest := []) rfl vX8_135 N (c_X8_in Y _ i 0 15    (by first | assumption | omega) (by first | assumption | omega) (by first | assumption | omega)) rfl rfl (Nat.le_of_ble_eq_true rfl) ⟨Nat.le_of_ble_eq_true rfl, Nat.le_of_ble_eq_true rfl⟩ ⟨Nat.zero_le _, Nat.zero_le _⟩ [] trivial (os' := [(qm, (o0, cO 8 (mo A (nI 0) (nI 0) (nI sz) bl (nI ci) (nI ma) pa en wr))), (q_circuitOf, (A 15, cI Y 6 co)), (q_inputs, (A 6, cI Y 6 i1)), (q_gates, (A 7, cI Y 6 g1)), (q_has, (A 24, cZ Y 336 fh)), (q_kind, (A 17, cI Y 6 kn)), (q_now, (A 23, cI Y 5376 (iF fn)))]) rfl (st' := [.int 1]) rfl ?_
      refine x_st (st' := [.int (nI 1)]) (by simp only [nlit, nI_add, pk_mul]) ?_
      refine x_ifN_ne C 78 (by omega) rfl (tgt := 144) rfl (fun hc7 => ?_) (fun hc7 => absurd hc7 (by omega))
      refine x_run C 83 4 (pc' := 150) (lv' := [(8, .int 0), (6, .long 0), (5, .int 1), (0, .ref o0), (1, .int (nI j)), (2, .int (nI v)), (3, .int 0), (4, .int (nI i))]) (st' := []) rfl ?_
      have L150 : ∀ q : Nat, 0 ≤ q → q ≤ 1 → X G Y 0 0 150 [(0, .ref o0), (1, .int (nI j)), (2, .int (nI v)), (3, .int 0), (4, .int (nI i)), (5, .int 1), (6, .long (w8 fn (16 * (56 * j + v) + 1 * i) q)), (8, .int (nI q))] [] (ovl w [(qm, (o0, cO 8 (mo A (nI 0) (nI 0) (nI sz) bl (nI ci) (nI ma) pa en wr))), (q_circuitOf, (A 15, cI Y 6 co)), (q_inputs, (A 6, cI Y 6 i1)), (q_gates, (A 7, cI Y 6 g1)), (q_has, (A 24, cZ Y 336 fh)), (q_kind, (A 17, cI Y 6 kn)), (q_now, (A 23, cI Y 5376 (iF fn)))]) := by
        intro q lo150 hi150
        revert lo150
        refine x_up (fun q => 0 ≤ q → X G Y 0 0 150 [(0, .ref o0), (1, .int (nI j)), (2, .int (nI v)), (3, .int 0), (4, .int (nI i)), (5, .int 1), (6, .long (w8 fn (16 * (56 * j + v) + 1 * i) q)), (8, .int (nI q))] [] (ovl w [(qm, (o0, cO 8 (mo A (nI 0) (nI 0) (nI sz) bl (nI ci) (nI ma) pa en wr))), (q_circuitOf, (A 15, cI Y 6 co)), (q_inputs, (A 6, cI Y 6 i1)), (q_gates, (A 7, cI Y 6 g1)), (q_has, (A 24, cZ Y 336 fh)), (q_kind, (A 17, cI Y 6 kn)), (q_now, (A 23, cI Y 5376 (iF fn)))])) 1 ?_ ?_ q hi150
        · intro lo150
          refine x_run C 87 2 (pc' := 154) (lv' := [(0, .ref o0), (1, .int (nI j)), (2, .int (nI v)), (3, .int 0), (4, .int (nI i)), (5, .int 1), (6, .long (w8 fn (16 * (56 * j + v) + 1 * i) 1)), (8, .int (nI 1))]) (st' := [.int 1, .int (nI 1)]) rfl ?_
          refine x_st (st' := [.int (nI 1), .int (nI 1)]) (by simp only [nlit, nI_add, pk_mul]) ?_
          refine x_icmpN_ge C 89 (by omega) (by omega) rfl (tgt := 191) rfl (fun hc8 => ?_) (fun hc8 => ?_)
          · refine x_run C 110 1 (pc' := 192) (lv' := [(0, .ref o0), (1, .int (nI j)), (2, .int (nI v)), (3, .int 0), (4, .int (nI i)), (5, .int 1), (6, .long (w8 fn (16 * (56 * j + v) + 1 * i) 1)), (8, .int (nI 1))]) (st' := [.int 0]) rfl ?_
            refine x_st (st' := [.int (nI 0)]) (by simp only [nlit, nI_add, pk_mul]) ?_
            refine x_ifN_ne C 111 (by omega) rfl (tgt := 203) rfl (fun hc9 => absurd hc9 (by omega)) (fun hc9 => ?_)
            refine x_run C 112 5 (pc' := 230) (lv' := [(0, .ref o0), (1, .int (nI j)), (2, .int (nI v)), (3, .int 0), (4, .int (nI i)), (5, .int 1), (6, .long (w8 fn (16 * (56 * j + v) + 1 * i) 1)), (8, .int (nI 1))]) (st' := [.long ((((w8 fn (16 * (56 * j + v) + 1 * i) 1).toInt32).toInt8.toInt32).toInt64)]) rfl ?_
            exact x_lret C B rfl 133 rfl (Nat.zero_le _) (Nat.zero_le _) ⟨by rfl, rfl⟩
          · exact absurd hc8 (by omega)
        · intro q hi150 ih150 lo150
          refine x_run C 87 2 (pc' := 154) (lv' := [(0, .ref o0), (1, .int (nI j)), (2, .int (nI v)), (3, .int 0), (4, .int (nI i)), (5, .int 1), (6, .long (w8 fn (16 * (56 * j + v) + 1 * i) q)), (8, .int (nI q))]) (st' := [.int 1, .int (nI q)]) rfl ?_
          refine x_st (st' := [.int (nI 1), .int (nI q)]) (by simp only [nlit, nI_add, pk_mul]) ?_
          refine x_icmpN_ge C 89 (by omega) (by omega) rfl (tgt := 191) rfl (fun hc10 => ?_) (fun hc10 => ?_)
          · exact absurd hc10 (by omega)
          · refine x_run C 90 4 (pc' := 163) (lv' := [(0, .ref o0), (1, .int (nI j)), (2, .int (nI v)), (3, .int 0), (4, .int (nI i)), (5, .int 1), (6, .long (w8 fn (16 * (56 * j + v) + 1 * i) q)), (8, .int (nI q))]) (st' := [.ref o0, .long (jlshl (w8 fn (16 * (56 * j + v) + 1 * i) q) 8)]) rfl ?_
            refine x_get C 94 rfl fX8_79 N 0 rfl (v := .ref (A 23)) rfl ?_
            refine x_run C 95 2 (pc' := 168) (lv' := [(0, .ref o0), (1, .int (nI j)), (2, .int (nI v)), (3, .int 0), (4, .int (nI i)), (5, .int 1), (6, .long (w8 fn (16 * (56 * j + v) + 1 * i) q)), (8, .int (nI q))]) (st' := [.int (nI v), .int (nI j), .ref (A 23), .long (jlshl (w8 fn (16 * (56 * j + v) + 1 * i) q) 8)]) rfl ?_
            refine x_cs C 97 (As := [.int (nI j), .int (nI v)]) (rest := [.ref (A 23), .long (jlshl (w8 fn (16 * (56 * j + v) + 1 * i) q) 8)]) rfl vX8_210 N (c_X8_placeOf Y _ j v    ) rfl rfl (Nat.le_of_ble_eq_true rfl) ⟨Nat.le_of_ble_eq_true rfl, Nat.le_of_ble_eq_true rfl⟩ ⟨Nat.zero_le _, Nat.zero_le _⟩ [] trivial (os' := [(qm, (o0, cO 8 (mo A (nI 0) (nI 0) (nI sz) bl (nI ci) (nI ma) pa en wr))), (q_circuitOf, (A 15, cI Y 6 co)), (q_inputs, (A 6, cI Y 6 i1)), (q_gates, (A 7, cI Y 6 g1)), (q_has, (A 24, cZ Y 336 fh)), (q_kind, (A 17, cI Y 6 kn)), (q_now, (A 23, cI Y 5376 (iF fn)))]) rfl (st' := [.int (nI (16 * (56 * j + v))), .ref (A 23), .long (jlshl (w8 fn (16 * (56 * j + v) + 1 * i) q) 8)]) rfl ?_
            refine x_run C 98 6 (pc' := 180) (lv' := [(0, .ref o0), (1, .int (nI j)), (2, .int (nI v)), (3, .int 0), (4, .int (nI i)), (5, .int 1), (6, .long (w8 fn (16 * (56 * j + v) + 1 * i) q)), (8, .int (nI q))]) (st' := [.int (((nI (16 * (56 * j + v))) + (1 * (nI i))) + (nI q)), .ref (A 23), .long (jlshl (w8 fn (16 * (56 * j + v) + 1 * i) q) 8)]) rfl ?_
            refine x_st (st' := [.int (nI (((16 * (56 * j + v)) + (1 * i)) + q)), .ref (A 23), .long (jlshl (w8 fn (16 * (56 * j + v) + 1 * i) q) 8)]) (by simp only [nlit, nI_add, pk_mul]) ?_
            refine x_ialdN C 104 rfl N 6 rfl (by omega) (by omega) ?_
            refine x_st (st' := [.int (nI (fn (((16 * (56 * j + v)) + (1 * i)) + q))), .long (jlshl (w8 fn (16 * (56 * j + v) + 1 * i) q) 8)]) rfl ?_
            refine x_run C 105 5 (pc' := 150) (lv' := [(8, .int ((nI q) + 1)), (6, .long ((jlshl (w8 fn (16 * (56 * j + v) + 1 * i) q) 8) ||| ((nI (fn (((16 * (56 * j + v)) + (1 * i)) + q))).toInt64))), (0, .ref o0), (1, .int (nI j)), (2, .int (nI v)), (3, .int 0), (4, .int (nI i)), (5, .int 1)]) (st' := []) rfl ?_
            refine x_sub (lv' := [(0, .ref o0), (1, .int (nI j)), (2, .int (nI v)), (3, .int 0), (4, .int (nI i)), (5, .int 1), (6, .long ((jlshl (w8 fn (16 * (56 * j + v) + 1 * i) q) 8) ||| ((nI (fn (((16 * (56 * j + v)) + (1 * i)) + q))).toInt64))), (8, .int ((nI q) + 1))]) [2, 3, 4, 5, 6, 7, 1, 0] rfl ?_
            refine x_loc (lv' := [(0, .ref o0), (1, .int (nI j)), (2, .int (nI v)), (3, .int 0), (4, .int (nI i)), (5, .int 1), (6, .long (w8 fn (16 * (56 * j + v) + 1 * i) (q + 1))), (8, .int (nI (q + 1)))]) (by simp only [w8, nlit, nI_add]) ?_
            exact ih150 (by omega)
      refine x_sub (lv' := [(0, .ref o0), (1, .int (nI j)), (2, .int (nI v)), (3, .int 0), (4, .int (nI i)), (5, .int 1), (6, .long 0), (8, .int 0)]) [3, 4, 5, 6, 7, 2, 1, 0] rfl ?_
      refine x_loc (lv' := [(0, .ref o0), (1, .int (nI j)), (2, .int (nI v)), (3, .int 0), (4, .int (nI i)), (5, .int 1), (6, .long (w8 fn (16 * (56 * j + v) + 1 * i) 0)), (8, .int (nI 0))]) (by rfl) ?_
      exact L150 0 (Nat.le_refl _) (by omega)
    · exact absurd (by omega) hc5
  · exact absurd hc4 hh
set_option maxHeartbeats 4000000 in
set_option maxRecDepth 100000 in
theorem c_X8_placeX1 (Y : xD) (w : va_W) (o0 : Nat) (A : Nat → Nat) (th : Int32) (su : Int32) (sz : Nat) (bl : Int32) (ci : Nat) (ma : Nat) (pa : Int32) (en : Int32) (wr : Int32) (co : Nat → Int32) (i1 : Nat → Int32) (g1 : Nat → Int32) (j : Nat) (c : Nat) (n : Nat) (g : Nat) (v : Nat) (kd : Nat) (i : Int32) (fh : Nat → Int32) (kn : Nat → Int32) (qm q_circuitOf q_inputs q_gates q_has q_kind : Nat) (e0 : w[qm]? = some (o0, cO 8 (mo A th su (nI sz) bl (nI ci) (nI ma) pa en wr))) (e1 : w[q_circuitOf]? = some (A 15, cI Y 6 co)) (e2 : w[q_inputs]? = some (A 6, cI Y 6 i1)) (e3 : w[q_gates]? = some (A 7, cI Y 6 g1)) (e4 : w[q_has]? = some (A 24, cZ Y 336 fh)) (e5 : w[q_kind]? = some (A 17, cI Y 6 kn)) (N : xN w.length [qm, q_circuitOf, q_inputs, q_gates, q_has, q_kind]) (hj : j < ma) (h6 : ma ≤ 6) (hc6 : c < 6) (hn16 : n ≤ 16) (hn1 : 1 ≤ n) (hg40 : g ≤ 40) (hco : co j = nI c) (hin : i1 c = nI n) (hga : g1 c = nI g) (hv : v < n + g) (hkn : kn j = nI kd) (hkd : kd = 1) (hh : ¬ fh (56 * j + v) = 0) (hi : i < 0 ∨ 8 ≤ i) : Cf Y mX8_place 2 [.ref o0, .int (nI j), .int (nI v), .int 1, .int i] w (some (.long 0)) [(qm, (o0, cO 8 (mo A (nI 0) (-12) (nI sz) bl (nI ci) (nI ma) pa en wr))), (q_circuitOf, (A 15, cI Y 6 co)), (q_inputs, (A 6, cI Y 6 i1)), (q_gates, (A 7, cI Y 6 g1)), (q_has, (A 24, cZ Y 336 fh)), (q_kind, (A 17, cI Y 6 kn))] := by
  refine Ct.intro (T := tX8_place) (by decide) oX8_place (Nat.le_of_ble_eq_true rfl) (fun G C B => ?_)
  refine x_lay [(qm, (o0, cO 8 (mo A th su (nI sz) bl (nI ci) (nI ma) pa en wr))), (q_circuitOf, (A 15, cI Y 6 co)), (q_inputs, (A 6, cI Y 6 i1)), (q_gates, (A 7, cI Y 6 g1)), (q_has, (A 24, cZ Y 336 fh)), (q_kind, (A 17, cI Y 6 kn))] (lay_cons e0 (lay_cons e1 (lay_cons e2 (lay_cons e3 (lay_cons e4 (lay_cons e5 lay_nil)))))) ?_
  refine x_run C 0 2 (pc' := 2) (lv' := [(0, .ref o0), (1, .int (nI j)), (2, .int (nI v)), (3, .int 1), (4, .int i)]) (st' := [.int 0, .ref o0]) rfl ?_
  refine x_put C 2 rfl pX8_117 N 0 rfl rfl rfl (Nat.le_of_ble_eq_true rfl) (os' := [(qm, (o0, cO 8 (mo A (nI 0) su (nI sz) bl (nI ci) (nI ma) pa en wr))), (q_circuitOf, (A 15, cI Y 6 co)), (q_inputs, (A 6, cI Y 6 i1)), (q_gates, (A 7, cI Y 6 g1)), (q_has, (A 24, cZ Y 336 fh)), (q_kind, (A 17, cI Y 6 kn))]) rfl ?_
  refine x_run C 3 2 (pc' := 7) (lv' := [(0, .ref o0), (1, .int (nI j)), (2, .int (nI v)), (3, .int 1), (4, .int i)]) (st' := [.int 0, .ref o0]) rfl ?_
  refine x_put C 5 rfl pX8_247 N 0 rfl rfl rfl (Nat.le_of_ble_eq_true rfl) (os' := [(qm, (o0, cO 8 (mo A (nI 0) (nI 0) (nI sz) bl (nI ci) (nI ma) pa en wr))), (q_circuitOf, (A 15, cI Y 6 co)), (q_inputs, (A 6, cI Y 6 i1)), (q_gates, (A 7, cI Y 6 g1)), (q_has, (A 24, cZ Y 336 fh)), (q_kind, (A 17, cI Y 6 kn))]) rfl ?_
  refine x_run C 6 2 (pc' := 12) (lv' := [(0, .ref o0), (1, .int (nI j)), (2, .int (nI v)), (3, .int 1), (4, .int i)]) (st' := [.int (nI j), .ref o0]) rfl ?_
  refine x_cv C 8 (As := [.int (nI j)]) (rest := []) rfl vX8_230 N 0 rfl rfl (c_X8_isGarbled Y _ o0 A (nI 0) (nI 0) sz bl ci ma pa en wr j qm (ovl_at 0 N rfl) (N.ov [0] (by decide) rfl) (by first | assumption | omega) (by first | assumption | omega)) rfl rfl (Nat.le_of_ble_eq_true rfl) ⟨Nat.le_of_ble_eq_true rfl, Nat.le_of_ble_eq_true rfl⟩ ⟨Nat.zero_le _, Nat.zero_le _⟩ [0] ⟨rfl, trivial⟩ (os' := [(qm, (o0, cO 8 (mo A (nI 0) (nI 0) (nI sz) bl (nI ci) (nI ma) pa en wr))), (q_circuitOf, (A 15, cI Y 6 co)), (q_inputs, (A 6, cI Y 6 i1)), (q_gates, (A 7, cI Y 6 g1)), (q_has, (A 24, cZ Y 336 fh)), (q_kind, (A 17, cI Y 6 kn))]) rfl (st' := [.int 1]) rfl ?_
  refine x_st (st' := [.int (nI 1)]) (by simp only [nlit, nI_add, pk_mul]) ?_
  refine x_ifN_eq C 9 (by omega) rfl (tgt := 47) rfl (fun hc1 => absurd hc1 (by omega)) (fun hc1 => ?_)
  refine x_run C 10 4 (pc' := 22) (lv' := [(0, .ref o0), (1, .int (nI j)), (2, .int (nI v)), (3, .int 1), (4, .int i)]) (st' := [.ref o0, .ref o0, .int 0, .int (nI v)]) rfl ?_
  refine x_get C 14 rfl fX8_55 N 0 rfl (v := .ref (A 15)) rfl ?_
  refine x_run C 15 1 (pc' := 26) (lv' := [(0, .ref o0), (1, .int (nI j)), (2, .int (nI v)), (3, .int 1), (4, .int i)]) (st' := [.int (nI j), .ref (A 15), .ref o0, .int 0, .int (nI v)]) rfl ?_
  refine x_ialdN C 16 rfl N 1 rfl (by omega) (by omega) ?_
  refine x_st (st' := [.int (nI c), .ref o0, .int 0, .int (nI v)]) (by rw [hco]) ?_
  refine x_cv C 17 (As := [.int (nI c)]) (rest := [.int 0, .int (nI v)]) rfl vX8_199 N 0 rfl rfl (c_X8_wiresOf Y _ o0 A (nI 0) (nI 0) sz bl ci ma pa en wr i1 g1 c n g qm q_inputs q_gates (ovl_at 0 N rfl) (ovl_at 2 N rfl) (ovl_at 3 N rfl) (N.ov [0, 2, 3] (by decide) rfl) (by first | assumption | omega) (by first | assumption | omega) (by first | assumption | omega)) rfl rfl (Nat.le_of_ble_eq_true rfl) ⟨Nat.le_of_ble_eq_true rfl, Nat.le_of_ble_eq_true rfl⟩ ⟨Nat.zero_le _, Nat.zero_le _⟩ [0, 2, 3] ⟨rfl, rfl, rfl, trivial⟩ (os' := [(qm, (o0, cO 8 (mo A (nI 0) (nI 0) (nI sz) bl (nI ci) (nI ma) pa en wr))), (q_circuitOf, (A 15, cI Y 6 co)), (q_inputs, (A 6, cI Y 6 i1)), (q_gates, (A 7, cI Y 6 g1)), (q_has, (A 24, cZ Y 336 fh)), (q_kind, (A 17, cI Y 6 kn))]) rfl (st' := [.int (nI (n + g)), .int 0, .int (nI v)]) rfl ?_
  refine x_run C 18 2 (pc' := 32) (lv' := [(0, .ref o0), (1, .int (nI j)), (2, .int (nI v)), (3, .int 1), (4, .int i)]) (st' := [.int ((nI (n + g)) - 1), .int 0, .int (nI v)]) rfl ?_
  refine x_st (st' := [.int (nI ((n + g) - 1)), .int 0, .int (nI v)]) (by simp only [nlit, nI_add, pk_mul, pk_sub (show 1 ≤ (n + g) by omega)]) ?_
  refine x_st (st' := [.int (nI ((n + g) - 1)), .int (nI 0), .int (nI v)]) (by simp only [nlit, nI_add, pk_mul]) ?_
  refine x_cs C 20 (As := [.int (nI v), .int (nI 0), .int (nI ((n + g) - 1))]) (rest := []) rfl vX8_135 N (c_X8_in Y _ v 0 ((n + g) - 1)    (by first | assumption | omega) (by first | assumption | omega) (by first | assumption | omega)) rfl rfl (Nat.le_of_ble_eq_true rfl) ⟨Nat.le_of_ble_eq_true rfl, Nat.le_of_ble_eq_true rfl⟩ ⟨Nat.zero_le _, Nat.zero_le _⟩ [] trivial (os' := [(qm, (o0, cO 8 (mo A (nI 0) (nI 0) (nI sz) bl (nI ci) (nI ma) pa en wr))), (q_circuitOf, (A 15, cI Y 6 co)), (q_inputs, (A 6, cI Y 6 i1)), (q_gates, (A 7, cI Y 6 g1)), (q_has, (A 24, cZ Y 336 fh)), (q_kind, (A 17, cI Y 6 kn))]) rfl (st' := [.int 1]) rfl ?_
  refine x_st (st' := [.int (nI 1)]) (by simp only [nlit, nI_add, pk_mul]) ?_
  refine x_ifN_eq C 21 (by omega) rfl (tgt := 47) rfl (fun hc2 => absurd hc2 (by omega)) (fun hc2 => ?_)
  refine x_run C 22 3 (pc' := 41) (lv' := [(0, .ref o0), (1, .int (nI j)), (2, .int (nI v)), (3, .int 1), (4, .int i)]) (st' := [.int 4, .int 0, .int 1]) rfl ?_
  refine x_st (st' := [.int (nI 4), .int (nI 0), .int (nI 1)]) (by simp only [nlit, nI_add, pk_mul]) ?_
  refine x_cs C 25 (As := [.int (nI 1), .int (nI 0), .int (nI 4)]) (rest := []) rfl vX8_135 N (c_X8_in Y _ 1 0 4    (by first | assumption | omega) (by first | assumption | omega) (by first | assumption | omega)) rfl rfl (Nat.le_of_ble_eq_true rfl) ⟨Nat.le_of_ble_eq_true rfl, Nat.le_of_ble_eq_true rfl⟩ ⟨Nat.zero_le _, Nat.zero_le _⟩ [] trivial (os' := [(qm, (o0, cO 8 (mo A (nI 0) (nI 0) (nI sz) bl (nI ci) (nI ma) pa en wr))), (q_circuitOf, (A 15, cI Y 6 co)), (q_inputs, (A 6, cI Y 6 i1)), (q_gates, (A 7, cI Y 6 g1)), (q_has, (A 24, cZ Y 336 fh)), (q_kind, (A 17, cI Y 6 kn))]) rfl (st' := [.int 1]) rfl ?_
  refine x_st (st' := [.int (nI 1)]) (by simp only [nlit, nI_add, pk_mul]) ?_
  refine x_ifN_ne C 26 (by omega) rfl (tgt := 53) rfl (fun hc3 => ?_) (fun hc3 => absurd hc3 (by omega))
  refine x_run C 31 1 (pc' := 54) (lv' := [(0, .ref o0), (1, .int (nI j)), (2, .int (nI v)), (3, .int 1), (4, .int i)]) (st' := [.ref o0]) rfl ?_
  refine x_get C 32 rfl fX8_82 N 0 rfl (v := .ref (A 24)) rfl ?_
  refine x_run C 33 5 (pc' := 63) (lv' := [(0, .ref o0), (1, .int (nI j)), (2, .int (nI v)), (3, .int 1), (4, .int i)]) (st' := [.int ((56 * (nI j)) + (nI v)), .ref (A 24)]) rfl ?_
  refine x_st (st' := [.int (nI ((56 * j) + v)), .ref (A 24)]) (by simp only [nlit, nI_add, pk_mul]) ?_
  refine x_zaldN C 38 rfl N 4 rfl (by omega) (by omega) ?_
  refine x_if_ne C 39 rfl (tgt := 74) rfl (fun hc4 => ?_) (fun hc4 => ?_)
  · refine x_run C 44 2 (pc' := 76) (lv' := [(0, .ref o0), (1, .int (nI j)), (2, .int (nI v)), (3, .int 1), (4, .int i)]) (st' := [.ref o0, .int 1]) rfl ?_
    refine x_get C 46 rfl fX8_61 N 0 rfl (v := .ref (A 17)) rfl ?_
    refine x_run C 47 1 (pc' := 80) (lv' := [(0, .ref o0), (1, .int (nI j)), (2, .int (nI v)), (3, .int 1), (4, .int i)]) (st' := [.int (nI j), .ref (A 17), .int 1]) rfl ?_
    refine x_ialdN C 48 rfl N 5 rfl (by omega) (by omega) ?_
    refine x_st (st' := [.int (nI kd), .int 1]) (by rw [hkn]) ?_
    refine x_st (st' := [.int (nI kd), .int (nI 1)]) (by simp only [nlit, nI_add, pk_mul]) ?_
    refine x_icmpN_eq C 49 (by omega) (by omega) rfl (tgt := 91) rfl (fun hc5 => ?_) (fun hc5 => ?_)
    · refine x_run C 54 1 (pc' := 92) (lv' := [(0, .ref o0), (1, .int (nI j)), (2, .int (nI v)), (3, .int 1), (4, .int i)]) (st' := [.int 1]) rfl ?_
      refine x_st (st' := [.int (nI 1)]) (by simp only [nlit, nI_add, pk_mul]) ?_
      refine x_ifN_ne C 55 (by omega) rfl (tgt := 99) rfl (fun hc6 => ?_) (fun hc6 => absurd hc6 (by omega))
      refine x_run C 58 2 (pc' := 101) (lv' := [(0, .ref o0), (1, .int (nI j)), (2, .int (nI v)), (3, .int 1), (4, .int i)]) (st' := [.int 3, .int 1]) rfl ?_
      refine x_st (st' := [.int (nI 3), .int 1]) (by simp only [nlit, nI_add, pk_mul]) ?_
      refine x_st (st' := [.int (nI 3), .int (nI 1)]) (by simp only [nlit, nI_add, pk_mul]) ?_
      refine x_icmpN_ge C 60 (by omega) (by omega) rfl (tgt := 108) rfl (fun hc7 => absurd hc7 (by omega)) (fun hc7 => ?_)
      refine x_run C 61 2 (pc' := 119) (lv' := [(0, .ref o0), (1, .int (nI j)), (2, .int (nI v)), (3, .int 1), (4, .int i)]) (st' := [.int 2]) rfl ?_
      refine x_run C 69 8 (pc' := 131) (lv' := [(5, .int 2), (0, .ref o0), (1, .int (nI j)), (2, .int (nI v)), (3, .int 1), (4, .int i)]) (st' := [.int ((16 / 2) - 1), .int 0, .int i]) rfl ?_
      refine x_cs C 77 (As := [.int i, .int 0, .int ((16 / 2) - 1)]) (rest := []) rfl vX8_135 N (c_X8_inF Y _ i 0 ((16 / 2) - 1)    (hi.imp id (fun h => Int32.lt_of_lt_of_le (by decide) h))) rfl rfl (Nat.le_of_ble_eq_true rfl) ⟨Nat.le_of_ble_eq_true rfl, Nat.le_of_ble_eq_true rfl⟩ ⟨Nat.zero_le _, Nat.zero_le _⟩ [] trivial (os' := [(qm, (o0, cO 8 (mo A (nI 0) (nI 0) (nI sz) bl (nI ci) (nI ma) pa en wr))), (q_circuitOf, (A 15, cI Y 6 co)), (q_inputs, (A 6, cI Y 6 i1)), (q_gates, (A 7, cI Y 6 g1)), (q_has, (A 24, cZ Y 336 fh)), (q_kind, (A 17, cI Y 6 kn))]) rfl (st' := [.int 0]) rfl ?_
      refine x_st (st' := [.int (nI 0)]) (by simp only [nlit, nI_add, pk_mul]) ?_
      refine x_ifN_ne C 78 (by omega) rfl (tgt := 144) rfl (fun hc8 => absurd hc8 (by omega)) (fun hc8 => ?_)
      refine x_run C 79 2 (pc' := 140) (lv' := [(5, .int 2), (0, .ref o0), (1, .int (nI j)), (2, .int (nI v)), (3, .int 1), (4, .int i)]) (st' := [.int (-12), .ref o0]) rfl ?_
      refine x_cv C 81 (As := [.int (-12)]) (rest := []) rfl vX8_250 N 0 rfl rfl (c_X8_no Y _ o0 A (nI 0) (nI 0) sz bl ci ma pa en wr (-12) qm (ovl_at 0 N rfl) (N.ov [0] (by decide) rfl) ) rfl rfl (Nat.le_of_ble_eq_true rfl) ⟨Nat.le_of_ble_eq_true rfl, Nat.le_of_ble_eq_true rfl⟩ ⟨Nat.zero_le _, Nat.zero_le _⟩ [0] ⟨rfl, trivial⟩ (os' := [(qm, (o0, cO 8 (mo A (nI 0) (-12) (nI sz) bl (nI ci) (nI ma) pa en wr))), (q_circuitOf, (A 15, cI Y 6 co)), (q_inputs, (A 6, cI Y 6 i1)), (q_gates, (A 7, cI Y 6 g1)), (q_has, (A 24, cZ Y 336 fh)), (q_kind, (A 17, cI Y 6 kn))]) rfl (st' := [.long 0]) rfl ?_
      exact x_lret C B rfl 82 rfl (Nat.zero_le _) (Nat.zero_le _) ⟨by first | contradiction | (simp only [if_neg hc4, if_pos hc5]; done) | (simp only [if_neg hc4, if_pos hc5]; simp only [nlit, nI_add, pk_mul]; done) | (simp only [if_neg hc4, if_pos hc5, nlit, nI_add, pk_mul]; done) | rfl | (simp only [if_neg hc4, if_pos hc5]; rfl) | (simp only [if_neg hc4, if_pos hc5, nlit, nI_add, pk_mul]; rfl), by first | contradiction | (simp only [if_neg hc4, if_pos hc5]; done) | (simp only [if_neg hc4, if_pos hc5]; simp only [nlit, nI_add, pk_mul]; done) | (simp only [if_neg hc4, if_pos hc5, nlit, nI_add, pk_mul]; done) | rfl | (simp only [if_neg hc4, if_pos hc5]; rfl) | (simp only [if_neg hc4, if_pos hc5, nlit, nI_add, pk_mul]; rfl)⟩
    · exact absurd (by omega) hc5
  · exact absurd hc4 hh
set_option maxHeartbeats 4000000 in
set_option maxRecDepth 100000 in
theorem c_X8_place1 (Y : xD) (w : va_W) (o0 : Nat) (A : Nat → Nat) (th : Int32) (su : Int32) (sz : Nat) (bl : Int32) (ci : Nat) (ma : Nat) (pa : Int32) (en : Int32) (wr : Int32) (co : Nat → Int32) (i1 : Nat → Int32) (g1 : Nat → Int32) (j : Nat) (c : Nat) (n : Nat) (g : Nat) (v : Nat) (kd : Nat) (i : Nat) (fh : Nat → Int32) (kn : Nat → Int32) (fn : Nat → Nat) (qm q_circuitOf q_inputs q_gates q_has q_kind q_now : Nat) (e0 : w[qm]? = some (o0, cO 8 (mo A th su (nI sz) bl (nI ci) (nI ma) pa en wr))) (e1 : w[q_circuitOf]? = some (A 15, cI Y 6 co)) (e2 : w[q_inputs]? = some (A 6, cI Y 6 i1)) (e3 : w[q_gates]? = some (A 7, cI Y 6 g1)) (e4 : w[q_has]? = some (A 24, cZ Y 336 fh)) (e5 : w[q_kind]? = some (A 17, cI Y 6 kn)) (e6 : w[q_now]? = some (A 23, cI Y 5376 (iF fn))) (N : xN w.length [qm, q_circuitOf, q_inputs, q_gates, q_has, q_kind, q_now]) (hj : j < ma) (h6 : ma ≤ 6) (hc6 : c < 6) (hn16 : n ≤ 16) (hn1 : 1 ≤ n) (hg40 : g ≤ 40) (hco : co j = nI c) (hin : i1 c = nI n) (hga : g1 c = nI g) (hv : v < n + g) (hkn : kn j = nI kd) (hkd : kd = 1) (hh : ¬ fh (56 * j + v) = 0) (hi : i < 8) : Cf Y mX8_place 2 [.ref o0, .int (nI j), .int (nI v), .int 1, .int (nI i)] w (some (.long (plV fn (16 * (56 * j + v) + 2 * i) 1))) [(qm, (o0, cO 8 (mo A (nI 0) (nI 0) (nI sz) bl (nI ci) (nI ma) pa en wr))), (q_circuitOf, (A 15, cI Y 6 co)), (q_inputs, (A 6, cI Y 6 i1)), (q_gates, (A 7, cI Y 6 g1)), (q_has, (A 24, cZ Y 336 fh)), (q_kind, (A 17, cI Y 6 kn)), (q_now, (A 23, cI Y 5376 (iF fn)))] := by
  refine Ct.intro (T := tX8_place) (by decide) oX8_place (Nat.le_of_ble_eq_true rfl) (fun G C B => ?_)
  refine x_lay [(qm, (o0, cO 8 (mo A th su (nI sz) bl (nI ci) (nI ma) pa en wr))), (q_circuitOf, (A 15, cI Y 6 co)), (q_inputs, (A 6, cI Y 6 i1)), (q_gates, (A 7, cI Y 6 g1)), (q_has, (A 24, cZ Y 336 fh)), (q_kind, (A 17, cI Y 6 kn)), (q_now, (A 23, cI Y 5376 (iF fn)))] (lay_cons e0 (lay_cons e1 (lay_cons e2 (lay_cons e3 (lay_cons e4 (lay_cons e5 (lay_cons e6 lay_nil))))))) ?_
  refine x_run C 0 2 (pc' := 2) (lv' := [(0, .ref o0), (1, .int (nI j)), (2, .int (nI v)), (3, .int 1), (4, .int (nI i))]) (st' := [.int 0, .ref o0]) rfl ?_
  refine x_put C 2 rfl pX8_117 N 0 rfl rfl rfl (Nat.le_of_ble_eq_true rfl) (os' := [(qm, (o0, cO 8 (mo A (nI 0) su (nI sz) bl (nI ci) (nI ma) pa en wr))), (q_circuitOf, (A 15, cI Y 6 co)), (q_inputs, (A 6, cI Y 6 i1)), (q_gates, (A 7, cI Y 6 g1)), (q_has, (A 24, cZ Y 336 fh)), (q_kind, (A 17, cI Y 6 kn)), (q_now, (A 23, cI Y 5376 (iF fn)))]) rfl ?_
  refine x_run C 3 2 (pc' := 7) (lv' := [(0, .ref o0), (1, .int (nI j)), (2, .int (nI v)), (3, .int 1), (4, .int (nI i))]) (st' := [.int 0, .ref o0]) rfl ?_
  refine x_put C 5 rfl pX8_247 N 0 rfl rfl rfl (Nat.le_of_ble_eq_true rfl) (os' := [(qm, (o0, cO 8 (mo A (nI 0) (nI 0) (nI sz) bl (nI ci) (nI ma) pa en wr))), (q_circuitOf, (A 15, cI Y 6 co)), (q_inputs, (A 6, cI Y 6 i1)), (q_gates, (A 7, cI Y 6 g1)), (q_has, (A 24, cZ Y 336 fh)), (q_kind, (A 17, cI Y 6 kn)), (q_now, (A 23, cI Y 5376 (iF fn)))]) rfl ?_
  refine x_run C 6 2 (pc' := 12) (lv' := [(0, .ref o0), (1, .int (nI j)), (2, .int (nI v)), (3, .int 1), (4, .int (nI i))]) (st' := [.int (nI j), .ref o0]) rfl ?_
  refine x_cv C 8 (As := [.int (nI j)]) (rest := []) rfl vX8_230 N 0 rfl rfl (c_X8_isGarbled Y _ o0 A (nI 0) (nI 0) sz bl ci ma pa en wr j qm (ovl_at 0 N rfl) (N.ov [0] (by decide) rfl) (by first | assumption | omega) (by first | assumption | omega)) rfl rfl (Nat.le_of_ble_eq_true rfl) ⟨Nat.le_of_ble_eq_true rfl, Nat.le_of_ble_eq_true rfl⟩ ⟨Nat.zero_le _, Nat.zero_le _⟩ [0] ⟨rfl, trivial⟩ (os' := [(qm, (o0, cO 8 (mo A (nI 0) (nI 0) (nI sz) bl (nI ci) (nI ma) pa en wr))), (q_circuitOf, (A 15, cI Y 6 co)), (q_inputs, (A 6, cI Y 6 i1)), (q_gates, (A 7, cI Y 6 g1)), (q_has, (A 24, cZ Y 336 fh)), (q_kind, (A 17, cI Y 6 kn)), (q_now, (A 23, cI Y 5376 (iF fn)))]) rfl (st' := [.int 1]) rfl ?_
  refine x_st (st' := [.int (nI 1)]) (by simp only [nlit, nI_add, pk_mul]) ?_
  refine x_ifN_eq C 9 (by omega) rfl (tgt := 47) rfl (fun hc1 => absurd hc1 (by omega)) (fun hc1 => ?_)
  refine x_run C 10 4 (pc' := 22) (lv' := [(0, .ref o0), (1, .int (nI j)), (2, .int (nI v)), (3, .int 1), (4, .int (nI i))]) (st' := [.ref o0, .ref o0, .int 0, .int (nI v)]) rfl ?_
  refine x_get C 14 rfl fX8_55 N 0 rfl (v := .ref (A 15)) rfl ?_
  refine x_run C 15 1 (pc' := 26) (lv' := [(0, .ref o0), (1, .int (nI j)), (2, .int (nI v)), (3, .int 1), (4, .int (nI i))]) (st' := [.int (nI j), .ref (A 15), .ref o0, .int 0, .int (nI v)]) rfl ?_
  refine x_ialdN C 16 rfl N 1 rfl (by omega) (by omega) ?_
  refine x_st (st' := [.int (nI c), .ref o0, .int 0, .int (nI v)]) (by rw [hco]) ?_
  refine x_cv C 17 (As := [.int (nI c)]) (rest := [.int 0, .int (nI v)]) rfl vX8_199 N 0 rfl rfl (c_X8_wiresOf Y _ o0 A (nI 0) (nI 0) sz bl ci ma pa en wr i1 g1 c n g qm q_inputs q_gates (ovl_at 0 N rfl) (ovl_at 2 N rfl) (ovl_at 3 N rfl) (N.ov [0, 2, 3] (by decide) rfl) (by first | assumption | omega) (by first | assumption | omega) (by first | assumption | omega)) rfl rfl (Nat.le_of_ble_eq_true rfl) ⟨Nat.le_of_ble_eq_true rfl, Nat.le_of_ble_eq_true rfl⟩ ⟨Nat.zero_le _, Nat.zero_le _⟩ [0, 2, 3] ⟨rfl, rfl, rfl, trivial⟩ (os' := [(qm, (o0, cO 8 (mo A (nI 0) (nI 0) (nI sz) bl (nI ci) (nI ma) pa en wr))), (q_circuitOf, (A 15, cI Y 6 co)), (q_inputs, (A 6, cI Y 6 i1)), (q_gates, (A 7, cI Y 6 g1)), (q_has, (A 24, cZ Y 336 fh)), (q_kind, (A 17, cI Y 6 kn)), (q_now, (A 23, cI Y 5376 (iF fn)))]) rfl (st' := [.int (nI (n + g)), .int 0, .int (nI v)]) rfl ?_
  refine x_run C 18 2 (pc' := 32) (lv' := [(0, .ref o0), (1, .int (nI j)), (2, .int (nI v)), (3, .int 1), (4, .int (nI i))]) (st' := [.int ((nI (n + g)) - 1), .int 0, .int (nI v)]) rfl ?_
  refine x_st (st' := [.int (nI ((n + g) - 1)), .int 0, .int (nI v)]) (by simp only [nlit, nI_add, pk_mul, pk_sub (show 1 ≤ (n + g) by omega)]) ?_
  refine x_st (st' := [.int (nI ((n + g) - 1)), .int (nI 0), .int (nI v)]) (by simp only [nlit, nI_add, pk_mul]) ?_
  refine x_cs C 20 (As := [.int (nI v), .int (nI 0), .int (nI ((n + g) - 1))]) (rest := []) rfl vX8_135 N (c_X8_in Y _ v 0 ((n + g) - 1)    (by first | assumption | omega) (by first | assumption | omega) (by first | assumption | omega)) rfl rfl (Nat.le_of_ble_eq_true rfl) ⟨Nat.le_of_ble_eq_true rfl, Nat.le_of_ble_eq_true rfl⟩ ⟨Nat.zero_le _, Nat.zero_le _⟩ [] trivial (os' := [(qm, (o0, cO 8 (mo A (nI 0) (nI 0) (nI sz) bl (nI ci) (nI ma) pa en wr))), (q_circuitOf, (A 15, cI Y 6 co)), (q_inputs, (A 6, cI Y 6 i1)), (q_gates, (A 7, cI Y 6 g1)), (q_has, (A 24, cZ Y 336 fh)), (q_kind, (A 17, cI Y 6 kn)), (q_now, (A 23, cI Y 5376 (iF fn)))]) rfl (st' := [.int 1]) rfl ?_
  refine x_st (st' := [.int (nI 1)]) (by simp only [nlit, nI_add, pk_mul]) ?_
  refine x_ifN_eq C 21 (by omega) rfl (tgt := 47) rfl (fun hc2 => absurd hc2 (by omega)) (fun hc2 => ?_)
  refine x_run C 22 3 (pc' := 41) (lv' := [(0, .ref o0), (1, .int (nI j)), (2, .int (nI v)), (3, .int 1), (4, .int (nI i))]) (st' := [.int 4, .int 0, .int 1]) rfl ?_
  refine x_st (st' := [.int (nI 4), .int (nI 0), .int (nI 1)]) (by simp only [nlit, nI_add, pk_mul]) ?_
  refine x_cs C 25 (As := [.int (nI 1), .int (nI 0), .int (nI 4)]) (rest := []) rfl vX8_135 N (c_X8_in Y _ 1 0 4    (by first | assumption | omega) (by first | assumption | omega) (by first | assumption | omega)) rfl rfl (Nat.le_of_ble_eq_true rfl) ⟨Nat.le_of_ble_eq_true rfl, Nat.le_of_ble_eq_true rfl⟩ ⟨Nat.zero_le _, Nat.zero_le _⟩ [] trivial (os' := [(qm, (o0, cO 8 (mo A (nI 0) (nI 0) (nI sz) bl (nI ci) (nI ma) pa en wr))), (q_circuitOf, (A 15, cI Y 6 co)), (q_inputs, (A 6, cI Y 6 i1)), (q_gates, (A 7, cI Y 6 g1)), (q_has, (A 24, cZ Y 336 fh)), (q_kind, (A 17, cI Y 6 kn)), (q_now, (A 23, cI Y 5376 (iF fn)))]) rfl (st' := [.int 1]) rfl ?_
  refine x_st (st' := [.int (nI 1)]) (by simp only [nlit, nI_add, pk_mul]) ?_
  refine x_ifN_ne C 26 (by omega) rfl (tgt := 53) rfl (fun hc3 => ?_) (fun hc3 => absurd hc3 (by omega))
  refine x_run C 31 1 (pc' := 54) (lv' := [(0, .ref o0), (1, .int (nI j)), (2, .int (nI v)), (3, .int 1), (4, .int (nI i))]) (st' := [.ref o0]) rfl ?_
  refine x_get C 32 rfl fX8_82 N 0 rfl (v := .ref (A 24)) rfl ?_
  refine x_run C 33 5 (pc' := 63) (lv' := [(0, .ref o0), (1, .int (nI j)), (2, .int (nI v)), (3, .int 1), (4, .int (nI i))]) (st' := [.int ((56 * (nI j)) + (nI v)), .ref (A 24)]) rfl ?_
  refine x_st (st' := [.int (nI ((56 * j) + v)), .ref (A 24)]) (by simp only [nlit, nI_add, pk_mul]) ?_
  refine x_zaldN C 38 rfl N 4 rfl (by omega) (by omega) ?_
  refine x_if_ne C 39 rfl (tgt := 74) rfl (fun hc4 => ?_) (fun hc4 => ?_)
  · refine x_run C 44 2 (pc' := 76) (lv' := [(0, .ref o0), (1, .int (nI j)), (2, .int (nI v)), (3, .int 1), (4, .int (nI i))]) (st' := [.ref o0, .int 1]) rfl ?_
    refine x_get C 46 rfl fX8_61 N 0 rfl (v := .ref (A 17)) rfl ?_
    refine x_run C 47 1 (pc' := 80) (lv' := [(0, .ref o0), (1, .int (nI j)), (2, .int (nI v)), (3, .int 1), (4, .int (nI i))]) (st' := [.int (nI j), .ref (A 17), .int 1]) rfl ?_
    refine x_ialdN C 48 rfl N 5 rfl (by omega) (by omega) ?_
    refine x_st (st' := [.int (nI kd), .int 1]) (by rw [hkn]) ?_
    refine x_st (st' := [.int (nI kd), .int (nI 1)]) (by simp only [nlit, nI_add, pk_mul]) ?_
    refine x_icmpN_eq C 49 (by omega) (by omega) rfl (tgt := 91) rfl (fun hc5 => ?_) (fun hc5 => ?_)
    · refine x_run C 54 1 (pc' := 92) (lv' := [(0, .ref o0), (1, .int (nI j)), (2, .int (nI v)), (3, .int 1), (4, .int (nI i))]) (st' := [.int 1]) rfl ?_
      refine x_st (st' := [.int (nI 1)]) (by simp only [nlit, nI_add, pk_mul]) ?_
      refine x_ifN_ne C 55 (by omega) rfl (tgt := 99) rfl (fun hc6 => ?_) (fun hc6 => absurd hc6 (by omega))
      refine x_run C 58 2 (pc' := 101) (lv' := [(0, .ref o0), (1, .int (nI j)), (2, .int (nI v)), (3, .int 1), (4, .int (nI i))]) (st' := [.int 3, .int 1]) rfl ?_
      refine x_st (st' := [.int (nI 3), .int 1]) (by simp only [nlit, nI_add, pk_mul]) ?_
      refine x_st (st' := [.int (nI 3), .int (nI 1)]) (by simp only [nlit, nI_add, pk_mul]) ?_
      refine x_icmpN_ge C 60 (by omega) (by omega) rfl (tgt := 108) rfl (fun hc7 => absurd hc7 (by omega)) (fun hc7 => ?_)
      refine x_run C 61 2 (pc' := 119) (lv' := [(0, .ref o0), (1, .int (nI j)), (2, .int (nI v)), (3, .int 1), (4, .int (nI i))]) (st' := [.int 2]) rfl ?_
      refine x_run C 69 8 (pc' := 131) (lv' := [(5, .int 2), (0, .ref o0), (1, .int (nI j)), (2, .int (nI v)), (3, .int 1), (4, .int (nI i))]) (st' := [.int ((16 / 2) - 1), .int 0, .int (nI i)]) rfl ?_
      refine x_st (st' := [.int (nI 7), .int (nI 0), .int (nI i)]) (by simp only [nlit, nI_add, pk_mul, pk_div (show 16 < 2 ^ 31 by omega) (show 0 < 2 by decide) (show 2 < 2 ^ 31 by decide), pk_sub (show 1 ≤ 8 by omega)]) ?_
      refine x_cs C 77 (As := [.int (nI i), .int (nI 0), .int (nI 7)]) (rest := []) rfl vX8_135 N (c_X8_in Y _ i 0 7    (by first | assumption | omega) (by first | assumption | omega) (by first | assumption | omega)) rfl rfl (Nat.le_of_ble_eq_true rfl) ⟨Nat.le_of_ble_eq_true rfl, Nat.le_of_ble_eq_true rfl⟩ ⟨Nat.zero_le _, Nat.zero_le _⟩ [] trivial (os' := [(qm, (o0, cO 8 (mo A (nI 0) (nI 0) (nI sz) bl (nI ci) (nI ma) pa en wr))), (q_circuitOf, (A 15, cI Y 6 co)), (q_inputs, (A 6, cI Y 6 i1)), (q_gates, (A 7, cI Y 6 g1)), (q_has, (A 24, cZ Y 336 fh)), (q_kind, (A 17, cI Y 6 kn)), (q_now, (A 23, cI Y 5376 (iF fn)))]) rfl (st' := [.int 1]) rfl ?_
      refine x_st (st' := [.int (nI 1)]) (by simp only [nlit, nI_add, pk_mul]) ?_
      refine x_ifN_ne C 78 (by omega) rfl (tgt := 144) rfl (fun hc8 => ?_) (fun hc8 => absurd hc8 (by omega))
      refine x_run C 83 4 (pc' := 150) (lv' := [(8, .int 0), (6, .long 0), (5, .int 2), (0, .ref o0), (1, .int (nI j)), (2, .int (nI v)), (3, .int 1), (4, .int (nI i))]) (st' := []) rfl ?_
      have L150 : ∀ q : Nat, 0 ≤ q → q ≤ 2 → X G Y 0 0 150 [(0, .ref o0), (1, .int (nI j)), (2, .int (nI v)), (3, .int 1), (4, .int (nI i)), (5, .int 2), (6, .long (w8 fn (16 * (56 * j + v) + 2 * i) q)), (8, .int (nI q))] [] (ovl w [(qm, (o0, cO 8 (mo A (nI 0) (nI 0) (nI sz) bl (nI ci) (nI ma) pa en wr))), (q_circuitOf, (A 15, cI Y 6 co)), (q_inputs, (A 6, cI Y 6 i1)), (q_gates, (A 7, cI Y 6 g1)), (q_has, (A 24, cZ Y 336 fh)), (q_kind, (A 17, cI Y 6 kn)), (q_now, (A 23, cI Y 5376 (iF fn)))]) := by
        intro q lo150 hi150
        revert lo150
        refine x_up (fun q => 0 ≤ q → X G Y 0 0 150 [(0, .ref o0), (1, .int (nI j)), (2, .int (nI v)), (3, .int 1), (4, .int (nI i)), (5, .int 2), (6, .long (w8 fn (16 * (56 * j + v) + 2 * i) q)), (8, .int (nI q))] [] (ovl w [(qm, (o0, cO 8 (mo A (nI 0) (nI 0) (nI sz) bl (nI ci) (nI ma) pa en wr))), (q_circuitOf, (A 15, cI Y 6 co)), (q_inputs, (A 6, cI Y 6 i1)), (q_gates, (A 7, cI Y 6 g1)), (q_has, (A 24, cZ Y 336 fh)), (q_kind, (A 17, cI Y 6 kn)), (q_now, (A 23, cI Y 5376 (iF fn)))])) 2 ?_ ?_ q hi150
        · intro lo150
          refine x_run C 87 2 (pc' := 154) (lv' := [(0, .ref o0), (1, .int (nI j)), (2, .int (nI v)), (3, .int 1), (4, .int (nI i)), (5, .int 2), (6, .long (w8 fn (16 * (56 * j + v) + 2 * i) 2)), (8, .int (nI 2))]) (st' := [.int 2, .int (nI 2)]) rfl ?_
          refine x_st (st' := [.int (nI 2), .int (nI 2)]) (by simp only [nlit, nI_add, pk_mul]) ?_
          refine x_icmpN_ge C 89 (by omega) (by omega) rfl (tgt := 191) rfl (fun hc9 => ?_) (fun hc9 => ?_)
          · refine x_run C 110 1 (pc' := 192) (lv' := [(0, .ref o0), (1, .int (nI j)), (2, .int (nI v)), (3, .int 1), (4, .int (nI i)), (5, .int 2), (6, .long (w8 fn (16 * (56 * j + v) + 2 * i) 2)), (8, .int (nI 2))]) (st' := [.int 1]) rfl ?_
            refine x_st (st' := [.int (nI 1)]) (by simp only [nlit, nI_add, pk_mul]) ?_
            refine x_ifN_ne C 111 (by omega) rfl (tgt := 203) rfl (fun hc10 => ?_) (fun hc10 => absurd hc10 (by omega))
            refine x_run C 117 2 (pc' := 205) (lv' := [(0, .ref o0), (1, .int (nI j)), (2, .int (nI v)), (3, .int 1), (4, .int (nI i)), (5, .int 2), (6, .long (w8 fn (16 * (56 * j + v) + 2 * i) 2)), (8, .int (nI 2))]) (st' := [.int 1, .int 1]) rfl ?_
            refine x_st (st' := [.int (nI 1), .int 1]) (by simp only [nlit, nI_add, pk_mul]) ?_
            refine x_st (st' := [.int (nI 1), .int (nI 1)]) (by simp only [nlit, nI_add, pk_mul]) ?_
            refine x_icmpN_ne C 119 (by omega) (by omega) rfl (tgt := 216) rfl (fun hc11 => absurd hc11 (by omega)) (fun hc11 => ?_)
            refine x_run C 120 5 (pc' := 230) (lv' := [(0, .ref o0), (1, .int (nI j)), (2, .int (nI v)), (3, .int 1), (4, .int (nI i)), (5, .int 2), (6, .long (w8 fn (16 * (56 * j + v) + 2 * i) 2)), (8, .int (nI 2))]) (st' := [.long ((((w8 fn (16 * (56 * j + v) + 2 * i) 2).toInt32).toInt16.toInt32).toInt64)]) rfl ?_
            exact x_lret C B rfl 133 rfl (Nat.zero_le _) (Nat.zero_le _) ⟨by rfl, rfl⟩
          · exact absurd hc9 (by omega)
        · intro q hi150 ih150 lo150
          refine x_run C 87 2 (pc' := 154) (lv' := [(0, .ref o0), (1, .int (nI j)), (2, .int (nI v)), (3, .int 1), (4, .int (nI i)), (5, .int 2), (6, .long (w8 fn (16 * (56 * j + v) + 2 * i) q)), (8, .int (nI q))]) (st' := [.int 2, .int (nI q)]) rfl ?_
          refine x_st (st' := [.int (nI 2), .int (nI q)]) (by simp only [nlit, nI_add, pk_mul]) ?_
          refine x_icmpN_ge C 89 (by omega) (by omega) rfl (tgt := 191) rfl (fun hc12 => ?_) (fun hc12 => ?_)
          · exact absurd hc12 (by omega)
          · refine x_run C 90 4 (pc' := 163) (lv' := [(0, .ref o0), (1, .int (nI j)), (2, .int (nI v)), (3, .int 1), (4, .int (nI i)), (5, .int 2), (6, .long (w8 fn (16 * (56 * j + v) + 2 * i) q)), (8, .int (nI q))]) (st' := [.ref o0, .long (jlshl (w8 fn (16 * (56 * j + v) + 2 * i) q) 8)]) rfl ?_
            refine x_get C 94 rfl fX8_79 N 0 rfl (v := .ref (A 23)) rfl ?_
            refine x_run C 95 2 (pc' := 168) (lv' := [(0, .ref o0), (1, .int (nI j)), (2, .int (nI v)), (3, .int 1), (4, .int (nI i)), (5, .int 2), (6, .long (w8 fn (16 * (56 * j + v) + 2 * i) q)), (8, .int (nI q))]) (st' := [.int (nI v), .int (nI j), .ref (A 23), .long (jlshl (w8 fn (16 * (56 * j + v) + 2 * i) q) 8)]) rfl ?_
            refine x_cs C 97 (As := [.int (nI j), .int (nI v)]) (rest := [.ref (A 23), .long (jlshl (w8 fn (16 * (56 * j + v) + 2 * i) q) 8)]) rfl vX8_210 N (c_X8_placeOf Y _ j v    ) rfl rfl (Nat.le_of_ble_eq_true rfl) ⟨Nat.le_of_ble_eq_true rfl, Nat.le_of_ble_eq_true rfl⟩ ⟨Nat.zero_le _, Nat.zero_le _⟩ [] trivial (os' := [(qm, (o0, cO 8 (mo A (nI 0) (nI 0) (nI sz) bl (nI ci) (nI ma) pa en wr))), (q_circuitOf, (A 15, cI Y 6 co)), (q_inputs, (A 6, cI Y 6 i1)), (q_gates, (A 7, cI Y 6 g1)), (q_has, (A 24, cZ Y 336 fh)), (q_kind, (A 17, cI Y 6 kn)), (q_now, (A 23, cI Y 5376 (iF fn)))]) rfl (st' := [.int (nI (16 * (56 * j + v))), .ref (A 23), .long (jlshl (w8 fn (16 * (56 * j + v) + 2 * i) q) 8)]) rfl ?_
            refine x_run C 98 6 (pc' := 180) (lv' := [(0, .ref o0), (1, .int (nI j)), (2, .int (nI v)), (3, .int 1), (4, .int (nI i)), (5, .int 2), (6, .long (w8 fn (16 * (56 * j + v) + 2 * i) q)), (8, .int (nI q))]) (st' := [.int (((nI (16 * (56 * j + v))) + (2 * (nI i))) + (nI q)), .ref (A 23), .long (jlshl (w8 fn (16 * (56 * j + v) + 2 * i) q) 8)]) rfl ?_
            refine x_st (st' := [.int (nI (((16 * (56 * j + v)) + (2 * i)) + q)), .ref (A 23), .long (jlshl (w8 fn (16 * (56 * j + v) + 2 * i) q) 8)]) (by simp only [nlit, nI_add, pk_mul]) ?_
            refine x_ialdN C 104 rfl N 6 rfl (by omega) (by omega) ?_
            refine x_st (st' := [.int (nI (fn (((16 * (56 * j + v)) + (2 * i)) + q))), .long (jlshl (w8 fn (16 * (56 * j + v) + 2 * i) q) 8)]) rfl ?_
            refine x_run C 105 5 (pc' := 150) (lv' := [(8, .int ((nI q) + 1)), (6, .long ((jlshl (w8 fn (16 * (56 * j + v) + 2 * i) q) 8) ||| ((nI (fn (((16 * (56 * j + v)) + (2 * i)) + q))).toInt64))), (0, .ref o0), (1, .int (nI j)), (2, .int (nI v)), (3, .int 1), (4, .int (nI i)), (5, .int 2)]) (st' := []) rfl ?_
            refine x_sub (lv' := [(0, .ref o0), (1, .int (nI j)), (2, .int (nI v)), (3, .int 1), (4, .int (nI i)), (5, .int 2), (6, .long ((jlshl (w8 fn (16 * (56 * j + v) + 2 * i) q) 8) ||| ((nI (fn (((16 * (56 * j + v)) + (2 * i)) + q))).toInt64))), (8, .int ((nI q) + 1))]) [2, 3, 4, 5, 6, 7, 1, 0] rfl ?_
            refine x_loc (lv' := [(0, .ref o0), (1, .int (nI j)), (2, .int (nI v)), (3, .int 1), (4, .int (nI i)), (5, .int 2), (6, .long (w8 fn (16 * (56 * j + v) + 2 * i) (q + 1))), (8, .int (nI (q + 1)))]) (by simp only [w8, nlit, nI_add]) ?_
            exact ih150 (by omega)
      refine x_sub (lv' := [(0, .ref o0), (1, .int (nI j)), (2, .int (nI v)), (3, .int 1), (4, .int (nI i)), (5, .int 2), (6, .long 0), (8, .int 0)]) [3, 4, 5, 6, 7, 2, 1, 0] rfl ?_
      refine x_loc (lv' := [(0, .ref o0), (1, .int (nI j)), (2, .int (nI v)), (3, .int 1), (4, .int (nI i)), (5, .int 2), (6, .long (w8 fn (16 * (56 * j + v) + 2 * i) 0)), (8, .int (nI 0))]) (by rfl) ?_
      exact L150 0 (Nat.le_refl _) (by omega)
    · exact absurd (by omega) hc5
  · exact absurd hc4 hh
set_option maxHeartbeats 4000000 in
set_option maxRecDepth 100000 in
theorem c_X8_placeX2 (Y : xD) (w : va_W) (o0 : Nat) (A : Nat → Nat) (th : Int32) (su : Int32) (sz : Nat) (bl : Int32) (ci : Nat) (ma : Nat) (pa : Int32) (en : Int32) (wr : Int32) (co : Nat → Int32) (i1 : Nat → Int32) (g1 : Nat → Int32) (j : Nat) (c : Nat) (n : Nat) (g : Nat) (v : Nat) (kd : Nat) (i : Int32) (fh : Nat → Int32) (kn : Nat → Int32) (qm q_circuitOf q_inputs q_gates q_has q_kind : Nat) (e0 : w[qm]? = some (o0, cO 8 (mo A th su (nI sz) bl (nI ci) (nI ma) pa en wr))) (e1 : w[q_circuitOf]? = some (A 15, cI Y 6 co)) (e2 : w[q_inputs]? = some (A 6, cI Y 6 i1)) (e3 : w[q_gates]? = some (A 7, cI Y 6 g1)) (e4 : w[q_has]? = some (A 24, cZ Y 336 fh)) (e5 : w[q_kind]? = some (A 17, cI Y 6 kn)) (N : xN w.length [qm, q_circuitOf, q_inputs, q_gates, q_has, q_kind]) (hj : j < ma) (h6 : ma ≤ 6) (hc6 : c < 6) (hn16 : n ≤ 16) (hn1 : 1 ≤ n) (hg40 : g ≤ 40) (hco : co j = nI c) (hin : i1 c = nI n) (hga : g1 c = nI g) (hv : v < n + g) (hkn : kn j = nI kd) (hkd : kd = 2) (hh : ¬ fh (56 * j + v) = 0) (hi : i < 0 ∨ 8 ≤ i) : Cf Y mX8_place 2 [.ref o0, .int (nI j), .int (nI v), .int 2, .int i] w (some (.long 0)) [(qm, (o0, cO 8 (mo A (nI 0) (-12) (nI sz) bl (nI ci) (nI ma) pa en wr))), (q_circuitOf, (A 15, cI Y 6 co)), (q_inputs, (A 6, cI Y 6 i1)), (q_gates, (A 7, cI Y 6 g1)), (q_has, (A 24, cZ Y 336 fh)), (q_kind, (A 17, cI Y 6 kn))] := by
  refine Ct.intro (T := tX8_place) (by decide) oX8_place (Nat.le_of_ble_eq_true rfl) (fun G C B => ?_)
  refine x_lay [(qm, (o0, cO 8 (mo A th su (nI sz) bl (nI ci) (nI ma) pa en wr))), (q_circuitOf, (A 15, cI Y 6 co)), (q_inputs, (A 6, cI Y 6 i1)), (q_gates, (A 7, cI Y 6 g1)), (q_has, (A 24, cZ Y 336 fh)), (q_kind, (A 17, cI Y 6 kn))] (lay_cons e0 (lay_cons e1 (lay_cons e2 (lay_cons e3 (lay_cons e4 (lay_cons e5 lay_nil)))))) ?_
  refine x_run C 0 2 (pc' := 2) (lv' := [(0, .ref o0), (1, .int (nI j)), (2, .int (nI v)), (3, .int 2), (4, .int i)]) (st' := [.int 0, .ref o0]) rfl ?_
  refine x_put C 2 rfl pX8_117 N 0 rfl rfl rfl (Nat.le_of_ble_eq_true rfl) (os' := [(qm, (o0, cO 8 (mo A (nI 0) su (nI sz) bl (nI ci) (nI ma) pa en wr))), (q_circuitOf, (A 15, cI Y 6 co)), (q_inputs, (A 6, cI Y 6 i1)), (q_gates, (A 7, cI Y 6 g1)), (q_has, (A 24, cZ Y 336 fh)), (q_kind, (A 17, cI Y 6 kn))]) rfl ?_
  refine x_run C 3 2 (pc' := 7) (lv' := [(0, .ref o0), (1, .int (nI j)), (2, .int (nI v)), (3, .int 2), (4, .int i)]) (st' := [.int 0, .ref o0]) rfl ?_
  refine x_put C 5 rfl pX8_247 N 0 rfl rfl rfl (Nat.le_of_ble_eq_true rfl) (os' := [(qm, (o0, cO 8 (mo A (nI 0) (nI 0) (nI sz) bl (nI ci) (nI ma) pa en wr))), (q_circuitOf, (A 15, cI Y 6 co)), (q_inputs, (A 6, cI Y 6 i1)), (q_gates, (A 7, cI Y 6 g1)), (q_has, (A 24, cZ Y 336 fh)), (q_kind, (A 17, cI Y 6 kn))]) rfl ?_
  refine x_run C 6 2 (pc' := 12) (lv' := [(0, .ref o0), (1, .int (nI j)), (2, .int (nI v)), (3, .int 2), (4, .int i)]) (st' := [.int (nI j), .ref o0]) rfl ?_
  refine x_cv C 8 (As := [.int (nI j)]) (rest := []) rfl vX8_230 N 0 rfl rfl (c_X8_isGarbled Y _ o0 A (nI 0) (nI 0) sz bl ci ma pa en wr j qm (ovl_at 0 N rfl) (N.ov [0] (by decide) rfl) (by first | assumption | omega) (by first | assumption | omega)) rfl rfl (Nat.le_of_ble_eq_true rfl) ⟨Nat.le_of_ble_eq_true rfl, Nat.le_of_ble_eq_true rfl⟩ ⟨Nat.zero_le _, Nat.zero_le _⟩ [0] ⟨rfl, trivial⟩ (os' := [(qm, (o0, cO 8 (mo A (nI 0) (nI 0) (nI sz) bl (nI ci) (nI ma) pa en wr))), (q_circuitOf, (A 15, cI Y 6 co)), (q_inputs, (A 6, cI Y 6 i1)), (q_gates, (A 7, cI Y 6 g1)), (q_has, (A 24, cZ Y 336 fh)), (q_kind, (A 17, cI Y 6 kn))]) rfl (st' := [.int 1]) rfl ?_
  refine x_st (st' := [.int (nI 1)]) (by simp only [nlit, nI_add, pk_mul]) ?_
  refine x_ifN_eq C 9 (by omega) rfl (tgt := 47) rfl (fun hc1 => absurd hc1 (by omega)) (fun hc1 => ?_)
  refine x_run C 10 4 (pc' := 22) (lv' := [(0, .ref o0), (1, .int (nI j)), (2, .int (nI v)), (3, .int 2), (4, .int i)]) (st' := [.ref o0, .ref o0, .int 0, .int (nI v)]) rfl ?_
  refine x_get C 14 rfl fX8_55 N 0 rfl (v := .ref (A 15)) rfl ?_
  refine x_run C 15 1 (pc' := 26) (lv' := [(0, .ref o0), (1, .int (nI j)), (2, .int (nI v)), (3, .int 2), (4, .int i)]) (st' := [.int (nI j), .ref (A 15), .ref o0, .int 0, .int (nI v)]) rfl ?_
  refine x_ialdN C 16 rfl N 1 rfl (by omega) (by omega) ?_
  refine x_st (st' := [.int (nI c), .ref o0, .int 0, .int (nI v)]) (by rw [hco]) ?_
  refine x_cv C 17 (As := [.int (nI c)]) (rest := [.int 0, .int (nI v)]) rfl vX8_199 N 0 rfl rfl (c_X8_wiresOf Y _ o0 A (nI 0) (nI 0) sz bl ci ma pa en wr i1 g1 c n g qm q_inputs q_gates (ovl_at 0 N rfl) (ovl_at 2 N rfl) (ovl_at 3 N rfl) (N.ov [0, 2, 3] (by decide) rfl) (by first | assumption | omega) (by first | assumption | omega) (by first | assumption | omega)) rfl rfl (Nat.le_of_ble_eq_true rfl) ⟨Nat.le_of_ble_eq_true rfl, Nat.le_of_ble_eq_true rfl⟩ ⟨Nat.zero_le _, Nat.zero_le _⟩ [0, 2, 3] ⟨rfl, rfl, rfl, trivial⟩ (os' := [(qm, (o0, cO 8 (mo A (nI 0) (nI 0) (nI sz) bl (nI ci) (nI ma) pa en wr))), (q_circuitOf, (A 15, cI Y 6 co)), (q_inputs, (A 6, cI Y 6 i1)), (q_gates, (A 7, cI Y 6 g1)), (q_has, (A 24, cZ Y 336 fh)), (q_kind, (A 17, cI Y 6 kn))]) rfl (st' := [.int (nI (n + g)), .int 0, .int (nI v)]) rfl ?_
  refine x_run C 18 2 (pc' := 32) (lv' := [(0, .ref o0), (1, .int (nI j)), (2, .int (nI v)), (3, .int 2), (4, .int i)]) (st' := [.int ((nI (n + g)) - 1), .int 0, .int (nI v)]) rfl ?_
  refine x_st (st' := [.int (nI ((n + g) - 1)), .int 0, .int (nI v)]) (by simp only [nlit, nI_add, pk_mul, pk_sub (show 1 ≤ (n + g) by omega)]) ?_
  refine x_st (st' := [.int (nI ((n + g) - 1)), .int (nI 0), .int (nI v)]) (by simp only [nlit, nI_add, pk_mul]) ?_
  refine x_cs C 20 (As := [.int (nI v), .int (nI 0), .int (nI ((n + g) - 1))]) (rest := []) rfl vX8_135 N (c_X8_in Y _ v 0 ((n + g) - 1)    (by first | assumption | omega) (by first | assumption | omega) (by first | assumption | omega)) rfl rfl (Nat.le_of_ble_eq_true rfl) ⟨Nat.le_of_ble_eq_true rfl, Nat.le_of_ble_eq_true rfl⟩ ⟨Nat.zero_le _, Nat.zero_le _⟩ [] trivial (os' := [(qm, (o0, cO 8 (mo A (nI 0) (nI 0) (nI sz) bl (nI ci) (nI ma) pa en wr))), (q_circuitOf, (A 15, cI Y 6 co)), (q_inputs, (A 6, cI Y 6 i1)), (q_gates, (A 7, cI Y 6 g1)), (q_has, (A 24, cZ Y 336 fh)), (q_kind, (A 17, cI Y 6 kn))]) rfl (st' := [.int 1]) rfl ?_
  refine x_st (st' := [.int (nI 1)]) (by simp only [nlit, nI_add, pk_mul]) ?_
  refine x_ifN_eq C 21 (by omega) rfl (tgt := 47) rfl (fun hc2 => absurd hc2 (by omega)) (fun hc2 => ?_)
  refine x_run C 22 3 (pc' := 41) (lv' := [(0, .ref o0), (1, .int (nI j)), (2, .int (nI v)), (3, .int 2), (4, .int i)]) (st' := [.int 4, .int 0, .int 2]) rfl ?_
  refine x_st (st' := [.int (nI 4), .int (nI 0), .int (nI 2)]) (by simp only [nlit, nI_add, pk_mul]) ?_
  refine x_cs C 25 (As := [.int (nI 2), .int (nI 0), .int (nI 4)]) (rest := []) rfl vX8_135 N (c_X8_in Y _ 2 0 4    (by first | assumption | omega) (by first | assumption | omega) (by first | assumption | omega)) rfl rfl (Nat.le_of_ble_eq_true rfl) ⟨Nat.le_of_ble_eq_true rfl, Nat.le_of_ble_eq_true rfl⟩ ⟨Nat.zero_le _, Nat.zero_le _⟩ [] trivial (os' := [(qm, (o0, cO 8 (mo A (nI 0) (nI 0) (nI sz) bl (nI ci) (nI ma) pa en wr))), (q_circuitOf, (A 15, cI Y 6 co)), (q_inputs, (A 6, cI Y 6 i1)), (q_gates, (A 7, cI Y 6 g1)), (q_has, (A 24, cZ Y 336 fh)), (q_kind, (A 17, cI Y 6 kn))]) rfl (st' := [.int 1]) rfl ?_
  refine x_st (st' := [.int (nI 1)]) (by simp only [nlit, nI_add, pk_mul]) ?_
  refine x_ifN_ne C 26 (by omega) rfl (tgt := 53) rfl (fun hc3 => ?_) (fun hc3 => absurd hc3 (by omega))
  refine x_run C 31 1 (pc' := 54) (lv' := [(0, .ref o0), (1, .int (nI j)), (2, .int (nI v)), (3, .int 2), (4, .int i)]) (st' := [.ref o0]) rfl ?_
  refine x_get C 32 rfl fX8_82 N 0 rfl (v := .ref (A 24)) rfl ?_
  refine x_run C 33 5 (pc' := 63) (lv' := [(0, .ref o0), (1, .int (nI j)), (2, .int (nI v)), (3, .int 2), (4, .int i)]) (st' := [.int ((56 * (nI j)) + (nI v)), .ref (A 24)]) rfl ?_
  refine x_st (st' := [.int (nI ((56 * j) + v)), .ref (A 24)]) (by simp only [nlit, nI_add, pk_mul]) ?_
  refine x_zaldN C 38 rfl N 4 rfl (by omega) (by omega) ?_
  refine x_if_ne C 39 rfl (tgt := 74) rfl (fun hc4 => ?_) (fun hc4 => ?_)
  · refine x_run C 44 2 (pc' := 76) (lv' := [(0, .ref o0), (1, .int (nI j)), (2, .int (nI v)), (3, .int 2), (4, .int i)]) (st' := [.ref o0, .int 2]) rfl ?_
    refine x_get C 46 rfl fX8_61 N 0 rfl (v := .ref (A 17)) rfl ?_
    refine x_run C 47 1 (pc' := 80) (lv' := [(0, .ref o0), (1, .int (nI j)), (2, .int (nI v)), (3, .int 2), (4, .int i)]) (st' := [.int (nI j), .ref (A 17), .int 2]) rfl ?_
    refine x_ialdN C 48 rfl N 5 rfl (by omega) (by omega) ?_
    refine x_st (st' := [.int (nI kd), .int 2]) (by rw [hkn]) ?_
    refine x_st (st' := [.int (nI kd), .int (nI 2)]) (by simp only [nlit, nI_add, pk_mul]) ?_
    refine x_icmpN_eq C 49 (by omega) (by omega) rfl (tgt := 91) rfl (fun hc5 => ?_) (fun hc5 => ?_)
    · refine x_run C 54 1 (pc' := 92) (lv' := [(0, .ref o0), (1, .int (nI j)), (2, .int (nI v)), (3, .int 2), (4, .int i)]) (st' := [.int 2]) rfl ?_
      refine x_st (st' := [.int (nI 2)]) (by simp only [nlit, nI_add, pk_mul]) ?_
      refine x_ifN_ne C 55 (by omega) rfl (tgt := 99) rfl (fun hc6 => ?_) (fun hc6 => absurd hc6 (by omega))
      refine x_run C 58 2 (pc' := 101) (lv' := [(0, .ref o0), (1, .int (nI j)), (2, .int (nI v)), (3, .int 2), (4, .int i)]) (st' := [.int 3, .int 2]) rfl ?_
      refine x_st (st' := [.int (nI 3), .int 2]) (by simp only [nlit, nI_add, pk_mul]) ?_
      refine x_st (st' := [.int (nI 3), .int (nI 2)]) (by simp only [nlit, nI_add, pk_mul]) ?_
      refine x_icmpN_ge C 60 (by omega) (by omega) rfl (tgt := 108) rfl (fun hc7 => absurd hc7 (by omega)) (fun hc7 => ?_)
      refine x_run C 61 2 (pc' := 119) (lv' := [(0, .ref o0), (1, .int (nI j)), (2, .int (nI v)), (3, .int 2), (4, .int i)]) (st' := [.int 2]) rfl ?_
      refine x_run C 69 8 (pc' := 131) (lv' := [(5, .int 2), (0, .ref o0), (1, .int (nI j)), (2, .int (nI v)), (3, .int 2), (4, .int i)]) (st' := [.int ((16 / 2) - 1), .int 0, .int i]) rfl ?_
      refine x_cs C 77 (As := [.int i, .int 0, .int ((16 / 2) - 1)]) (rest := []) rfl vX8_135 N (c_X8_inF Y _ i 0 ((16 / 2) - 1)    (hi.imp id (fun h => Int32.lt_of_lt_of_le (by decide) h))) rfl rfl (Nat.le_of_ble_eq_true rfl) ⟨Nat.le_of_ble_eq_true rfl, Nat.le_of_ble_eq_true rfl⟩ ⟨Nat.zero_le _, Nat.zero_le _⟩ [] trivial (os' := [(qm, (o0, cO 8 (mo A (nI 0) (nI 0) (nI sz) bl (nI ci) (nI ma) pa en wr))), (q_circuitOf, (A 15, cI Y 6 co)), (q_inputs, (A 6, cI Y 6 i1)), (q_gates, (A 7, cI Y 6 g1)), (q_has, (A 24, cZ Y 336 fh)), (q_kind, (A 17, cI Y 6 kn))]) rfl (st' := [.int 0]) rfl ?_
      refine x_st (st' := [.int (nI 0)]) (by simp only [nlit, nI_add, pk_mul]) ?_
      refine x_ifN_ne C 78 (by omega) rfl (tgt := 144) rfl (fun hc8 => absurd hc8 (by omega)) (fun hc8 => ?_)
      refine x_run C 79 2 (pc' := 140) (lv' := [(5, .int 2), (0, .ref o0), (1, .int (nI j)), (2, .int (nI v)), (3, .int 2), (4, .int i)]) (st' := [.int (-12), .ref o0]) rfl ?_
      refine x_cv C 81 (As := [.int (-12)]) (rest := []) rfl vX8_250 N 0 rfl rfl (c_X8_no Y _ o0 A (nI 0) (nI 0) sz bl ci ma pa en wr (-12) qm (ovl_at 0 N rfl) (N.ov [0] (by decide) rfl) ) rfl rfl (Nat.le_of_ble_eq_true rfl) ⟨Nat.le_of_ble_eq_true rfl, Nat.le_of_ble_eq_true rfl⟩ ⟨Nat.zero_le _, Nat.zero_le _⟩ [0] ⟨rfl, trivial⟩ (os' := [(qm, (o0, cO 8 (mo A (nI 0) (-12) (nI sz) bl (nI ci) (nI ma) pa en wr))), (q_circuitOf, (A 15, cI Y 6 co)), (q_inputs, (A 6, cI Y 6 i1)), (q_gates, (A 7, cI Y 6 g1)), (q_has, (A 24, cZ Y 336 fh)), (q_kind, (A 17, cI Y 6 kn))]) rfl (st' := [.long 0]) rfl ?_
      exact x_lret C B rfl 82 rfl (Nat.zero_le _) (Nat.zero_le _) ⟨by first | contradiction | (simp only [if_neg hc4, if_pos hc5]; done) | (simp only [if_neg hc4, if_pos hc5]; simp only [nlit, nI_add, pk_mul]; done) | (simp only [if_neg hc4, if_pos hc5, nlit, nI_add, pk_mul]; done) | rfl | (simp only [if_neg hc4, if_pos hc5]; rfl) | (simp only [if_neg hc4, if_pos hc5, nlit, nI_add, pk_mul]; rfl), by first | contradiction | (simp only [if_neg hc4, if_pos hc5]; done) | (simp only [if_neg hc4, if_pos hc5]; simp only [nlit, nI_add, pk_mul]; done) | (simp only [if_neg hc4, if_pos hc5, nlit, nI_add, pk_mul]; done) | rfl | (simp only [if_neg hc4, if_pos hc5]; rfl) | (simp only [if_neg hc4, if_pos hc5, nlit, nI_add, pk_mul]; rfl)⟩
    · exact absurd (by omega) hc5
  · exact absurd hc4 hh
set_option maxHeartbeats 4000000 in
set_option maxRecDepth 100000 in
theorem c_X8_place2 (Y : xD) (w : va_W) (o0 : Nat) (A : Nat → Nat) (th : Int32) (su : Int32) (sz : Nat) (bl : Int32) (ci : Nat) (ma : Nat) (pa : Int32) (en : Int32) (wr : Int32) (co : Nat → Int32) (i1 : Nat → Int32) (g1 : Nat → Int32) (j : Nat) (c : Nat) (n : Nat) (g : Nat) (v : Nat) (kd : Nat) (i : Nat) (fh : Nat → Int32) (kn : Nat → Int32) (fn : Nat → Nat) (qm q_circuitOf q_inputs q_gates q_has q_kind q_now : Nat) (e0 : w[qm]? = some (o0, cO 8 (mo A th su (nI sz) bl (nI ci) (nI ma) pa en wr))) (e1 : w[q_circuitOf]? = some (A 15, cI Y 6 co)) (e2 : w[q_inputs]? = some (A 6, cI Y 6 i1)) (e3 : w[q_gates]? = some (A 7, cI Y 6 g1)) (e4 : w[q_has]? = some (A 24, cZ Y 336 fh)) (e5 : w[q_kind]? = some (A 17, cI Y 6 kn)) (e6 : w[q_now]? = some (A 23, cI Y 5376 (iF fn))) (N : xN w.length [qm, q_circuitOf, q_inputs, q_gates, q_has, q_kind, q_now]) (hj : j < ma) (h6 : ma ≤ 6) (hc6 : c < 6) (hn16 : n ≤ 16) (hn1 : 1 ≤ n) (hg40 : g ≤ 40) (hco : co j = nI c) (hin : i1 c = nI n) (hga : g1 c = nI g) (hv : v < n + g) (hkn : kn j = nI kd) (hkd : kd = 2) (hh : ¬ fh (56 * j + v) = 0) (hi : i < 8) : Cf Y mX8_place 2 [.ref o0, .int (nI j), .int (nI v), .int 2, .int (nI i)] w (some (.long (plV fn (16 * (56 * j + v) + 2 * i) 2))) [(qm, (o0, cO 8 (mo A (nI 0) (nI 0) (nI sz) bl (nI ci) (nI ma) pa en wr))), (q_circuitOf, (A 15, cI Y 6 co)), (q_inputs, (A 6, cI Y 6 i1)), (q_gates, (A 7, cI Y 6 g1)), (q_has, (A 24, cZ Y 336 fh)), (q_kind, (A 17, cI Y 6 kn)), (q_now, (A 23, cI Y 5376 (iF fn)))] := by
  refine Ct.intro (T := tX8_place) (by decide) oX8_place (Nat.le_of_ble_eq_true rfl) (fun G C B => ?_)
  refine x_lay [(qm, (o0, cO 8 (mo A th su (nI sz) bl (nI ci) (nI ma) pa en wr))), (q_circuitOf, (A 15, cI Y 6 co)), (q_inputs, (A 6, cI Y 6 i1)), (q_gates, (A 7, cI Y 6 g1)), (q_has, (A 24, cZ Y 336 fh)), (q_kind, (A 17, cI Y 6 kn)), (q_now, (A 23, cI Y 5376 (iF fn)))] (lay_cons e0 (lay_cons e1 (lay_cons e2 (lay_cons e3 (lay_cons e4 (lay_cons e5 (lay_cons e6 lay_nil))))))) ?_
  refine x_run C 0 2 (pc' := 2) (lv' := [(0, .ref o0), (1, .int (nI j)), (2, .int (nI v)), (3, .int 2), (4, .int (nI i))]) (st' := [.int 0, .ref o0]) rfl ?_
  refine x_put C 2 rfl pX8_117 N 0 rfl rfl rfl (Nat.le_of_ble_eq_true rfl) (os' := [(qm, (o0, cO 8 (mo A (nI 0) su (nI sz) bl (nI ci) (nI ma) pa en wr))), (q_circuitOf, (A 15, cI Y 6 co)), (q_inputs, (A 6, cI Y 6 i1)), (q_gates, (A 7, cI Y 6 g1)), (q_has, (A 24, cZ Y 336 fh)), (q_kind, (A 17, cI Y 6 kn)), (q_now, (A 23, cI Y 5376 (iF fn)))]) rfl ?_
  refine x_run C 3 2 (pc' := 7) (lv' := [(0, .ref o0), (1, .int (nI j)), (2, .int (nI v)), (3, .int 2), (4, .int (nI i))]) (st' := [.int 0, .ref o0]) rfl ?_
  refine x_put C 5 rfl pX8_247 N 0 rfl rfl rfl (Nat.le_of_ble_eq_true rfl) (os' := [(qm, (o0, cO 8 (mo A (nI 0) (nI 0) (nI sz) bl (nI ci) (nI ma) pa en wr))), (q_circuitOf, (A 15, cI Y 6 co)), (q_inputs, (A 6, cI Y 6 i1)), (q_gates, (A 7, cI Y 6 g1)), (q_has, (A 24, cZ Y 336 fh)), (q_kind, (A 17, cI Y 6 kn)), (q_now, (A 23, cI Y 5376 (iF fn)))]) rfl ?_
  refine x_run C 6 2 (pc' := 12) (lv' := [(0, .ref o0), (1, .int (nI j)), (2, .int (nI v)), (3, .int 2), (4, .int (nI i))]) (st' := [.int (nI j), .ref o0]) rfl ?_
  refine x_cv C 8 (As := [.int (nI j)]) (rest := []) rfl vX8_230 N 0 rfl rfl (c_X8_isGarbled Y _ o0 A (nI 0) (nI 0) sz bl ci ma pa en wr j qm (ovl_at 0 N rfl) (N.ov [0] (by decide) rfl) (by first | assumption | omega) (by first | assumption | omega)) rfl rfl (Nat.le_of_ble_eq_true rfl) ⟨Nat.le_of_ble_eq_true rfl, Nat.le_of_ble_eq_true rfl⟩ ⟨Nat.zero_le _, Nat.zero_le _⟩ [0] ⟨rfl, trivial⟩ (os' := [(qm, (o0, cO 8 (mo A (nI 0) (nI 0) (nI sz) bl (nI ci) (nI ma) pa en wr))), (q_circuitOf, (A 15, cI Y 6 co)), (q_inputs, (A 6, cI Y 6 i1)), (q_gates, (A 7, cI Y 6 g1)), (q_has, (A 24, cZ Y 336 fh)), (q_kind, (A 17, cI Y 6 kn)), (q_now, (A 23, cI Y 5376 (iF fn)))]) rfl (st' := [.int 1]) rfl ?_
  refine x_st (st' := [.int (nI 1)]) (by simp only [nlit, nI_add, pk_mul]) ?_
  refine x_ifN_eq C 9 (by omega) rfl (tgt := 47) rfl (fun hc1 => absurd hc1 (by omega)) (fun hc1 => ?_)
  refine x_run C 10 4 (pc' := 22) (lv' := [(0, .ref o0), (1, .int (nI j)), (2, .int (nI v)), (3, .int 2), (4, .int (nI i))]) (st' := [.ref o0, .ref o0, .int 0, .int (nI v)]) rfl ?_
  refine x_get C 14 rfl fX8_55 N 0 rfl (v := .ref (A 15)) rfl ?_
  refine x_run C 15 1 (pc' := 26) (lv' := [(0, .ref o0), (1, .int (nI j)), (2, .int (nI v)), (3, .int 2), (4, .int (nI i))]) (st' := [.int (nI j), .ref (A 15), .ref o0, .int 0, .int (nI v)]) rfl ?_
  refine x_ialdN C 16 rfl N 1 rfl (by omega) (by omega) ?_
  refine x_st (st' := [.int (nI c), .ref o0, .int 0, .int (nI v)]) (by rw [hco]) ?_
  refine x_cv C 17 (As := [.int (nI c)]) (rest := [.int 0, .int (nI v)]) rfl vX8_199 N 0 rfl rfl (c_X8_wiresOf Y _ o0 A (nI 0) (nI 0) sz bl ci ma pa en wr i1 g1 c n g qm q_inputs q_gates (ovl_at 0 N rfl) (ovl_at 2 N rfl) (ovl_at 3 N rfl) (N.ov [0, 2, 3] (by decide) rfl) (by first | assumption | omega) (by first | assumption | omega) (by first | assumption | omega)) rfl rfl (Nat.le_of_ble_eq_true rfl) ⟨Nat.le_of_ble_eq_true rfl, Nat.le_of_ble_eq_true rfl⟩ ⟨Nat.zero_le _, Nat.zero_le _⟩ [0, 2, 3] ⟨rfl, rfl, rfl, trivial⟩ (os' := [(qm, (o0, cO 8 (mo A (nI 0) (nI 0) (nI sz) bl (nI ci) (nI ma) pa en wr))), (q_circuitOf, (A 15, cI Y 6 co)), (q_inputs, (A 6, cI Y 6 i1)), (q_gates, (A 7, cI Y 6 g1)), (q_has, (A 24, cZ Y 336 fh)), (q_kind, (A 17, cI Y 6 kn)), (q_now, (A 23, cI Y 5376 (iF fn)))]) rfl (st' := [.int (nI (n + g)), .int 0, .int (nI v)]) rfl ?_
  refine x_run C 18 2 (pc' := 32) (lv' := [(0, .ref o0), (1, .int (nI j)), (2, .int (nI v)), (3, .int 2), (4, .int (nI i))]) (st' := [.int ((nI (n + g)) - 1), .int 0, .int (nI v)]) rfl ?_
  refine x_st (st' := [.int (nI ((n + g) - 1)), .int 0, .int (nI v)]) (by simp only [nlit, nI_add, pk_mul, pk_sub (show 1 ≤ (n + g) by omega)]) ?_
  refine x_st (st' := [.int (nI ((n + g) - 1)), .int (nI 0), .int (nI v)]) (by simp only [nlit, nI_add, pk_mul]) ?_
  refine x_cs C 20 (As := [.int (nI v), .int (nI 0), .int (nI ((n + g) - 1))]) (rest := []) rfl vX8_135 N (c_X8_in Y _ v 0 ((n + g) - 1)    (by first | assumption | omega) (by first | assumption | omega) (by first | assumption | omega)) rfl rfl (Nat.le_of_ble_eq_true rfl) ⟨Nat.le_of_ble_eq_true rfl, Nat.le_of_ble_eq_true rfl⟩ ⟨Nat.zero_le _, Nat.zero_le _⟩ [] trivial (os' := [(qm, (o0, cO 8 (mo A (nI 0) (nI 0) (nI sz) bl (nI ci) (nI ma) pa en wr))), (q_circuitOf, (A 15, cI Y 6 co)), (q_inputs, (A 6, cI Y 6 i1)), (q_gates, (A 7, cI Y 6 g1)), (q_has, (A 24, cZ Y 336 fh)), (q_kind, (A 17, cI Y 6 kn)), (q_now, (A 23, cI Y 5376 (iF fn)))]) rfl (st' := [.int 1]) rfl ?_
  refine x_st (st' := [.int (nI 1)]) (by simp only [nlit, nI_add, pk_mul]) ?_
  refine x_ifN_eq C 21 (by omega) rfl (tgt := 47) rfl (fun hc2 => absurd hc2 (by omega)) (fun hc2 => ?_)
  refine x_run C 22 3 (pc' := 41) (lv' := [(0, .ref o0), (1, .int (nI j)), (2, .int (nI v)), (3, .int 2), (4, .int (nI i))]) (st' := [.int 4, .int 0, .int 2]) rfl ?_
  refine x_st (st' := [.int (nI 4), .int (nI 0), .int (nI 2)]) (by simp only [nlit, nI_add, pk_mul]) ?_
  refine x_cs C 25 (As := [.int (nI 2), .int (nI 0), .int (nI 4)]) (rest := []) rfl vX8_135 N (c_X8_in Y _ 2 0 4    (by first | assumption | omega) (by first | assumption | omega) (by first | assumption | omega)) rfl rfl (Nat.le_of_ble_eq_true rfl) ⟨Nat.le_of_ble_eq_true rfl, Nat.le_of_ble_eq_true rfl⟩ ⟨Nat.zero_le _, Nat.zero_le _⟩ [] trivial (os' := [(qm, (o0, cO 8 (mo A (nI 0) (nI 0) (nI sz) bl (nI ci) (nI ma) pa en wr))), (q_circuitOf, (A 15, cI Y 6 co)), (q_inputs, (A 6, cI Y 6 i1)), (q_gates, (A 7, cI Y 6 g1)), (q_has, (A 24, cZ Y 336 fh)), (q_kind, (A 17, cI Y 6 kn)), (q_now, (A 23, cI Y 5376 (iF fn)))]) rfl (st' := [.int 1]) rfl ?_
  refine x_st (st' := [.int (nI 1)]) (by simp only [nlit, nI_add, pk_mul]) ?_
  refine x_ifN_ne C 26 (by omega) rfl (tgt := 53) rfl (fun hc3 => ?_) (fun hc3 => absurd hc3 (by omega))
  refine x_run C 31 1 (pc' := 54) (lv' := [(0, .ref o0), (1, .int (nI j)), (2, .int (nI v)), (3, .int 2), (4, .int (nI i))]) (st' := [.ref o0]) rfl ?_
  refine x_get C 32 rfl fX8_82 N 0 rfl (v := .ref (A 24)) rfl ?_
  refine x_run C 33 5 (pc' := 63) (lv' := [(0, .ref o0), (1, .int (nI j)), (2, .int (nI v)), (3, .int 2), (4, .int (nI i))]) (st' := [.int ((56 * (nI j)) + (nI v)), .ref (A 24)]) rfl ?_
  refine x_st (st' := [.int (nI ((56 * j) + v)), .ref (A 24)]) (by simp only [nlit, nI_add, pk_mul]) ?_
  refine x_zaldN C 38 rfl N 4 rfl (by omega) (by omega) ?_
  refine x_if_ne C 39 rfl (tgt := 74) rfl (fun hc4 => ?_) (fun hc4 => ?_)
  · refine x_run C 44 2 (pc' := 76) (lv' := [(0, .ref o0), (1, .int (nI j)), (2, .int (nI v)), (3, .int 2), (4, .int (nI i))]) (st' := [.ref o0, .int 2]) rfl ?_
    refine x_get C 46 rfl fX8_61 N 0 rfl (v := .ref (A 17)) rfl ?_
    refine x_run C 47 1 (pc' := 80) (lv' := [(0, .ref o0), (1, .int (nI j)), (2, .int (nI v)), (3, .int 2), (4, .int (nI i))]) (st' := [.int (nI j), .ref (A 17), .int 2]) rfl ?_
    refine x_ialdN C 48 rfl N 5 rfl (by omega) (by omega) ?_
    refine x_st (st' := [.int (nI kd), .int 2]) (by rw [hkn]) ?_
    refine x_st (st' := [.int (nI kd), .int (nI 2)]) (by simp only [nlit, nI_add, pk_mul]) ?_
    refine x_icmpN_eq C 49 (by omega) (by omega) rfl (tgt := 91) rfl (fun hc5 => ?_) (fun hc5 => ?_)
    · refine x_run C 54 1 (pc' := 92) (lv' := [(0, .ref o0), (1, .int (nI j)), (2, .int (nI v)), (3, .int 2), (4, .int (nI i))]) (st' := [.int 2]) rfl ?_
      refine x_st (st' := [.int (nI 2)]) (by simp only [nlit, nI_add, pk_mul]) ?_
      refine x_ifN_ne C 55 (by omega) rfl (tgt := 99) rfl (fun hc6 => ?_) (fun hc6 => absurd hc6 (by omega))
      refine x_run C 58 2 (pc' := 101) (lv' := [(0, .ref o0), (1, .int (nI j)), (2, .int (nI v)), (3, .int 2), (4, .int (nI i))]) (st' := [.int 3, .int 2]) rfl ?_
      refine x_st (st' := [.int (nI 3), .int 2]) (by simp only [nlit, nI_add, pk_mul]) ?_
      refine x_st (st' := [.int (nI 3), .int (nI 2)]) (by simp only [nlit, nI_add, pk_mul]) ?_
      refine x_icmpN_ge C 60 (by omega) (by omega) rfl (tgt := 108) rfl (fun hc7 => absurd hc7 (by omega)) (fun hc7 => ?_)
      refine x_run C 61 2 (pc' := 119) (lv' := [(0, .ref o0), (1, .int (nI j)), (2, .int (nI v)), (3, .int 2), (4, .int (nI i))]) (st' := [.int 2]) rfl ?_
      refine x_run C 69 8 (pc' := 131) (lv' := [(5, .int 2), (0, .ref o0), (1, .int (nI j)), (2, .int (nI v)), (3, .int 2), (4, .int (nI i))]) (st' := [.int ((16 / 2) - 1), .int 0, .int (nI i)]) rfl ?_
      refine x_st (st' := [.int (nI 7), .int (nI 0), .int (nI i)]) (by simp only [nlit, nI_add, pk_mul, pk_div (show 16 < 2 ^ 31 by omega) (show 0 < 2 by decide) (show 2 < 2 ^ 31 by decide), pk_sub (show 1 ≤ 8 by omega)]) ?_
      refine x_cs C 77 (As := [.int (nI i), .int (nI 0), .int (nI 7)]) (rest := []) rfl vX8_135 N (c_X8_in Y _ i 0 7    (by first | assumption | omega) (by first | assumption | omega) (by first | assumption | omega)) rfl rfl (Nat.le_of_ble_eq_true rfl) ⟨Nat.le_of_ble_eq_true rfl, Nat.le_of_ble_eq_true rfl⟩ ⟨Nat.zero_le _, Nat.zero_le _⟩ [] trivial (os' := [(qm, (o0, cO 8 (mo A (nI 0) (nI 0) (nI sz) bl (nI ci) (nI ma) pa en wr))), (q_circuitOf, (A 15, cI Y 6 co)), (q_inputs, (A 6, cI Y 6 i1)), (q_gates, (A 7, cI Y 6 g1)), (q_has, (A 24, cZ Y 336 fh)), (q_kind, (A 17, cI Y 6 kn)), (q_now, (A 23, cI Y 5376 (iF fn)))]) rfl (st' := [.int 1]) rfl ?_
      refine x_st (st' := [.int (nI 1)]) (by simp only [nlit, nI_add, pk_mul]) ?_
      refine x_ifN_ne C 78 (by omega) rfl (tgt := 144) rfl (fun hc8 => ?_) (fun hc8 => absurd hc8 (by omega))
      refine x_run C 83 4 (pc' := 150) (lv' := [(8, .int 0), (6, .long 0), (5, .int 2), (0, .ref o0), (1, .int (nI j)), (2, .int (nI v)), (3, .int 2), (4, .int (nI i))]) (st' := []) rfl ?_
      have L150 : ∀ q : Nat, 0 ≤ q → q ≤ 2 → X G Y 0 0 150 [(0, .ref o0), (1, .int (nI j)), (2, .int (nI v)), (3, .int 2), (4, .int (nI i)), (5, .int 2), (6, .long (w8 fn (16 * (56 * j + v) + 2 * i) q)), (8, .int (nI q))] [] (ovl w [(qm, (o0, cO 8 (mo A (nI 0) (nI 0) (nI sz) bl (nI ci) (nI ma) pa en wr))), (q_circuitOf, (A 15, cI Y 6 co)), (q_inputs, (A 6, cI Y 6 i1)), (q_gates, (A 7, cI Y 6 g1)), (q_has, (A 24, cZ Y 336 fh)), (q_kind, (A 17, cI Y 6 kn)), (q_now, (A 23, cI Y 5376 (iF fn)))]) := by
        intro q lo150 hi150
        revert lo150
        refine x_up (fun q => 0 ≤ q → X G Y 0 0 150 [(0, .ref o0), (1, .int (nI j)), (2, .int (nI v)), (3, .int 2), (4, .int (nI i)), (5, .int 2), (6, .long (w8 fn (16 * (56 * j + v) + 2 * i) q)), (8, .int (nI q))] [] (ovl w [(qm, (o0, cO 8 (mo A (nI 0) (nI 0) (nI sz) bl (nI ci) (nI ma) pa en wr))), (q_circuitOf, (A 15, cI Y 6 co)), (q_inputs, (A 6, cI Y 6 i1)), (q_gates, (A 7, cI Y 6 g1)), (q_has, (A 24, cZ Y 336 fh)), (q_kind, (A 17, cI Y 6 kn)), (q_now, (A 23, cI Y 5376 (iF fn)))])) 2 ?_ ?_ q hi150
        · intro lo150
          refine x_run C 87 2 (pc' := 154) (lv' := [(0, .ref o0), (1, .int (nI j)), (2, .int (nI v)), (3, .int 2), (4, .int (nI i)), (5, .int 2), (6, .long (w8 fn (16 * (56 * j + v) + 2 * i) 2)), (8, .int (nI 2))]) (st' := [.int 2, .int (nI 2)]) rfl ?_
          refine x_st (st' := [.int (nI 2), .int (nI 2)]) (by simp only [nlit, nI_add, pk_mul]) ?_
          refine x_icmpN_ge C 89 (by omega) (by omega) rfl (tgt := 191) rfl (fun hc9 => ?_) (fun hc9 => ?_)
          · refine x_run C 110 1 (pc' := 192) (lv' := [(0, .ref o0), (1, .int (nI j)), (2, .int (nI v)), (3, .int 2), (4, .int (nI i)), (5, .int 2), (6, .long (w8 fn (16 * (56 * j + v) + 2 * i) 2)), (8, .int (nI 2))]) (st' := [.int 2]) rfl ?_
            refine x_st (st' := [.int (nI 2)]) (by simp only [nlit, nI_add, pk_mul]) ?_
            refine x_ifN_ne C 111 (by omega) rfl (tgt := 203) rfl (fun hc10 => ?_) (fun hc10 => absurd hc10 (by omega))
            refine x_run C 117 2 (pc' := 205) (lv' := [(0, .ref o0), (1, .int (nI j)), (2, .int (nI v)), (3, .int 2), (4, .int (nI i)), (5, .int 2), (6, .long (w8 fn (16 * (56 * j + v) + 2 * i) 2)), (8, .int (nI 2))]) (st' := [.int 1, .int 2]) rfl ?_
            refine x_st (st' := [.int (nI 1), .int 2]) (by simp only [nlit, nI_add, pk_mul]) ?_
            refine x_st (st' := [.int (nI 1), .int (nI 2)]) (by simp only [nlit, nI_add, pk_mul]) ?_
            refine x_icmpN_ne C 119 (by omega) (by omega) rfl (tgt := 216) rfl (fun hc11 => ?_) (fun hc11 => absurd hc11 (by omega))
            refine x_run C 125 2 (pc' := 218) (lv' := [(0, .ref o0), (1, .int (nI j)), (2, .int (nI v)), (3, .int 2), (4, .int (nI i)), (5, .int 2), (6, .long (w8 fn (16 * (56 * j + v) + 2 * i) 2)), (8, .int (nI 2))]) (st' := [.int 3, .int 2]) rfl ?_
            refine x_st (st' := [.int (nI 3), .int 2]) (by simp only [nlit, nI_add, pk_mul]) ?_
            refine x_st (st' := [.int (nI 3), .int (nI 2)]) (by simp only [nlit, nI_add, pk_mul]) ?_
            refine x_icmpN_ne C 127 (by omega) (by omega) rfl (tgt := 228) rfl (fun hc12 => ?_) (fun hc12 => absurd hc12 (by omega))
            refine x_run C 132 1 (pc' := 230) (lv' := [(0, .ref o0), (1, .int (nI j)), (2, .int (nI v)), (3, .int 2), (4, .int (nI i)), (5, .int 2), (6, .long (w8 fn (16 * (56 * j + v) + 2 * i) 2)), (8, .int (nI 2))]) (st' := [.long (w8 fn (16 * (56 * j + v) + 2 * i) 2)]) rfl ?_
            exact x_lret C B rfl 133 rfl (Nat.zero_le _) (Nat.zero_le _) ⟨by rfl, rfl⟩
          · exact absurd hc9 (by omega)
        · intro q hi150 ih150 lo150
          refine x_run C 87 2 (pc' := 154) (lv' := [(0, .ref o0), (1, .int (nI j)), (2, .int (nI v)), (3, .int 2), (4, .int (nI i)), (5, .int 2), (6, .long (w8 fn (16 * (56 * j + v) + 2 * i) q)), (8, .int (nI q))]) (st' := [.int 2, .int (nI q)]) rfl ?_
          refine x_st (st' := [.int (nI 2), .int (nI q)]) (by simp only [nlit, nI_add, pk_mul]) ?_
          refine x_icmpN_ge C 89 (by omega) (by omega) rfl (tgt := 191) rfl (fun hc13 => ?_) (fun hc13 => ?_)
          · exact absurd hc13 (by omega)
          · refine x_run C 90 4 (pc' := 163) (lv' := [(0, .ref o0), (1, .int (nI j)), (2, .int (nI v)), (3, .int 2), (4, .int (nI i)), (5, .int 2), (6, .long (w8 fn (16 * (56 * j + v) + 2 * i) q)), (8, .int (nI q))]) (st' := [.ref o0, .long (jlshl (w8 fn (16 * (56 * j + v) + 2 * i) q) 8)]) rfl ?_
            refine x_get C 94 rfl fX8_79 N 0 rfl (v := .ref (A 23)) rfl ?_
            refine x_run C 95 2 (pc' := 168) (lv' := [(0, .ref o0), (1, .int (nI j)), (2, .int (nI v)), (3, .int 2), (4, .int (nI i)), (5, .int 2), (6, .long (w8 fn (16 * (56 * j + v) + 2 * i) q)), (8, .int (nI q))]) (st' := [.int (nI v), .int (nI j), .ref (A 23), .long (jlshl (w8 fn (16 * (56 * j + v) + 2 * i) q) 8)]) rfl ?_
            refine x_cs C 97 (As := [.int (nI j), .int (nI v)]) (rest := [.ref (A 23), .long (jlshl (w8 fn (16 * (56 * j + v) + 2 * i) q) 8)]) rfl vX8_210 N (c_X8_placeOf Y _ j v    ) rfl rfl (Nat.le_of_ble_eq_true rfl) ⟨Nat.le_of_ble_eq_true rfl, Nat.le_of_ble_eq_true rfl⟩ ⟨Nat.zero_le _, Nat.zero_le _⟩ [] trivial (os' := [(qm, (o0, cO 8 (mo A (nI 0) (nI 0) (nI sz) bl (nI ci) (nI ma) pa en wr))), (q_circuitOf, (A 15, cI Y 6 co)), (q_inputs, (A 6, cI Y 6 i1)), (q_gates, (A 7, cI Y 6 g1)), (q_has, (A 24, cZ Y 336 fh)), (q_kind, (A 17, cI Y 6 kn)), (q_now, (A 23, cI Y 5376 (iF fn)))]) rfl (st' := [.int (nI (16 * (56 * j + v))), .ref (A 23), .long (jlshl (w8 fn (16 * (56 * j + v) + 2 * i) q) 8)]) rfl ?_
            refine x_run C 98 6 (pc' := 180) (lv' := [(0, .ref o0), (1, .int (nI j)), (2, .int (nI v)), (3, .int 2), (4, .int (nI i)), (5, .int 2), (6, .long (w8 fn (16 * (56 * j + v) + 2 * i) q)), (8, .int (nI q))]) (st' := [.int (((nI (16 * (56 * j + v))) + (2 * (nI i))) + (nI q)), .ref (A 23), .long (jlshl (w8 fn (16 * (56 * j + v) + 2 * i) q) 8)]) rfl ?_
            refine x_st (st' := [.int (nI (((16 * (56 * j + v)) + (2 * i)) + q)), .ref (A 23), .long (jlshl (w8 fn (16 * (56 * j + v) + 2 * i) q) 8)]) (by simp only [nlit, nI_add, pk_mul]) ?_
            refine x_ialdN C 104 rfl N 6 rfl (by omega) (by omega) ?_
            refine x_st (st' := [.int (nI (fn (((16 * (56 * j + v)) + (2 * i)) + q))), .long (jlshl (w8 fn (16 * (56 * j + v) + 2 * i) q) 8)]) rfl ?_
            refine x_run C 105 5 (pc' := 150) (lv' := [(8, .int ((nI q) + 1)), (6, .long ((jlshl (w8 fn (16 * (56 * j + v) + 2 * i) q) 8) ||| ((nI (fn (((16 * (56 * j + v)) + (2 * i)) + q))).toInt64))), (0, .ref o0), (1, .int (nI j)), (2, .int (nI v)), (3, .int 2), (4, .int (nI i)), (5, .int 2)]) (st' := []) rfl ?_
            refine x_sub (lv' := [(0, .ref o0), (1, .int (nI j)), (2, .int (nI v)), (3, .int 2), (4, .int (nI i)), (5, .int 2), (6, .long ((jlshl (w8 fn (16 * (56 * j + v) + 2 * i) q) 8) ||| ((nI (fn (((16 * (56 * j + v)) + (2 * i)) + q))).toInt64))), (8, .int ((nI q) + 1))]) [2, 3, 4, 5, 6, 7, 1, 0] rfl ?_
            refine x_loc (lv' := [(0, .ref o0), (1, .int (nI j)), (2, .int (nI v)), (3, .int 2), (4, .int (nI i)), (5, .int 2), (6, .long (w8 fn (16 * (56 * j + v) + 2 * i) (q + 1))), (8, .int (nI (q + 1)))]) (by simp only [w8, nlit, nI_add]) ?_
            exact ih150 (by omega)
      refine x_sub (lv' := [(0, .ref o0), (1, .int (nI j)), (2, .int (nI v)), (3, .int 2), (4, .int (nI i)), (5, .int 2), (6, .long 0), (8, .int 0)]) [3, 4, 5, 6, 7, 2, 1, 0] rfl ?_
      refine x_loc (lv' := [(0, .ref o0), (1, .int (nI j)), (2, .int (nI v)), (3, .int 2), (4, .int (nI i)), (5, .int 2), (6, .long (w8 fn (16 * (56 * j + v) + 2 * i) 0)), (8, .int (nI 0))]) (by rfl) ?_
      exact L150 0 (Nat.le_refl _) (by omega)
    · exact absurd (by omega) hc5
  · exact absurd hc4 hh
set_option maxHeartbeats 4000000 in
set_option maxRecDepth 100000 in
theorem c_X8_placeX3 (Y : xD) (w : va_W) (o0 : Nat) (A : Nat → Nat) (th : Int32) (su : Int32) (sz : Nat) (bl : Int32) (ci : Nat) (ma : Nat) (pa : Int32) (en : Int32) (wr : Int32) (co : Nat → Int32) (i1 : Nat → Int32) (g1 : Nat → Int32) (j : Nat) (c : Nat) (n : Nat) (g : Nat) (v : Nat) (kd : Nat) (i : Int32) (fh : Nat → Int32) (kn : Nat → Int32) (qm q_circuitOf q_inputs q_gates q_has q_kind : Nat) (e0 : w[qm]? = some (o0, cO 8 (mo A th su (nI sz) bl (nI ci) (nI ma) pa en wr))) (e1 : w[q_circuitOf]? = some (A 15, cI Y 6 co)) (e2 : w[q_inputs]? = some (A 6, cI Y 6 i1)) (e3 : w[q_gates]? = some (A 7, cI Y 6 g1)) (e4 : w[q_has]? = some (A 24, cZ Y 336 fh)) (e5 : w[q_kind]? = some (A 17, cI Y 6 kn)) (N : xN w.length [qm, q_circuitOf, q_inputs, q_gates, q_has, q_kind]) (hj : j < ma) (h6 : ma ≤ 6) (hc6 : c < 6) (hn16 : n ≤ 16) (hn1 : 1 ≤ n) (hg40 : g ≤ 40) (hco : co j = nI c) (hin : i1 c = nI n) (hga : g1 c = nI g) (hv : v < n + g) (hkn : kn j = nI kd) (hkd : kd = 3) (hh : ¬ fh (56 * j + v) = 0) (hi : i < 0 ∨ 4 ≤ i) : Cf Y mX8_place 2 [.ref o0, .int (nI j), .int (nI v), .int 3, .int i] w (some (.long 0)) [(qm, (o0, cO 8 (mo A (nI 0) (-12) (nI sz) bl (nI ci) (nI ma) pa en wr))), (q_circuitOf, (A 15, cI Y 6 co)), (q_inputs, (A 6, cI Y 6 i1)), (q_gates, (A 7, cI Y 6 g1)), (q_has, (A 24, cZ Y 336 fh)), (q_kind, (A 17, cI Y 6 kn))] := by
  refine Ct.intro (T := tX8_place) (by decide) oX8_place (Nat.le_of_ble_eq_true rfl) (fun G C B => ?_)
  refine x_lay [(qm, (o0, cO 8 (mo A th su (nI sz) bl (nI ci) (nI ma) pa en wr))), (q_circuitOf, (A 15, cI Y 6 co)), (q_inputs, (A 6, cI Y 6 i1)), (q_gates, (A 7, cI Y 6 g1)), (q_has, (A 24, cZ Y 336 fh)), (q_kind, (A 17, cI Y 6 kn))] (lay_cons e0 (lay_cons e1 (lay_cons e2 (lay_cons e3 (lay_cons e4 (lay_cons e5 lay_nil)))))) ?_
  refine x_run C 0 2 (pc' := 2) (lv' := [(0, .ref o0), (1, .int (nI j)), (2, .int (nI v)), (3, .int 3), (4, .int i)]) (st' := [.int 0, .ref o0]) rfl ?_
  refine x_put C 2 rfl pX8_117 N 0 rfl rfl rfl (Nat.le_of_ble_eq_true rfl) (os' := [(qm, (o0, cO 8 (mo A (nI 0) su (nI sz) bl (nI ci) (nI ma) pa en wr))), (q_circuitOf, (A 15, cI Y 6 co)), (q_inputs, (A 6, cI Y 6 i1)), (q_gates, (A 7, cI Y 6 g1)), (q_has, (A 24, cZ Y 336 fh)), (q_kind, (A 17, cI Y 6 kn))]) rfl ?_
  refine x_run C 3 2 (pc' := 7) (lv' := [(0, .ref o0), (1, .int (nI j)), (2, .int (nI v)), (3, .int 3), (4, .int i)]) (st' := [.int 0, .ref o0]) rfl ?_
  refine x_put C 5 rfl pX8_247 N 0 rfl rfl rfl (Nat.le_of_ble_eq_true rfl) (os' := [(qm, (o0, cO 8 (mo A (nI 0) (nI 0) (nI sz) bl (nI ci) (nI ma) pa en wr))), (q_circuitOf, (A 15, cI Y 6 co)), (q_inputs, (A 6, cI Y 6 i1)), (q_gates, (A 7, cI Y 6 g1)), (q_has, (A 24, cZ Y 336 fh)), (q_kind, (A 17, cI Y 6 kn))]) rfl ?_
  refine x_run C 6 2 (pc' := 12) (lv' := [(0, .ref o0), (1, .int (nI j)), (2, .int (nI v)), (3, .int 3), (4, .int i)]) (st' := [.int (nI j), .ref o0]) rfl ?_
  refine x_cv C 8 (As := [.int (nI j)]) (rest := []) rfl vX8_230 N 0 rfl rfl (c_X8_isGarbled Y _ o0 A (nI 0) (nI 0) sz bl ci ma pa en wr j qm (ovl_at 0 N rfl) (N.ov [0] (by decide) rfl) (by first | assumption | omega) (by first | assumption | omega)) rfl rfl (Nat.le_of_ble_eq_true rfl) ⟨Nat.le_of_ble_eq_true rfl, Nat.le_of_ble_eq_true rfl⟩ ⟨Nat.zero_le _, Nat.zero_le _⟩ [0] ⟨rfl, trivial⟩ (os' := [(qm, (o0, cO 8 (mo A (nI 0) (nI 0) (nI sz) bl (nI ci) (nI ma) pa en wr))), (q_circuitOf, (A 15, cI Y 6 co)), (q_inputs, (A 6, cI Y 6 i1)), (q_gates, (A 7, cI Y 6 g1)), (q_has, (A 24, cZ Y 336 fh)), (q_kind, (A 17, cI Y 6 kn))]) rfl (st' := [.int 1]) rfl ?_
  refine x_st (st' := [.int (nI 1)]) (by simp only [nlit, nI_add, pk_mul]) ?_
  refine x_ifN_eq C 9 (by omega) rfl (tgt := 47) rfl (fun hc1 => absurd hc1 (by omega)) (fun hc1 => ?_)
  refine x_run C 10 4 (pc' := 22) (lv' := [(0, .ref o0), (1, .int (nI j)), (2, .int (nI v)), (3, .int 3), (4, .int i)]) (st' := [.ref o0, .ref o0, .int 0, .int (nI v)]) rfl ?_
  refine x_get C 14 rfl fX8_55 N 0 rfl (v := .ref (A 15)) rfl ?_
  refine x_run C 15 1 (pc' := 26) (lv' := [(0, .ref o0), (1, .int (nI j)), (2, .int (nI v)), (3, .int 3), (4, .int i)]) (st' := [.int (nI j), .ref (A 15), .ref o0, .int 0, .int (nI v)]) rfl ?_
  refine x_ialdN C 16 rfl N 1 rfl (by omega) (by omega) ?_
  refine x_st (st' := [.int (nI c), .ref o0, .int 0, .int (nI v)]) (by rw [hco]) ?_
  refine x_cv C 17 (As := [.int (nI c)]) (rest := [.int 0, .int (nI v)]) rfl vX8_199 N 0 rfl rfl (c_X8_wiresOf Y _ o0 A (nI 0) (nI 0) sz bl ci ma pa en wr i1 g1 c n g qm q_inputs q_gates (ovl_at 0 N rfl) (ovl_at 2 N rfl) (ovl_at 3 N rfl) (N.ov [0, 2, 3] (by decide) rfl) (by first | assumption | omega) (by first | assumption | omega) (by first | assumption | omega)) rfl rfl (Nat.le_of_ble_eq_true rfl) ⟨Nat.le_of_ble_eq_true rfl, Nat.le_of_ble_eq_true rfl⟩ ⟨Nat.zero_le _, Nat.zero_le _⟩ [0, 2, 3] ⟨rfl, rfl, rfl, trivial⟩ (os' := [(qm, (o0, cO 8 (mo A (nI 0) (nI 0) (nI sz) bl (nI ci) (nI ma) pa en wr))), (q_circuitOf, (A 15, cI Y 6 co)), (q_inputs, (A 6, cI Y 6 i1)), (q_gates, (A 7, cI Y 6 g1)), (q_has, (A 24, cZ Y 336 fh)), (q_kind, (A 17, cI Y 6 kn))]) rfl (st' := [.int (nI (n + g)), .int 0, .int (nI v)]) rfl ?_
  refine x_run C 18 2 (pc' := 32) (lv' := [(0, .ref o0), (1, .int (nI j)), (2, .int (nI v)), (3, .int 3), (4, .int i)]) (st' := [.int ((nI (n + g)) - 1), .int 0, .int (nI v)]) rfl ?_
  refine x_st (st' := [.int (nI ((n + g) - 1)), .int 0, .int (nI v)]) (by simp only [nlit, nI_add, pk_mul, pk_sub (show 1 ≤ (n + g) by omega)]) ?_
  refine x_st (st' := [.int (nI ((n + g) - 1)), .int (nI 0), .int (nI v)]) (by simp only [nlit, nI_add, pk_mul]) ?_
  refine x_cs C 20 (As := [.int (nI v), .int (nI 0), .int (nI ((n + g) - 1))]) (rest := []) rfl vX8_135 N (c_X8_in Y _ v 0 ((n + g) - 1)    (by first | assumption | omega) (by first | assumption | omega) (by first | assumption | omega)) rfl rfl (Nat.le_of_ble_eq_true rfl) ⟨Nat.le_of_ble_eq_true rfl, Nat.le_of_ble_eq_true rfl⟩ ⟨Nat.zero_le _, Nat.zero_le _⟩ [] trivial (os' := [(qm, (o0, cO 8 (mo A (nI 0) (nI 0) (nI sz) bl (nI ci) (nI ma) pa en wr))), (q_circuitOf, (A 15, cI Y 6 co)), (q_inputs, (A 6, cI Y 6 i1)), (q_gates, (A 7, cI Y 6 g1)), (q_has, (A 24, cZ Y 336 fh)), (q_kind, (A 17, cI Y 6 kn))]) rfl (st' := [.int 1]) rfl ?_
  refine x_st (st' := [.int (nI 1)]) (by simp only [nlit, nI_add, pk_mul]) ?_
  refine x_ifN_eq C 21 (by omega) rfl (tgt := 47) rfl (fun hc2 => absurd hc2 (by omega)) (fun hc2 => ?_)
  refine x_run C 22 3 (pc' := 41) (lv' := [(0, .ref o0), (1, .int (nI j)), (2, .int (nI v)), (3, .int 3), (4, .int i)]) (st' := [.int 4, .int 0, .int 3]) rfl ?_
  refine x_st (st' := [.int (nI 4), .int (nI 0), .int (nI 3)]) (by simp only [nlit, nI_add, pk_mul]) ?_
  refine x_cs C 25 (As := [.int (nI 3), .int (nI 0), .int (nI 4)]) (rest := []) rfl vX8_135 N (c_X8_in Y _ 3 0 4    (by first | assumption | omega) (by first | assumption | omega) (by first | assumption | omega)) rfl rfl (Nat.le_of_ble_eq_true rfl) ⟨Nat.le_of_ble_eq_true rfl, Nat.le_of_ble_eq_true rfl⟩ ⟨Nat.zero_le _, Nat.zero_le _⟩ [] trivial (os' := [(qm, (o0, cO 8 (mo A (nI 0) (nI 0) (nI sz) bl (nI ci) (nI ma) pa en wr))), (q_circuitOf, (A 15, cI Y 6 co)), (q_inputs, (A 6, cI Y 6 i1)), (q_gates, (A 7, cI Y 6 g1)), (q_has, (A 24, cZ Y 336 fh)), (q_kind, (A 17, cI Y 6 kn))]) rfl (st' := [.int 1]) rfl ?_
  refine x_st (st' := [.int (nI 1)]) (by simp only [nlit, nI_add, pk_mul]) ?_
  refine x_ifN_ne C 26 (by omega) rfl (tgt := 53) rfl (fun hc3 => ?_) (fun hc3 => absurd hc3 (by omega))
  refine x_run C 31 1 (pc' := 54) (lv' := [(0, .ref o0), (1, .int (nI j)), (2, .int (nI v)), (3, .int 3), (4, .int i)]) (st' := [.ref o0]) rfl ?_
  refine x_get C 32 rfl fX8_82 N 0 rfl (v := .ref (A 24)) rfl ?_
  refine x_run C 33 5 (pc' := 63) (lv' := [(0, .ref o0), (1, .int (nI j)), (2, .int (nI v)), (3, .int 3), (4, .int i)]) (st' := [.int ((56 * (nI j)) + (nI v)), .ref (A 24)]) rfl ?_
  refine x_st (st' := [.int (nI ((56 * j) + v)), .ref (A 24)]) (by simp only [nlit, nI_add, pk_mul]) ?_
  refine x_zaldN C 38 rfl N 4 rfl (by omega) (by omega) ?_
  refine x_if_ne C 39 rfl (tgt := 74) rfl (fun hc4 => ?_) (fun hc4 => ?_)
  · refine x_run C 44 2 (pc' := 76) (lv' := [(0, .ref o0), (1, .int (nI j)), (2, .int (nI v)), (3, .int 3), (4, .int i)]) (st' := [.ref o0, .int 3]) rfl ?_
    refine x_get C 46 rfl fX8_61 N 0 rfl (v := .ref (A 17)) rfl ?_
    refine x_run C 47 1 (pc' := 80) (lv' := [(0, .ref o0), (1, .int (nI j)), (2, .int (nI v)), (3, .int 3), (4, .int i)]) (st' := [.int (nI j), .ref (A 17), .int 3]) rfl ?_
    refine x_ialdN C 48 rfl N 5 rfl (by omega) (by omega) ?_
    refine x_st (st' := [.int (nI kd), .int 3]) (by rw [hkn]) ?_
    refine x_st (st' := [.int (nI kd), .int (nI 3)]) (by simp only [nlit, nI_add, pk_mul]) ?_
    refine x_icmpN_eq C 49 (by omega) (by omega) rfl (tgt := 91) rfl (fun hc5 => ?_) (fun hc5 => ?_)
    · refine x_run C 54 1 (pc' := 92) (lv' := [(0, .ref o0), (1, .int (nI j)), (2, .int (nI v)), (3, .int 3), (4, .int i)]) (st' := [.int 3]) rfl ?_
      refine x_st (st' := [.int (nI 3)]) (by simp only [nlit, nI_add, pk_mul]) ?_
      refine x_ifN_ne C 55 (by omega) rfl (tgt := 99) rfl (fun hc6 => ?_) (fun hc6 => absurd hc6 (by omega))
      refine x_run C 58 2 (pc' := 101) (lv' := [(0, .ref o0), (1, .int (nI j)), (2, .int (nI v)), (3, .int 3), (4, .int i)]) (st' := [.int 3, .int 3]) rfl ?_
      refine x_st (st' := [.int (nI 3), .int 3]) (by simp only [nlit, nI_add, pk_mul]) ?_
      refine x_st (st' := [.int (nI 3), .int (nI 3)]) (by simp only [nlit, nI_add, pk_mul]) ?_
      refine x_icmpN_ge C 60 (by omega) (by omega) rfl (tgt := 108) rfl (fun hc7 => ?_) (fun hc7 => absurd hc7 (by omega))
      refine x_run C 63 2 (pc' := 110) (lv' := [(0, .ref o0), (1, .int (nI j)), (2, .int (nI v)), (3, .int 3), (4, .int i)]) (st' := [.int 3, .int 3]) rfl ?_
      refine x_st (st' := [.int (nI 3), .int 3]) (by simp only [nlit, nI_add, pk_mul]) ?_
      refine x_st (st' := [.int (nI 3), .int (nI 3)]) (by simp only [nlit, nI_add, pk_mul]) ?_
      refine x_icmpN_ne C 65 (by omega) (by omega) rfl (tgt := 117) rfl (fun hc8 => absurd hc8 (by omega)) (fun hc8 => ?_)
      refine x_run C 66 2 (pc' := 119) (lv' := [(0, .ref o0), (1, .int (nI j)), (2, .int (nI v)), (3, .int 3), (4, .int i)]) (st' := [.int 4]) rfl ?_
      refine x_run C 69 8 (pc' := 131) (lv' := [(5, .int 4), (0, .ref o0), (1, .int (nI j)), (2, .int (nI v)), (3, .int 3), (4, .int i)]) (st' := [.int ((16 / 4) - 1), .int 0, .int i]) rfl ?_
      refine x_cs C 77 (As := [.int i, .int 0, .int ((16 / 4) - 1)]) (rest := []) rfl vX8_135 N (c_X8_inF Y _ i 0 ((16 / 4) - 1)    (hi.imp id (fun h => Int32.lt_of_lt_of_le (by decide) h))) rfl rfl (Nat.le_of_ble_eq_true rfl) ⟨Nat.le_of_ble_eq_true rfl, Nat.le_of_ble_eq_true rfl⟩ ⟨Nat.zero_le _, Nat.zero_le _⟩ [] trivial (os' := [(qm, (o0, cO 8 (mo A (nI 0) (nI 0) (nI sz) bl (nI ci) (nI ma) pa en wr))), (q_circuitOf, (A 15, cI Y 6 co)), (q_inputs, (A 6, cI Y 6 i1)), (q_gates, (A 7, cI Y 6 g1)), (q_has, (A 24, cZ Y 336 fh)), (q_kind, (A 17, cI Y 6 kn))]) rfl (st' := [.int 0]) rfl ?_
      refine x_st (st' := [.int (nI 0)]) (by simp only [nlit, nI_add, pk_mul]) ?_
      refine x_ifN_ne C 78 (by omega) rfl (tgt := 144) rfl (fun hc9 => absurd hc9 (by omega)) (fun hc9 => ?_)
      refine x_run C 79 2 (pc' := 140) (lv' := [(5, .int 4), (0, .ref o0), (1, .int (nI j)), (2, .int (nI v)), (3, .int 3), (4, .int i)]) (st' := [.int (-12), .ref o0]) rfl ?_
      refine x_cv C 81 (As := [.int (-12)]) (rest := []) rfl vX8_250 N 0 rfl rfl (c_X8_no Y _ o0 A (nI 0) (nI 0) sz bl ci ma pa en wr (-12) qm (ovl_at 0 N rfl) (N.ov [0] (by decide) rfl) ) rfl rfl (Nat.le_of_ble_eq_true rfl) ⟨Nat.le_of_ble_eq_true rfl, Nat.le_of_ble_eq_true rfl⟩ ⟨Nat.zero_le _, Nat.zero_le _⟩ [0] ⟨rfl, trivial⟩ (os' := [(qm, (o0, cO 8 (mo A (nI 0) (-12) (nI sz) bl (nI ci) (nI ma) pa en wr))), (q_circuitOf, (A 15, cI Y 6 co)), (q_inputs, (A 6, cI Y 6 i1)), (q_gates, (A 7, cI Y 6 g1)), (q_has, (A 24, cZ Y 336 fh)), (q_kind, (A 17, cI Y 6 kn))]) rfl (st' := [.long 0]) rfl ?_
      exact x_lret C B rfl 82 rfl (Nat.zero_le _) (Nat.zero_le _) ⟨by first | contradiction | (simp only [if_neg hc4, if_pos hc5]; done) | (simp only [if_neg hc4, if_pos hc5]; simp only [nlit, nI_add, pk_mul]; done) | (simp only [if_neg hc4, if_pos hc5, nlit, nI_add, pk_mul]; done) | rfl | (simp only [if_neg hc4, if_pos hc5]; rfl) | (simp only [if_neg hc4, if_pos hc5, nlit, nI_add, pk_mul]; rfl), by first | contradiction | (simp only [if_neg hc4, if_pos hc5]; done) | (simp only [if_neg hc4, if_pos hc5]; simp only [nlit, nI_add, pk_mul]; done) | (simp only [if_neg hc4, if_pos hc5, nlit, nI_add, pk_mul]; done) | rfl | (simp only [if_neg hc4, if_pos hc5]; rfl) | (simp only [if_neg hc4, if_pos hc5, nlit, nI_add, pk_mul]; rfl)⟩
    · exact absurd (by omega) hc5
  · exact absurd hc4 hh
set_option maxHeartbeats 4000000 in
set_option maxRecDepth 100000 in
theorem c_X8_place3 (Y : xD) (w : va_W) (o0 : Nat) (A : Nat → Nat) (th : Int32) (su : Int32) (sz : Nat) (bl : Int32) (ci : Nat) (ma : Nat) (pa : Int32) (en : Int32) (wr : Int32) (co : Nat → Int32) (i1 : Nat → Int32) (g1 : Nat → Int32) (j : Nat) (c : Nat) (n : Nat) (g : Nat) (v : Nat) (kd : Nat) (i : Nat) (fh : Nat → Int32) (kn : Nat → Int32) (fn : Nat → Nat) (qm q_circuitOf q_inputs q_gates q_has q_kind q_now : Nat) (e0 : w[qm]? = some (o0, cO 8 (mo A th su (nI sz) bl (nI ci) (nI ma) pa en wr))) (e1 : w[q_circuitOf]? = some (A 15, cI Y 6 co)) (e2 : w[q_inputs]? = some (A 6, cI Y 6 i1)) (e3 : w[q_gates]? = some (A 7, cI Y 6 g1)) (e4 : w[q_has]? = some (A 24, cZ Y 336 fh)) (e5 : w[q_kind]? = some (A 17, cI Y 6 kn)) (e6 : w[q_now]? = some (A 23, cI Y 5376 (iF fn))) (N : xN w.length [qm, q_circuitOf, q_inputs, q_gates, q_has, q_kind, q_now]) (hj : j < ma) (h6 : ma ≤ 6) (hc6 : c < 6) (hn16 : n ≤ 16) (hn1 : 1 ≤ n) (hg40 : g ≤ 40) (hco : co j = nI c) (hin : i1 c = nI n) (hga : g1 c = nI g) (hv : v < n + g) (hkn : kn j = nI kd) (hkd : kd = 3) (hh : ¬ fh (56 * j + v) = 0) (hi : i < 4) : Cf Y mX8_place 2 [.ref o0, .int (nI j), .int (nI v), .int 3, .int (nI i)] w (some (.long (plV fn (16 * (56 * j + v) + 4 * i) 3))) [(qm, (o0, cO 8 (mo A (nI 0) (nI 0) (nI sz) bl (nI ci) (nI ma) pa en wr))), (q_circuitOf, (A 15, cI Y 6 co)), (q_inputs, (A 6, cI Y 6 i1)), (q_gates, (A 7, cI Y 6 g1)), (q_has, (A 24, cZ Y 336 fh)), (q_kind, (A 17, cI Y 6 kn)), (q_now, (A 23, cI Y 5376 (iF fn)))] := by
  refine Ct.intro (T := tX8_place) (by decide) oX8_place (Nat.le_of_ble_eq_true rfl) (fun G C B => ?_)
  refine x_lay [(qm, (o0, cO 8 (mo A th su (nI sz) bl (nI ci) (nI ma) pa en wr))), (q_circuitOf, (A 15, cI Y 6 co)), (q_inputs, (A 6, cI Y 6 i1)), (q_gates, (A 7, cI Y 6 g1)), (q_has, (A 24, cZ Y 336 fh)), (q_kind, (A 17, cI Y 6 kn)), (q_now, (A 23, cI Y 5376 (iF fn)))] (lay_cons e0 (lay_cons e1 (lay_cons e2 (lay_cons e3 (lay_cons e4 (lay_cons e5 (lay_cons e6 lay_nil))))))) ?_
  refine x_run C 0 2 (pc' := 2) (lv' := [(0, .ref o0), (1, .int (nI j)), (2, .int (nI v)), (3, .int 3), (4, .int (nI i))]) (st' := [.int 0, .ref o0]) rfl ?_
  refine x_put C 2 rfl pX8_117 N 0 rfl rfl rfl (Nat.le_of_ble_eq_true rfl) (os' := [(qm, (o0, cO 8 (mo A (nI 0) su (nI sz) bl (nI ci) (nI ma) pa en wr))), (q_circuitOf, (A 15, cI Y 6 co)), (q_inputs, (A 6, cI Y 6 i1)), (q_gates, (A 7, cI Y 6 g1)), (q_has, (A 24, cZ Y 336 fh)), (q_kind, (A 17, cI Y 6 kn)), (q_now, (A 23, cI Y 5376 (iF fn)))]) rfl ?_
  refine x_run C 3 2 (pc' := 7) (lv' := [(0, .ref o0), (1, .int (nI j)), (2, .int (nI v)), (3, .int 3), (4, .int (nI i))]) (st' := [.int 0, .ref o0]) rfl ?_
  refine x_put C 5 rfl pX8_247 N 0 rfl rfl rfl (Nat.le_of_ble_eq_true rfl) (os' := [(qm, (o0, cO 8 (mo A (nI 0) (nI 0) (nI sz) bl (nI ci) (nI ma) pa en wr))), (q_circuitOf, (A 15, cI Y 6 co)), (q_inputs, (A 6, cI Y 6 i1)), (q_gates, (A 7, cI Y 6 g1)), (q_has, (A 24, cZ Y 336 fh)), (q_kind, (A 17, cI Y 6 kn)), (q_now, (A 23, cI Y 5376 (iF fn)))]) rfl ?_
  refine x_run C 6 2 (pc' := 12) (lv' := [(0, .ref o0), (1, .int (nI j)), (2, .int (nI v)), (3, .int 3), (4, .int (nI i))]) (st' := [.int (nI j), .ref o0]) rfl ?_
  refine x_cv C 8 (As := [.int (nI j)]) (rest := []) rfl vX8_230 N 0 rfl rfl (c_X8_isGarbled Y _ o0 A (nI 0) (nI 0) sz bl ci ma pa en wr j qm (ovl_at 0 N rfl) (N.ov [0] (by decide) rfl) (by first | assumption | omega) (by first | assumption | omega)) rfl rfl (Nat.le_of_ble_eq_true rfl) ⟨Nat.le_of_ble_eq_true rfl, Nat.le_of_ble_eq_true rfl⟩ ⟨Nat.zero_le _, Nat.zero_le _⟩ [0] ⟨rfl, trivial⟩ (os' := [(qm, (o0, cO 8 (mo A (nI 0) (nI 0) (nI sz) bl (nI ci) (nI ma) pa en wr))), (q_circuitOf, (A 15, cI Y 6 co)), (q_inputs, (A 6, cI Y 6 i1)), (q_gates, (A 7, cI Y 6 g1)), (q_has, (A 24, cZ Y 336 fh)), (q_kind, (A 17, cI Y 6 kn)), (q_now, (A 23, cI Y 5376 (iF fn)))]) rfl (st' := [.int 1]) rfl ?_
  refine x_st (st' := [.int (nI 1)]) (by simp only [nlit, nI_add, pk_mul]) ?_
  refine x_ifN_eq C 9 (by omega) rfl (tgt := 47) rfl (fun hc1 => absurd hc1 (by omega)) (fun hc1 => ?_)
  refine x_run C 10 4 (pc' := 22) (lv' := [(0, .ref o0), (1, .int (nI j)), (2, .int (nI v)), (3, .int 3), (4, .int (nI i))]) (st' := [.ref o0, .ref o0, .int 0, .int (nI v)]) rfl ?_
  refine x_get C 14 rfl fX8_55 N 0 rfl (v := .ref (A 15)) rfl ?_
  refine x_run C 15 1 (pc' := 26) (lv' := [(0, .ref o0), (1, .int (nI j)), (2, .int (nI v)), (3, .int 3), (4, .int (nI i))]) (st' := [.int (nI j), .ref (A 15), .ref o0, .int 0, .int (nI v)]) rfl ?_
  refine x_ialdN C 16 rfl N 1 rfl (by omega) (by omega) ?_
  refine x_st (st' := [.int (nI c), .ref o0, .int 0, .int (nI v)]) (by rw [hco]) ?_
  refine x_cv C 17 (As := [.int (nI c)]) (rest := [.int 0, .int (nI v)]) rfl vX8_199 N 0 rfl rfl (c_X8_wiresOf Y _ o0 A (nI 0) (nI 0) sz bl ci ma pa en wr i1 g1 c n g qm q_inputs q_gates (ovl_at 0 N rfl) (ovl_at 2 N rfl) (ovl_at 3 N rfl) (N.ov [0, 2, 3] (by decide) rfl) (by first | assumption | omega) (by first | assumption | omega) (by first | assumption | omega)) rfl rfl (Nat.le_of_ble_eq_true rfl) ⟨Nat.le_of_ble_eq_true rfl, Nat.le_of_ble_eq_true rfl⟩ ⟨Nat.zero_le _, Nat.zero_le _⟩ [0, 2, 3] ⟨rfl, rfl, rfl, trivial⟩ (os' := [(qm, (o0, cO 8 (mo A (nI 0) (nI 0) (nI sz) bl (nI ci) (nI ma) pa en wr))), (q_circuitOf, (A 15, cI Y 6 co)), (q_inputs, (A 6, cI Y 6 i1)), (q_gates, (A 7, cI Y 6 g1)), (q_has, (A 24, cZ Y 336 fh)), (q_kind, (A 17, cI Y 6 kn)), (q_now, (A 23, cI Y 5376 (iF fn)))]) rfl (st' := [.int (nI (n + g)), .int 0, .int (nI v)]) rfl ?_
  refine x_run C 18 2 (pc' := 32) (lv' := [(0, .ref o0), (1, .int (nI j)), (2, .int (nI v)), (3, .int 3), (4, .int (nI i))]) (st' := [.int ((nI (n + g)) - 1), .int 0, .int (nI v)]) rfl ?_
  refine x_st (st' := [.int (nI ((n + g) - 1)), .int 0, .int (nI v)]) (by simp only [nlit, nI_add, pk_mul, pk_sub (show 1 ≤ (n + g) by omega)]) ?_
  refine x_st (st' := [.int (nI ((n + g) - 1)), .int (nI 0), .int (nI v)]) (by simp only [nlit, nI_add, pk_mul]) ?_
  refine x_cs C 20 (As := [.int (nI v), .int (nI 0), .int (nI ((n + g) - 1))]) (rest := []) rfl vX8_135 N (c_X8_in Y _ v 0 ((n + g) - 1)    (by first | assumption | omega) (by first | assumption | omega) (by first | assumption | omega)) rfl rfl (Nat.le_of_ble_eq_true rfl) ⟨Nat.le_of_ble_eq_true rfl, Nat.le_of_ble_eq_true rfl⟩ ⟨Nat.zero_le _, Nat.zero_le _⟩ [] trivial (os' := [(qm, (o0, cO 8 (mo A (nI 0) (nI 0) (nI sz) bl (nI ci) (nI ma) pa en wr))), (q_circuitOf, (A 15, cI Y 6 co)), (q_inputs, (A 6, cI Y 6 i1)), (q_gates, (A 7, cI Y 6 g1)), (q_has, (A 24, cZ Y 336 fh)), (q_kind, (A 17, cI Y 6 kn)), (q_now, (A 23, cI Y 5376 (iF fn)))]) rfl (st' := [.int 1]) rfl ?_
  refine x_st (st' := [.int (nI 1)]) (by simp only [nlit, nI_add, pk_mul]) ?_
  refine x_ifN_eq C 21 (by omega) rfl (tgt := 47) rfl (fun hc2 => absurd hc2 (by omega)) (fun hc2 => ?_)
  refine x_run C 22 3 (pc' := 41) (lv' := [(0, .ref o0), (1, .int (nI j)), (2, .int (nI v)), (3, .int 3), (4, .int (nI i))]) (st' := [.int 4, .int 0, .int 3]) rfl ?_
  refine x_st (st' := [.int (nI 4), .int (nI 0), .int (nI 3)]) (by simp only [nlit, nI_add, pk_mul]) ?_
  refine x_cs C 25 (As := [.int (nI 3), .int (nI 0), .int (nI 4)]) (rest := []) rfl vX8_135 N (c_X8_in Y _ 3 0 4    (by first | assumption | omega) (by first | assumption | omega) (by first | assumption | omega)) rfl rfl (Nat.le_of_ble_eq_true rfl) ⟨Nat.le_of_ble_eq_true rfl, Nat.le_of_ble_eq_true rfl⟩ ⟨Nat.zero_le _, Nat.zero_le _⟩ [] trivial (os' := [(qm, (o0, cO 8 (mo A (nI 0) (nI 0) (nI sz) bl (nI ci) (nI ma) pa en wr))), (q_circuitOf, (A 15, cI Y 6 co)), (q_inputs, (A 6, cI Y 6 i1)), (q_gates, (A 7, cI Y 6 g1)), (q_has, (A 24, cZ Y 336 fh)), (q_kind, (A 17, cI Y 6 kn)), (q_now, (A 23, cI Y 5376 (iF fn)))]) rfl (st' := [.int 1]) rfl ?_
  refine x_st (st' := [.int (nI 1)]) (by simp only [nlit, nI_add, pk_mul]) ?_
  refine x_ifN_ne C 26 (by omega) rfl (tgt := 53) rfl (fun hc3 => ?_) (fun hc3 => absurd hc3 (by omega))
  refine x_run C 31 1 (pc' := 54) (lv' := [(0, .ref o0), (1, .int (nI j)), (2, .int (nI v)), (3, .int 3), (4, .int (nI i))]) (st' := [.ref o0]) rfl ?_
  refine x_get C 32 rfl fX8_82 N 0 rfl (v := .ref (A 24)) rfl ?_
  refine x_run C 33 5 (pc' := 63) (lv' := [(0, .ref o0), (1, .int (nI j)), (2, .int (nI v)), (3, .int 3), (4, .int (nI i))]) (st' := [.int ((56 * (nI j)) + (nI v)), .ref (A 24)]) rfl ?_
  refine x_st (st' := [.int (nI ((56 * j) + v)), .ref (A 24)]) (by simp only [nlit, nI_add, pk_mul]) ?_
  refine x_zaldN C 38 rfl N 4 rfl (by omega) (by omega) ?_
  refine x_if_ne C 39 rfl (tgt := 74) rfl (fun hc4 => ?_) (fun hc4 => ?_)
  · refine x_run C 44 2 (pc' := 76) (lv' := [(0, .ref o0), (1, .int (nI j)), (2, .int (nI v)), (3, .int 3), (4, .int (nI i))]) (st' := [.ref o0, .int 3]) rfl ?_
    refine x_get C 46 rfl fX8_61 N 0 rfl (v := .ref (A 17)) rfl ?_
    refine x_run C 47 1 (pc' := 80) (lv' := [(0, .ref o0), (1, .int (nI j)), (2, .int (nI v)), (3, .int 3), (4, .int (nI i))]) (st' := [.int (nI j), .ref (A 17), .int 3]) rfl ?_
    refine x_ialdN C 48 rfl N 5 rfl (by omega) (by omega) ?_
    refine x_st (st' := [.int (nI kd), .int 3]) (by rw [hkn]) ?_
    refine x_st (st' := [.int (nI kd), .int (nI 3)]) (by simp only [nlit, nI_add, pk_mul]) ?_
    refine x_icmpN_eq C 49 (by omega) (by omega) rfl (tgt := 91) rfl (fun hc5 => ?_) (fun hc5 => ?_)
    · refine x_run C 54 1 (pc' := 92) (lv' := [(0, .ref o0), (1, .int (nI j)), (2, .int (nI v)), (3, .int 3), (4, .int (nI i))]) (st' := [.int 3]) rfl ?_
      refine x_st (st' := [.int (nI 3)]) (by simp only [nlit, nI_add, pk_mul]) ?_
      refine x_ifN_ne C 55 (by omega) rfl (tgt := 99) rfl (fun hc6 => ?_) (fun hc6 => absurd hc6 (by omega))
      refine x_run C 58 2 (pc' := 101) (lv' := [(0, .ref o0), (1, .int (nI j)), (2, .int (nI v)), (3, .int 3), (4, .int (nI i))]) (st' := [.int 3, .int 3]) rfl ?_
      refine x_st (st' := [.int (nI 3), .int 3]) (by simp only [nlit, nI_add, pk_mul]) ?_
      refine x_st (st' := [.int (nI 3), .int (nI 3)]) (by simp only [nlit, nI_add, pk_mul]) ?_
      refine x_icmpN_ge C 60 (by omega) (by omega) rfl (tgt := 108) rfl (fun hc7 => ?_) (fun hc7 => absurd hc7 (by omega))
      refine x_run C 63 2 (pc' := 110) (lv' := [(0, .ref o0), (1, .int (nI j)), (2, .int (nI v)), (3, .int 3), (4, .int (nI i))]) (st' := [.int 3, .int 3]) rfl ?_
      refine x_st (st' := [.int (nI 3), .int 3]) (by simp only [nlit, nI_add, pk_mul]) ?_
      refine x_st (st' := [.int (nI 3), .int (nI 3)]) (by simp only [nlit, nI_add, pk_mul]) ?_
      refine x_icmpN_ne C 65 (by omega) (by omega) rfl (tgt := 117) rfl (fun hc8 => absurd hc8 (by omega)) (fun hc8 => ?_)
      refine x_run C 66 2 (pc' := 119) (lv' := [(0, .ref o0), (1, .int (nI j)), (2, .int (nI v)), (3, .int 3), (4, .int (nI i))]) (st' := [.int 4]) rfl ?_
      refine x_run C 69 8 (pc' := 131) (lv' := [(5, .int 4), (0, .ref o0), (1, .int (nI j)), (2, .int (nI v)), (3, .int 3), (4, .int (nI i))]) (st' := [.int ((16 / 4) - 1), .int 0, .int (nI i)]) rfl ?_
      refine x_st (st' := [.int (nI 3), .int (nI 0), .int (nI i)]) (by simp only [nlit, nI_add, pk_mul, pk_div (show 16 < 2 ^ 31 by omega) (show 0 < 4 by decide) (show 4 < 2 ^ 31 by decide), pk_sub (show 1 ≤ 4 by omega)]) ?_
      refine x_cs C 77 (As := [.int (nI i), .int (nI 0), .int (nI 3)]) (rest := []) rfl vX8_135 N (c_X8_in Y _ i 0 3    (by first | assumption | omega) (by first | assumption | omega) (by first | assumption | omega)) rfl rfl (Nat.le_of_ble_eq_true rfl) ⟨Nat.le_of_ble_eq_true rfl, Nat.le_of_ble_eq_true rfl⟩ ⟨Nat.zero_le _, Nat.zero_le _⟩ [] trivial (os' := [(qm, (o0, cO 8 (mo A (nI 0) (nI 0) (nI sz) bl (nI ci) (nI ma) pa en wr))), (q_circuitOf, (A 15, cI Y 6 co)), (q_inputs, (A 6, cI Y 6 i1)), (q_gates, (A 7, cI Y 6 g1)), (q_has, (A 24, cZ Y 336 fh)), (q_kind, (A 17, cI Y 6 kn)), (q_now, (A 23, cI Y 5376 (iF fn)))]) rfl (st' := [.int 1]) rfl ?_
      refine x_st (st' := [.int (nI 1)]) (by simp only [nlit, nI_add, pk_mul]) ?_
      refine x_ifN_ne C 78 (by omega) rfl (tgt := 144) rfl (fun hc9 => ?_) (fun hc9 => absurd hc9 (by omega))
      refine x_run C 83 4 (pc' := 150) (lv' := [(8, .int 0), (6, .long 0), (5, .int 4), (0, .ref o0), (1, .int (nI j)), (2, .int (nI v)), (3, .int 3), (4, .int (nI i))]) (st' := []) rfl ?_
      have L150 : ∀ q : Nat, 0 ≤ q → q ≤ 4 → X G Y 0 0 150 [(0, .ref o0), (1, .int (nI j)), (2, .int (nI v)), (3, .int 3), (4, .int (nI i)), (5, .int 4), (6, .long (w8 fn (16 * (56 * j + v) + 4 * i) q)), (8, .int (nI q))] [] (ovl w [(qm, (o0, cO 8 (mo A (nI 0) (nI 0) (nI sz) bl (nI ci) (nI ma) pa en wr))), (q_circuitOf, (A 15, cI Y 6 co)), (q_inputs, (A 6, cI Y 6 i1)), (q_gates, (A 7, cI Y 6 g1)), (q_has, (A 24, cZ Y 336 fh)), (q_kind, (A 17, cI Y 6 kn)), (q_now, (A 23, cI Y 5376 (iF fn)))]) := by
        intro q lo150 hi150
        revert lo150
        refine x_up (fun q => 0 ≤ q → X G Y 0 0 150 [(0, .ref o0), (1, .int (nI j)), (2, .int (nI v)), (3, .int 3), (4, .int (nI i)), (5, .int 4), (6, .long (w8 fn (16 * (56 * j + v) + 4 * i) q)), (8, .int (nI q))] [] (ovl w [(qm, (o0, cO 8 (mo A (nI 0) (nI 0) (nI sz) bl (nI ci) (nI ma) pa en wr))), (q_circuitOf, (A 15, cI Y 6 co)), (q_inputs, (A 6, cI Y 6 i1)), (q_gates, (A 7, cI Y 6 g1)), (q_has, (A 24, cZ Y 336 fh)), (q_kind, (A 17, cI Y 6 kn)), (q_now, (A 23, cI Y 5376 (iF fn)))])) 4 ?_ ?_ q hi150
        · intro lo150
          refine x_run C 87 2 (pc' := 154) (lv' := [(0, .ref o0), (1, .int (nI j)), (2, .int (nI v)), (3, .int 3), (4, .int (nI i)), (5, .int 4), (6, .long (w8 fn (16 * (56 * j + v) + 4 * i) 4)), (8, .int (nI 4))]) (st' := [.int 4, .int (nI 4)]) rfl ?_
          refine x_st (st' := [.int (nI 4), .int (nI 4)]) (by simp only [nlit, nI_add, pk_mul]) ?_
          refine x_icmpN_ge C 89 (by omega) (by omega) rfl (tgt := 191) rfl (fun hc10 => ?_) (fun hc10 => ?_)
          · refine x_run C 110 1 (pc' := 192) (lv' := [(0, .ref o0), (1, .int (nI j)), (2, .int (nI v)), (3, .int 3), (4, .int (nI i)), (5, .int 4), (6, .long (w8 fn (16 * (56 * j + v) + 4 * i) 4)), (8, .int (nI 4))]) (st' := [.int 3]) rfl ?_
            refine x_st (st' := [.int (nI 3)]) (by simp only [nlit, nI_add, pk_mul]) ?_
            refine x_ifN_ne C 111 (by omega) rfl (tgt := 203) rfl (fun hc11 => ?_) (fun hc11 => absurd hc11 (by omega))
            refine x_run C 117 2 (pc' := 205) (lv' := [(0, .ref o0), (1, .int (nI j)), (2, .int (nI v)), (3, .int 3), (4, .int (nI i)), (5, .int 4), (6, .long (w8 fn (16 * (56 * j + v) + 4 * i) 4)), (8, .int (nI 4))]) (st' := [.int 1, .int 3]) rfl ?_
            refine x_st (st' := [.int (nI 1), .int 3]) (by simp only [nlit, nI_add, pk_mul]) ?_
            refine x_st (st' := [.int (nI 1), .int (nI 3)]) (by simp only [nlit, nI_add, pk_mul]) ?_
            refine x_icmpN_ne C 119 (by omega) (by omega) rfl (tgt := 216) rfl (fun hc12 => ?_) (fun hc12 => absurd hc12 (by omega))
            refine x_run C 125 2 (pc' := 218) (lv' := [(0, .ref o0), (1, .int (nI j)), (2, .int (nI v)), (3, .int 3), (4, .int (nI i)), (5, .int 4), (6, .long (w8 fn (16 * (56 * j + v) + 4 * i) 4)), (8, .int (nI 4))]) (st' := [.int 3, .int 3]) rfl ?_
            refine x_st (st' := [.int (nI 3), .int 3]) (by simp only [nlit, nI_add, pk_mul]) ?_
            refine x_st (st' := [.int (nI 3), .int (nI 3)]) (by simp only [nlit, nI_add, pk_mul]) ?_
            refine x_icmpN_ne C 127 (by omega) (by omega) rfl (tgt := 228) rfl (fun hc13 => absurd hc13 (by omega)) (fun hc13 => ?_)
            refine x_run C 128 4 (pc' := 230) (lv' := [(0, .ref o0), (1, .int (nI j)), (2, .int (nI v)), (3, .int 3), (4, .int (nI i)), (5, .int 4), (6, .long (w8 fn (16 * (56 * j + v) + 4 * i) 4)), (8, .int (nI 4))]) (st' := [.long (((w8 fn (16 * (56 * j + v) + 4 * i) 4).toInt32).toInt64)]) rfl ?_
            exact x_lret C B rfl 133 rfl (Nat.zero_le _) (Nat.zero_le _) ⟨by rfl, rfl⟩
          · exact absurd hc10 (by omega)
        · intro q hi150 ih150 lo150
          refine x_run C 87 2 (pc' := 154) (lv' := [(0, .ref o0), (1, .int (nI j)), (2, .int (nI v)), (3, .int 3), (4, .int (nI i)), (5, .int 4), (6, .long (w8 fn (16 * (56 * j + v) + 4 * i) q)), (8, .int (nI q))]) (st' := [.int 4, .int (nI q)]) rfl ?_
          refine x_st (st' := [.int (nI 4), .int (nI q)]) (by simp only [nlit, nI_add, pk_mul]) ?_
          refine x_icmpN_ge C 89 (by omega) (by omega) rfl (tgt := 191) rfl (fun hc14 => ?_) (fun hc14 => ?_)
          · exact absurd hc14 (by omega)
          · refine x_run C 90 4 (pc' := 163) (lv' := [(0, .ref o0), (1, .int (nI j)), (2, .int (nI v)), (3, .int 3), (4, .int (nI i)), (5, .int 4), (6, .long (w8 fn (16 * (56 * j + v) + 4 * i) q)), (8, .int (nI q))]) (st' := [.ref o0, .long (jlshl (w8 fn (16 * (56 * j + v) + 4 * i) q) 8)]) rfl ?_
            refine x_get C 94 rfl fX8_79 N 0 rfl (v := .ref (A 23)) rfl ?_
            refine x_run C 95 2 (pc' := 168) (lv' := [(0, .ref o0), (1, .int (nI j)), (2, .int (nI v)), (3, .int 3), (4, .int (nI i)), (5, .int 4), (6, .long (w8 fn (16 * (56 * j + v) + 4 * i) q)), (8, .int (nI q))]) (st' := [.int (nI v), .int (nI j), .ref (A 23), .long (jlshl (w8 fn (16 * (56 * j + v) + 4 * i) q) 8)]) rfl ?_
            refine x_cs C 97 (As := [.int (nI j), .int (nI v)]) (rest := [.ref (A 23), .long (jlshl (w8 fn (16 * (56 * j + v) + 4 * i) q) 8)]) rfl vX8_210 N (c_X8_placeOf Y _ j v    ) rfl rfl (Nat.le_of_ble_eq_true rfl) ⟨Nat.le_of_ble_eq_true rfl, Nat.le_of_ble_eq_true rfl⟩ ⟨Nat.zero_le _, Nat.zero_le _⟩ [] trivial (os' := [(qm, (o0, cO 8 (mo A (nI 0) (nI 0) (nI sz) bl (nI ci) (nI ma) pa en wr))), (q_circuitOf, (A 15, cI Y 6 co)), (q_inputs, (A 6, cI Y 6 i1)), (q_gates, (A 7, cI Y 6 g1)), (q_has, (A 24, cZ Y 336 fh)), (q_kind, (A 17, cI Y 6 kn)), (q_now, (A 23, cI Y 5376 (iF fn)))]) rfl (st' := [.int (nI (16 * (56 * j + v))), .ref (A 23), .long (jlshl (w8 fn (16 * (56 * j + v) + 4 * i) q) 8)]) rfl ?_
            refine x_run C 98 6 (pc' := 180) (lv' := [(0, .ref o0), (1, .int (nI j)), (2, .int (nI v)), (3, .int 3), (4, .int (nI i)), (5, .int 4), (6, .long (w8 fn (16 * (56 * j + v) + 4 * i) q)), (8, .int (nI q))]) (st' := [.int (((nI (16 * (56 * j + v))) + (4 * (nI i))) + (nI q)), .ref (A 23), .long (jlshl (w8 fn (16 * (56 * j + v) + 4 * i) q) 8)]) rfl ?_
            refine x_st (st' := [.int (nI (((16 * (56 * j + v)) + (4 * i)) + q)), .ref (A 23), .long (jlshl (w8 fn (16 * (56 * j + v) + 4 * i) q) 8)]) (by simp only [nlit, nI_add, pk_mul]) ?_
            refine x_ialdN C 104 rfl N 6 rfl (by omega) (by omega) ?_
            refine x_st (st' := [.int (nI (fn (((16 * (56 * j + v)) + (4 * i)) + q))), .long (jlshl (w8 fn (16 * (56 * j + v) + 4 * i) q) 8)]) rfl ?_
            refine x_run C 105 5 (pc' := 150) (lv' := [(8, .int ((nI q) + 1)), (6, .long ((jlshl (w8 fn (16 * (56 * j + v) + 4 * i) q) 8) ||| ((nI (fn (((16 * (56 * j + v)) + (4 * i)) + q))).toInt64))), (0, .ref o0), (1, .int (nI j)), (2, .int (nI v)), (3, .int 3), (4, .int (nI i)), (5, .int 4)]) (st' := []) rfl ?_
            refine x_sub (lv' := [(0, .ref o0), (1, .int (nI j)), (2, .int (nI v)), (3, .int 3), (4, .int (nI i)), (5, .int 4), (6, .long ((jlshl (w8 fn (16 * (56 * j + v) + 4 * i) q) 8) ||| ((nI (fn (((16 * (56 * j + v)) + (4 * i)) + q))).toInt64))), (8, .int ((nI q) + 1))]) [2, 3, 4, 5, 6, 7, 1, 0] rfl ?_
            refine x_loc (lv' := [(0, .ref o0), (1, .int (nI j)), (2, .int (nI v)), (3, .int 3), (4, .int (nI i)), (5, .int 4), (6, .long (w8 fn (16 * (56 * j + v) + 4 * i) (q + 1))), (8, .int (nI (q + 1)))]) (by simp only [w8, nlit, nI_add]) ?_
            exact ih150 (by omega)
      refine x_sub (lv' := [(0, .ref o0), (1, .int (nI j)), (2, .int (nI v)), (3, .int 3), (4, .int (nI i)), (5, .int 4), (6, .long 0), (8, .int 0)]) [3, 4, 5, 6, 7, 2, 1, 0] rfl ?_
      refine x_loc (lv' := [(0, .ref o0), (1, .int (nI j)), (2, .int (nI v)), (3, .int 3), (4, .int (nI i)), (5, .int 4), (6, .long (w8 fn (16 * (56 * j + v) + 4 * i) 0)), (8, .int (nI 0))]) (by rfl) ?_
      exact L150 0 (Nat.le_refl _) (by omega)
    · exact absurd (by omega) hc5
  · exact absurd hc4 hh
set_option maxHeartbeats 4000000 in
set_option maxRecDepth 100000 in
theorem c_X8_placeX4 (Y : xD) (w : va_W) (o0 : Nat) (A : Nat → Nat) (th : Int32) (su : Int32) (sz : Nat) (bl : Int32) (ci : Nat) (ma : Nat) (pa : Int32) (en : Int32) (wr : Int32) (co : Nat → Int32) (i1 : Nat → Int32) (g1 : Nat → Int32) (j : Nat) (c : Nat) (n : Nat) (g : Nat) (v : Nat) (kd : Nat) (i : Int32) (fh : Nat → Int32) (kn : Nat → Int32) (qm q_circuitOf q_inputs q_gates q_has q_kind : Nat) (e0 : w[qm]? = some (o0, cO 8 (mo A th su (nI sz) bl (nI ci) (nI ma) pa en wr))) (e1 : w[q_circuitOf]? = some (A 15, cI Y 6 co)) (e2 : w[q_inputs]? = some (A 6, cI Y 6 i1)) (e3 : w[q_gates]? = some (A 7, cI Y 6 g1)) (e4 : w[q_has]? = some (A 24, cZ Y 336 fh)) (e5 : w[q_kind]? = some (A 17, cI Y 6 kn)) (N : xN w.length [qm, q_circuitOf, q_inputs, q_gates, q_has, q_kind]) (hj : j < ma) (h6 : ma ≤ 6) (hc6 : c < 6) (hn16 : n ≤ 16) (hn1 : 1 ≤ n) (hg40 : g ≤ 40) (hco : co j = nI c) (hin : i1 c = nI n) (hga : g1 c = nI g) (hv : v < n + g) (hkn : kn j = nI kd) (hkd : kd = 4) (hh : ¬ fh (56 * j + v) = 0) (hi : i < 0 ∨ 2 ≤ i) : Cf Y mX8_place 2 [.ref o0, .int (nI j), .int (nI v), .int 4, .int i] w (some (.long 0)) [(qm, (o0, cO 8 (mo A (nI 0) (-12) (nI sz) bl (nI ci) (nI ma) pa en wr))), (q_circuitOf, (A 15, cI Y 6 co)), (q_inputs, (A 6, cI Y 6 i1)), (q_gates, (A 7, cI Y 6 g1)), (q_has, (A 24, cZ Y 336 fh)), (q_kind, (A 17, cI Y 6 kn))] := by
  refine Ct.intro (T := tX8_place) (by decide) oX8_place (Nat.le_of_ble_eq_true rfl) (fun G C B => ?_)
  refine x_lay [(qm, (o0, cO 8 (mo A th su (nI sz) bl (nI ci) (nI ma) pa en wr))), (q_circuitOf, (A 15, cI Y 6 co)), (q_inputs, (A 6, cI Y 6 i1)), (q_gates, (A 7, cI Y 6 g1)), (q_has, (A 24, cZ Y 336 fh)), (q_kind, (A 17, cI Y 6 kn))] (lay_cons e0 (lay_cons e1 (lay_cons e2 (lay_cons e3 (lay_cons e4 (lay_cons e5 lay_nil)))))) ?_
  refine x_run C 0 2 (pc' := 2) (lv' := [(0, .ref o0), (1, .int (nI j)), (2, .int (nI v)), (3, .int 4), (4, .int i)]) (st' := [.int 0, .ref o0]) rfl ?_
  refine x_put C 2 rfl pX8_117 N 0 rfl rfl rfl (Nat.le_of_ble_eq_true rfl) (os' := [(qm, (o0, cO 8 (mo A (nI 0) su (nI sz) bl (nI ci) (nI ma) pa en wr))), (q_circuitOf, (A 15, cI Y 6 co)), (q_inputs, (A 6, cI Y 6 i1)), (q_gates, (A 7, cI Y 6 g1)), (q_has, (A 24, cZ Y 336 fh)), (q_kind, (A 17, cI Y 6 kn))]) rfl ?_
  refine x_run C 3 2 (pc' := 7) (lv' := [(0, .ref o0), (1, .int (nI j)), (2, .int (nI v)), (3, .int 4), (4, .int i)]) (st' := [.int 0, .ref o0]) rfl ?_
  refine x_put C 5 rfl pX8_247 N 0 rfl rfl rfl (Nat.le_of_ble_eq_true rfl) (os' := [(qm, (o0, cO 8 (mo A (nI 0) (nI 0) (nI sz) bl (nI ci) (nI ma) pa en wr))), (q_circuitOf, (A 15, cI Y 6 co)), (q_inputs, (A 6, cI Y 6 i1)), (q_gates, (A 7, cI Y 6 g1)), (q_has, (A 24, cZ Y 336 fh)), (q_kind, (A 17, cI Y 6 kn))]) rfl ?_
  refine x_run C 6 2 (pc' := 12) (lv' := [(0, .ref o0), (1, .int (nI j)), (2, .int (nI v)), (3, .int 4), (4, .int i)]) (st' := [.int (nI j), .ref o0]) rfl ?_
  refine x_cv C 8 (As := [.int (nI j)]) (rest := []) rfl vX8_230 N 0 rfl rfl (c_X8_isGarbled Y _ o0 A (nI 0) (nI 0) sz bl ci ma pa en wr j qm (ovl_at 0 N rfl) (N.ov [0] (by decide) rfl) (by first | assumption | omega) (by first | assumption | omega)) rfl rfl (Nat.le_of_ble_eq_true rfl) ⟨Nat.le_of_ble_eq_true rfl, Nat.le_of_ble_eq_true rfl⟩ ⟨Nat.zero_le _, Nat.zero_le _⟩ [0] ⟨rfl, trivial⟩ (os' := [(qm, (o0, cO 8 (mo A (nI 0) (nI 0) (nI sz) bl (nI ci) (nI ma) pa en wr))), (q_circuitOf, (A 15, cI Y 6 co)), (q_inputs, (A 6, cI Y 6 i1)), (q_gates, (A 7, cI Y 6 g1)), (q_has, (A 24, cZ Y 336 fh)), (q_kind, (A 17, cI Y 6 kn))]) rfl (st' := [.int 1]) rfl ?_
  refine x_st (st' := [.int (nI 1)]) (by simp only [nlit, nI_add, pk_mul]) ?_
  refine x_ifN_eq C 9 (by omega) rfl (tgt := 47) rfl (fun hc1 => absurd hc1 (by omega)) (fun hc1 => ?_)
  refine x_run C 10 4 (pc' := 22) (lv' := [(0, .ref o0), (1, .int (nI j)), (2, .int (nI v)), (3, .int 4), (4, .int i)]) (st' := [.ref o0, .ref o0, .int 0, .int (nI v)]) rfl ?_
  refine x_get C 14 rfl fX8_55 N 0 rfl (v := .ref (A 15)) rfl ?_
  refine x_run C 15 1 (pc' := 26) (lv' := [(0, .ref o0), (1, .int (nI j)), (2, .int (nI v)), (3, .int 4), (4, .int i)]) (st' := [.int (nI j), .ref (A 15), .ref o0, .int 0, .int (nI v)]) rfl ?_
  refine x_ialdN C 16 rfl N 1 rfl (by omega) (by omega) ?_
  refine x_st (st' := [.int (nI c), .ref o0, .int 0, .int (nI v)]) (by rw [hco]) ?_
  refine x_cv C 17 (As := [.int (nI c)]) (rest := [.int 0, .int (nI v)]) rfl vX8_199 N 0 rfl rfl (c_X8_wiresOf Y _ o0 A (nI 0) (nI 0) sz bl ci ma pa en wr i1 g1 c n g qm q_inputs q_gates (ovl_at 0 N rfl) (ovl_at 2 N rfl) (ovl_at 3 N rfl) (N.ov [0, 2, 3] (by decide) rfl) (by first | assumption | omega) (by first | assumption | omega) (by first | assumption | omega)) rfl rfl (Nat.le_of_ble_eq_true rfl) ⟨Nat.le_of_ble_eq_true rfl, Nat.le_of_ble_eq_true rfl⟩ ⟨Nat.zero_le _, Nat.zero_le _⟩ [0, 2, 3] ⟨rfl, rfl, rfl, trivial⟩ (os' := [(qm, (o0, cO 8 (mo A (nI 0) (nI 0) (nI sz) bl (nI ci) (nI ma) pa en wr))), (q_circuitOf, (A 15, cI Y 6 co)), (q_inputs, (A 6, cI Y 6 i1)), (q_gates, (A 7, cI Y 6 g1)), (q_has, (A 24, cZ Y 336 fh)), (q_kind, (A 17, cI Y 6 kn))]) rfl (st' := [.int (nI (n + g)), .int 0, .int (nI v)]) rfl ?_
  refine x_run C 18 2 (pc' := 32) (lv' := [(0, .ref o0), (1, .int (nI j)), (2, .int (nI v)), (3, .int 4), (4, .int i)]) (st' := [.int ((nI (n + g)) - 1), .int 0, .int (nI v)]) rfl ?_
  refine x_st (st' := [.int (nI ((n + g) - 1)), .int 0, .int (nI v)]) (by simp only [nlit, nI_add, pk_mul, pk_sub (show 1 ≤ (n + g) by omega)]) ?_
  refine x_st (st' := [.int (nI ((n + g) - 1)), .int (nI 0), .int (nI v)]) (by simp only [nlit, nI_add, pk_mul]) ?_
  refine x_cs C 20 (As := [.int (nI v), .int (nI 0), .int (nI ((n + g) - 1))]) (rest := []) rfl vX8_135 N (c_X8_in Y _ v 0 ((n + g) - 1)    (by first | assumption | omega) (by first | assumption | omega) (by first | assumption | omega)) rfl rfl (Nat.le_of_ble_eq_true rfl) ⟨Nat.le_of_ble_eq_true rfl, Nat.le_of_ble_eq_true rfl⟩ ⟨Nat.zero_le _, Nat.zero_le _⟩ [] trivial (os' := [(qm, (o0, cO 8 (mo A (nI 0) (nI 0) (nI sz) bl (nI ci) (nI ma) pa en wr))), (q_circuitOf, (A 15, cI Y 6 co)), (q_inputs, (A 6, cI Y 6 i1)), (q_gates, (A 7, cI Y 6 g1)), (q_has, (A 24, cZ Y 336 fh)), (q_kind, (A 17, cI Y 6 kn))]) rfl (st' := [.int 1]) rfl ?_
  refine x_st (st' := [.int (nI 1)]) (by simp only [nlit, nI_add, pk_mul]) ?_
  refine x_ifN_eq C 21 (by omega) rfl (tgt := 47) rfl (fun hc2 => absurd hc2 (by omega)) (fun hc2 => ?_)
  refine x_run C 22 3 (pc' := 41) (lv' := [(0, .ref o0), (1, .int (nI j)), (2, .int (nI v)), (3, .int 4), (4, .int i)]) (st' := [.int 4, .int 0, .int 4]) rfl ?_
  refine x_st (st' := [.int (nI 4), .int (nI 0), .int (nI 4)]) (by simp only [nlit, nI_add, pk_mul]) ?_
  refine x_cs C 25 (As := [.int (nI 4), .int (nI 0), .int (nI 4)]) (rest := []) rfl vX8_135 N (c_X8_in Y _ 4 0 4    (by first | assumption | omega) (by first | assumption | omega) (by first | assumption | omega)) rfl rfl (Nat.le_of_ble_eq_true rfl) ⟨Nat.le_of_ble_eq_true rfl, Nat.le_of_ble_eq_true rfl⟩ ⟨Nat.zero_le _, Nat.zero_le _⟩ [] trivial (os' := [(qm, (o0, cO 8 (mo A (nI 0) (nI 0) (nI sz) bl (nI ci) (nI ma) pa en wr))), (q_circuitOf, (A 15, cI Y 6 co)), (q_inputs, (A 6, cI Y 6 i1)), (q_gates, (A 7, cI Y 6 g1)), (q_has, (A 24, cZ Y 336 fh)), (q_kind, (A 17, cI Y 6 kn))]) rfl (st' := [.int 1]) rfl ?_
  refine x_st (st' := [.int (nI 1)]) (by simp only [nlit, nI_add, pk_mul]) ?_
  refine x_ifN_ne C 26 (by omega) rfl (tgt := 53) rfl (fun hc3 => ?_) (fun hc3 => absurd hc3 (by omega))
  refine x_run C 31 1 (pc' := 54) (lv' := [(0, .ref o0), (1, .int (nI j)), (2, .int (nI v)), (3, .int 4), (4, .int i)]) (st' := [.ref o0]) rfl ?_
  refine x_get C 32 rfl fX8_82 N 0 rfl (v := .ref (A 24)) rfl ?_
  refine x_run C 33 5 (pc' := 63) (lv' := [(0, .ref o0), (1, .int (nI j)), (2, .int (nI v)), (3, .int 4), (4, .int i)]) (st' := [.int ((56 * (nI j)) + (nI v)), .ref (A 24)]) rfl ?_
  refine x_st (st' := [.int (nI ((56 * j) + v)), .ref (A 24)]) (by simp only [nlit, nI_add, pk_mul]) ?_
  refine x_zaldN C 38 rfl N 4 rfl (by omega) (by omega) ?_
  refine x_if_ne C 39 rfl (tgt := 74) rfl (fun hc4 => ?_) (fun hc4 => ?_)
  · refine x_run C 44 2 (pc' := 76) (lv' := [(0, .ref o0), (1, .int (nI j)), (2, .int (nI v)), (3, .int 4), (4, .int i)]) (st' := [.ref o0, .int 4]) rfl ?_
    refine x_get C 46 rfl fX8_61 N 0 rfl (v := .ref (A 17)) rfl ?_
    refine x_run C 47 1 (pc' := 80) (lv' := [(0, .ref o0), (1, .int (nI j)), (2, .int (nI v)), (3, .int 4), (4, .int i)]) (st' := [.int (nI j), .ref (A 17), .int 4]) rfl ?_
    refine x_ialdN C 48 rfl N 5 rfl (by omega) (by omega) ?_
    refine x_st (st' := [.int (nI kd), .int 4]) (by rw [hkn]) ?_
    refine x_st (st' := [.int (nI kd), .int (nI 4)]) (by simp only [nlit, nI_add, pk_mul]) ?_
    refine x_icmpN_eq C 49 (by omega) (by omega) rfl (tgt := 91) rfl (fun hc5 => ?_) (fun hc5 => ?_)
    · refine x_run C 54 1 (pc' := 92) (lv' := [(0, .ref o0), (1, .int (nI j)), (2, .int (nI v)), (3, .int 4), (4, .int i)]) (st' := [.int 4]) rfl ?_
      refine x_st (st' := [.int (nI 4)]) (by simp only [nlit, nI_add, pk_mul]) ?_
      refine x_ifN_ne C 55 (by omega) rfl (tgt := 99) rfl (fun hc6 => ?_) (fun hc6 => absurd hc6 (by omega))
      refine x_run C 58 2 (pc' := 101) (lv' := [(0, .ref o0), (1, .int (nI j)), (2, .int (nI v)), (3, .int 4), (4, .int i)]) (st' := [.int 3, .int 4]) rfl ?_
      refine x_st (st' := [.int (nI 3), .int 4]) (by simp only [nlit, nI_add, pk_mul]) ?_
      refine x_st (st' := [.int (nI 3), .int (nI 4)]) (by simp only [nlit, nI_add, pk_mul]) ?_
      refine x_icmpN_ge C 60 (by omega) (by omega) rfl (tgt := 108) rfl (fun hc7 => ?_) (fun hc7 => absurd hc7 (by omega))
      refine x_run C 63 2 (pc' := 110) (lv' := [(0, .ref o0), (1, .int (nI j)), (2, .int (nI v)), (3, .int 4), (4, .int i)]) (st' := [.int 3, .int 4]) rfl ?_
      refine x_st (st' := [.int (nI 3), .int 4]) (by simp only [nlit, nI_add, pk_mul]) ?_
      refine x_st (st' := [.int (nI 3), .int (nI 4)]) (by simp only [nlit, nI_add, pk_mul]) ?_
      refine x_icmpN_ne C 65 (by omega) (by omega) rfl (tgt := 117) rfl (fun hc8 => ?_) (fun hc8 => absurd hc8 (by omega))
      refine x_run C 68 9 (pc' := 131) (lv' := [(5, .int 8), (0, .ref o0), (1, .int (nI j)), (2, .int (nI v)), (3, .int 4), (4, .int i)]) (st' := [.int ((16 / 8) - 1), .int 0, .int i]) rfl ?_
      refine x_cs C 77 (As := [.int i, .int 0, .int ((16 / 8) - 1)]) (rest := []) rfl vX8_135 N (c_X8_inF Y _ i 0 ((16 / 8) - 1)    (hi.imp id (fun h => Int32.lt_of_lt_of_le (by decide) h))) rfl rfl (Nat.le_of_ble_eq_true rfl) ⟨Nat.le_of_ble_eq_true rfl, Nat.le_of_ble_eq_true rfl⟩ ⟨Nat.zero_le _, Nat.zero_le _⟩ [] trivial (os' := [(qm, (o0, cO 8 (mo A (nI 0) (nI 0) (nI sz) bl (nI ci) (nI ma) pa en wr))), (q_circuitOf, (A 15, cI Y 6 co)), (q_inputs, (A 6, cI Y 6 i1)), (q_gates, (A 7, cI Y 6 g1)), (q_has, (A 24, cZ Y 336 fh)), (q_kind, (A 17, cI Y 6 kn))]) rfl (st' := [.int 0]) rfl ?_
      refine x_st (st' := [.int (nI 0)]) (by simp only [nlit, nI_add, pk_mul]) ?_
      refine x_ifN_ne C 78 (by omega) rfl (tgt := 144) rfl (fun hc9 => absurd hc9 (by omega)) (fun hc9 => ?_)
      refine x_run C 79 2 (pc' := 140) (lv' := [(5, .int 8), (0, .ref o0), (1, .int (nI j)), (2, .int (nI v)), (3, .int 4), (4, .int i)]) (st' := [.int (-12), .ref o0]) rfl ?_
      refine x_cv C 81 (As := [.int (-12)]) (rest := []) rfl vX8_250 N 0 rfl rfl (c_X8_no Y _ o0 A (nI 0) (nI 0) sz bl ci ma pa en wr (-12) qm (ovl_at 0 N rfl) (N.ov [0] (by decide) rfl) ) rfl rfl (Nat.le_of_ble_eq_true rfl) ⟨Nat.le_of_ble_eq_true rfl, Nat.le_of_ble_eq_true rfl⟩ ⟨Nat.zero_le _, Nat.zero_le _⟩ [0] ⟨rfl, trivial⟩ (os' := [(qm, (o0, cO 8 (mo A (nI 0) (-12) (nI sz) bl (nI ci) (nI ma) pa en wr))), (q_circuitOf, (A 15, cI Y 6 co)), (q_inputs, (A 6, cI Y 6 i1)), (q_gates, (A 7, cI Y 6 g1)), (q_has, (A 24, cZ Y 336 fh)), (q_kind, (A 17, cI Y 6 kn))]) rfl (st' := [.long 0]) rfl ?_
      exact x_lret C B rfl 82 rfl (Nat.zero_le _) (Nat.zero_le _) ⟨by first | contradiction | (simp only [if_neg hc4, if_pos hc5]; done) | (simp only [if_neg hc4, if_pos hc5]; simp only [nlit, nI_add, pk_mul]; done) | (simp only [if_neg hc4, if_pos hc5, nlit, nI_add, pk_mul]; done) | rfl | (simp only [if_neg hc4, if_pos hc5]; rfl) | (simp only [if_neg hc4, if_pos hc5, nlit, nI_add, pk_mul]; rfl), by first | contradiction | (simp only [if_neg hc4, if_pos hc5]; done) | (simp only [if_neg hc4, if_pos hc5]; simp only [nlit, nI_add, pk_mul]; done) | (simp only [if_neg hc4, if_pos hc5, nlit, nI_add, pk_mul]; done) | rfl | (simp only [if_neg hc4, if_pos hc5]; rfl) | (simp only [if_neg hc4, if_pos hc5, nlit, nI_add, pk_mul]; rfl)⟩
    · exact absurd (by omega) hc5
  · exact absurd hc4 hh
set_option maxHeartbeats 4000000 in
set_option maxRecDepth 100000 in
theorem c_X8_place4 (Y : xD) (w : va_W) (o0 : Nat) (A : Nat → Nat) (th : Int32) (su : Int32) (sz : Nat) (bl : Int32) (ci : Nat) (ma : Nat) (pa : Int32) (en : Int32) (wr : Int32) (co : Nat → Int32) (i1 : Nat → Int32) (g1 : Nat → Int32) (j : Nat) (c : Nat) (n : Nat) (g : Nat) (v : Nat) (kd : Nat) (i : Nat) (fh : Nat → Int32) (kn : Nat → Int32) (fn : Nat → Nat) (qm q_circuitOf q_inputs q_gates q_has q_kind q_now : Nat) (e0 : w[qm]? = some (o0, cO 8 (mo A th su (nI sz) bl (nI ci) (nI ma) pa en wr))) (e1 : w[q_circuitOf]? = some (A 15, cI Y 6 co)) (e2 : w[q_inputs]? = some (A 6, cI Y 6 i1)) (e3 : w[q_gates]? = some (A 7, cI Y 6 g1)) (e4 : w[q_has]? = some (A 24, cZ Y 336 fh)) (e5 : w[q_kind]? = some (A 17, cI Y 6 kn)) (e6 : w[q_now]? = some (A 23, cI Y 5376 (iF fn))) (N : xN w.length [qm, q_circuitOf, q_inputs, q_gates, q_has, q_kind, q_now]) (hj : j < ma) (h6 : ma ≤ 6) (hc6 : c < 6) (hn16 : n ≤ 16) (hn1 : 1 ≤ n) (hg40 : g ≤ 40) (hco : co j = nI c) (hin : i1 c = nI n) (hga : g1 c = nI g) (hv : v < n + g) (hkn : kn j = nI kd) (hkd : kd = 4) (hh : ¬ fh (56 * j + v) = 0) (hi : i < 2) : Cf Y mX8_place 2 [.ref o0, .int (nI j), .int (nI v), .int 4, .int (nI i)] w (some (.long (plV fn (16 * (56 * j + v) + 8 * i) 4))) [(qm, (o0, cO 8 (mo A (nI 0) (nI 0) (nI sz) bl (nI ci) (nI ma) pa en wr))), (q_circuitOf, (A 15, cI Y 6 co)), (q_inputs, (A 6, cI Y 6 i1)), (q_gates, (A 7, cI Y 6 g1)), (q_has, (A 24, cZ Y 336 fh)), (q_kind, (A 17, cI Y 6 kn)), (q_now, (A 23, cI Y 5376 (iF fn)))] := by
  refine Ct.intro (T := tX8_place) (by decide) oX8_place (Nat.le_of_ble_eq_true rfl) (fun G C B => ?_)
  refine x_lay [(qm, (o0, cO 8 (mo A th su (nI sz) bl (nI ci) (nI ma) pa en wr))), (q_circuitOf, (A 15, cI Y 6 co)), (q_inputs, (A 6, cI Y 6 i1)), (q_gates, (A 7, cI Y 6 g1)), (q_has, (A 24, cZ Y 336 fh)), (q_kind, (A 17, cI Y 6 kn)), (q_now, (A 23, cI Y 5376 (iF fn)))] (lay_cons e0 (lay_cons e1 (lay_cons e2 (lay_cons e3 (lay_cons e4 (lay_cons e5 (lay_cons e6 lay_nil))))))) ?_
  refine x_run C 0 2 (pc' := 2) (lv' := [(0, .ref o0), (1, .int (nI j)), (2, .int (nI v)), (3, .int 4), (4, .int (nI i))]) (st' := [.int 0, .ref o0]) rfl ?_
  refine x_put C 2 rfl pX8_117 N 0 rfl rfl rfl (Nat.le_of_ble_eq_true rfl) (os' := [(qm, (o0, cO 8 (mo A (nI 0) su (nI sz) bl (nI ci) (nI ma) pa en wr))), (q_circuitOf, (A 15, cI Y 6 co)), (q_inputs, (A 6, cI Y 6 i1)), (q_gates, (A 7, cI Y 6 g1)), (q_has, (A 24, cZ Y 336 fh)), (q_kind, (A 17, cI Y 6 kn)), (q_now, (A 23, cI Y 5376 (iF fn)))]) rfl ?_
  refine x_run C 3 2 (pc' := 7) (lv' := [(0, .ref o0), (1, .int (nI j)), (2, .int (nI v)), (3, .int 4), (4, .int (nI i))]) (st' := [.int 0, .ref o0]) rfl ?_
  refine x_put C 5 rfl pX8_247 N 0 rfl rfl rfl (Nat.le_of_ble_eq_true rfl) (os' := [(qm, (o0, cO 8 (mo A (nI 0) (nI 0) (nI sz) bl (nI ci) (nI ma) pa en wr))), (q_circuitOf, (A 15, cI Y 6 co)), (q_inputs, (A 6, cI Y 6 i1)), (q_gates, (A 7, cI Y 6 g1)), (q_has, (A 24, cZ Y 336 fh)), (q_kind, (A 17, cI Y 6 kn)), (q_now, (A 23, cI Y 5376 (iF fn)))]) rfl ?_
  refine x_run C 6 2 (pc' := 12) (lv' := [(0, .ref o0), (1, .int (nI j)), (2, .int (nI v)), (3, .int 4), (4, .int (nI i))]) (st' := [.int (nI j), .ref o0]) rfl ?_
  refine x_cv C 8 (As := [.int (nI j)]) (rest := []) rfl vX8_230 N 0 rfl rfl (c_X8_isGarbled Y _ o0 A (nI 0) (nI 0) sz bl ci ma pa en wr j qm (ovl_at 0 N rfl) (N.ov [0] (by decide) rfl) (by first | assumption | omega) (by first | assumption | omega)) rfl rfl (Nat.le_of_ble_eq_true rfl) ⟨Nat.le_of_ble_eq_true rfl, Nat.le_of_ble_eq_true rfl⟩ ⟨Nat.zero_le _, Nat.zero_le _⟩ [0] ⟨rfl, trivial⟩ (os' := [(qm, (o0, cO 8 (mo A (nI 0) (nI 0) (nI sz) bl (nI ci) (nI ma) pa en wr))), (q_circuitOf, (A 15, cI Y 6 co)), (q_inputs, (A 6, cI Y 6 i1)), (q_gates, (A 7, cI Y 6 g1)), (q_has, (A 24, cZ Y 336 fh)), (q_kind, (A 17, cI Y 6 kn)), (q_now, (A 23, cI Y 5376 (iF fn)))]) rfl (st' := [.int 1]) rfl ?_
  refine x_st (st' := [.int (nI 1)]) (by simp only [nlit, nI_add, pk_mul]) ?_
  refine x_ifN_eq C 9 (by omega) rfl (tgt := 47) rfl (fun hc1 => absurd hc1 (by omega)) (fun hc1 => ?_)
  refine x_run C 10 4 (pc' := 22) (lv' := [(0, .ref o0), (1, .int (nI j)), (2, .int (nI v)), (3, .int 4), (4, .int (nI i))]) (st' := [.ref o0, .ref o0, .int 0, .int (nI v)]) rfl ?_
  refine x_get C 14 rfl fX8_55 N 0 rfl (v := .ref (A 15)) rfl ?_
  refine x_run C 15 1 (pc' := 26) (lv' := [(0, .ref o0), (1, .int (nI j)), (2, .int (nI v)), (3, .int 4), (4, .int (nI i))]) (st' := [.int (nI j), .ref (A 15), .ref o0, .int 0, .int (nI v)]) rfl ?_
  refine x_ialdN C 16 rfl N 1 rfl (by omega) (by omega) ?_
  refine x_st (st' := [.int (nI c), .ref o0, .int 0, .int (nI v)]) (by rw [hco]) ?_
  refine x_cv C 17 (As := [.int (nI c)]) (rest := [.int 0, .int (nI v)]) rfl vX8_199 N 0 rfl rfl (c_X8_wiresOf Y _ o0 A (nI 0) (nI 0) sz bl ci ma pa en wr i1 g1 c n g qm q_inputs q_gates (ovl_at 0 N rfl) (ovl_at 2 N rfl) (ovl_at 3 N rfl) (N.ov [0, 2, 3] (by decide) rfl) (by first | assumption | omega) (by first | assumption | omega) (by first | assumption | omega)) rfl rfl (Nat.le_of_ble_eq_true rfl) ⟨Nat.le_of_ble_eq_true rfl, Nat.le_of_ble_eq_true rfl⟩ ⟨Nat.zero_le _, Nat.zero_le _⟩ [0, 2, 3] ⟨rfl, rfl, rfl, trivial⟩ (os' := [(qm, (o0, cO 8 (mo A (nI 0) (nI 0) (nI sz) bl (nI ci) (nI ma) pa en wr))), (q_circuitOf, (A 15, cI Y 6 co)), (q_inputs, (A 6, cI Y 6 i1)), (q_gates, (A 7, cI Y 6 g1)), (q_has, (A 24, cZ Y 336 fh)), (q_kind, (A 17, cI Y 6 kn)), (q_now, (A 23, cI Y 5376 (iF fn)))]) rfl (st' := [.int (nI (n + g)), .int 0, .int (nI v)]) rfl ?_
  refine x_run C 18 2 (pc' := 32) (lv' := [(0, .ref o0), (1, .int (nI j)), (2, .int (nI v)), (3, .int 4), (4, .int (nI i))]) (st' := [.int ((nI (n + g)) - 1), .int 0, .int (nI v)]) rfl ?_
  refine x_st (st' := [.int (nI ((n + g) - 1)), .int 0, .int (nI v)]) (by simp only [nlit, nI_add, pk_mul, pk_sub (show 1 ≤ (n + g) by omega)]) ?_
  refine x_st (st' := [.int (nI ((n + g) - 1)), .int (nI 0), .int (nI v)]) (by simp only [nlit, nI_add, pk_mul]) ?_
  refine x_cs C 20 (As := [.int (nI v), .int (nI 0), .int (nI ((n + g) - 1))]) (rest := []) rfl vX8_135 N (c_X8_in Y _ v 0 ((n + g) - 1)    (by first | assumption | omega) (by first | assumption | omega) (by first | assumption | omega)) rfl rfl (Nat.le_of_ble_eq_true rfl) ⟨Nat.le_of_ble_eq_true rfl, Nat.le_of_ble_eq_true rfl⟩ ⟨Nat.zero_le _, Nat.zero_le _⟩ [] trivial (os' := [(qm, (o0, cO 8 (mo A (nI 0) (nI 0) (nI sz) bl (nI ci) (nI ma) pa en wr))), (q_circuitOf, (A 15, cI Y 6 co)), (q_inputs, (A 6, cI Y 6 i1)), (q_gates, (A 7, cI Y 6 g1)), (q_has, (A 24, cZ Y 336 fh)), (q_kind, (A 17, cI Y 6 kn)), (q_now, (A 23, cI Y 5376 (iF fn)))]) rfl (st' := [.int 1]) rfl ?_
  refine x_st (st' := [.int (nI 1)]) (by simp only [nlit, nI_add, pk_mul]) ?_
  refine x_ifN_eq C 21 (by omega) rfl (tgt := 47) rfl (fun hc2 => absurd hc2 (by omega)) (fun hc2 => ?_)
  refine x_run C 22 3 (pc' := 41) (lv' := [(0, .ref o0), (1, .int (nI j)), (2, .int (nI v)), (3, .int 4), (4, .int (nI i))]) (st' := [.int 4, .int 0, .int 4]) rfl ?_
  refine x_st (st' := [.int (nI 4), .int (nI 0), .int (nI 4)]) (by simp only [nlit, nI_add, pk_mul]) ?_
  refine x_cs C 25 (As := [.int (nI 4), .int (nI 0), .int (nI 4)]) (rest := []) rfl vX8_135 N (c_X8_in Y _ 4 0 4    (by first | assumption | omega) (by first | assumption | omega) (by first | assumption | omega)) rfl rfl (Nat.le_of_ble_eq_true rfl) ⟨Nat.le_of_ble_eq_true rfl, Nat.le_of_ble_eq_true rfl⟩ ⟨Nat.zero_le _, Nat.zero_le _⟩ [] trivial (os' := [(qm, (o0, cO 8 (mo A (nI 0) (nI 0) (nI sz) bl (nI ci) (nI ma) pa en wr))), (q_circuitOf, (A 15, cI Y 6 co)), (q_inputs, (A 6, cI Y 6 i1)), (q_gates, (A 7, cI Y 6 g1)), (q_has, (A 24, cZ Y 336 fh)), (q_kind, (A 17, cI Y 6 kn)), (q_now, (A 23, cI Y 5376 (iF fn)))]) rfl (st' := [.int 1]) rfl ?_
  refine x_st (st' := [.int (nI 1)]) (by simp only [nlit, nI_add, pk_mul]) ?_
  refine x_ifN_ne C 26 (by omega) rfl (tgt := 53) rfl (fun hc3 => ?_) (fun hc3 => absurd hc3 (by omega))
  refine x_run C 31 1 (pc' := 54) (lv' := [(0, .ref o0), (1, .int (nI j)), (2, .int (nI v)), (3, .int 4), (4, .int (nI i))]) (st' := [.ref o0]) rfl ?_
  refine x_get C 32 rfl fX8_82 N 0 rfl (v := .ref (A 24)) rfl ?_
  refine x_run C 33 5 (pc' := 63) (lv' := [(0, .ref o0), (1, .int (nI j)), (2, .int (nI v)), (3, .int 4), (4, .int (nI i))]) (st' := [.int ((56 * (nI j)) + (nI v)), .ref (A 24)]) rfl ?_
  refine x_st (st' := [.int (nI ((56 * j) + v)), .ref (A 24)]) (by simp only [nlit, nI_add, pk_mul]) ?_
  refine x_zaldN C 38 rfl N 4 rfl (by omega) (by omega) ?_
  refine x_if_ne C 39 rfl (tgt := 74) rfl (fun hc4 => ?_) (fun hc4 => ?_)
  · refine x_run C 44 2 (pc' := 76) (lv' := [(0, .ref o0), (1, .int (nI j)), (2, .int (nI v)), (3, .int 4), (4, .int (nI i))]) (st' := [.ref o0, .int 4]) rfl ?_
    refine x_get C 46 rfl fX8_61 N 0 rfl (v := .ref (A 17)) rfl ?_
    refine x_run C 47 1 (pc' := 80) (lv' := [(0, .ref o0), (1, .int (nI j)), (2, .int (nI v)), (3, .int 4), (4, .int (nI i))]) (st' := [.int (nI j), .ref (A 17), .int 4]) rfl ?_
    refine x_ialdN C 48 rfl N 5 rfl (by omega) (by omega) ?_
    refine x_st (st' := [.int (nI kd), .int 4]) (by rw [hkn]) ?_
    refine x_st (st' := [.int (nI kd), .int (nI 4)]) (by simp only [nlit, nI_add, pk_mul]) ?_
    refine x_icmpN_eq C 49 (by omega) (by omega) rfl (tgt := 91) rfl (fun hc5 => ?_) (fun hc5 => ?_)
    · refine x_run C 54 1 (pc' := 92) (lv' := [(0, .ref o0), (1, .int (nI j)), (2, .int (nI v)), (3, .int 4), (4, .int (nI i))]) (st' := [.int 4]) rfl ?_
      refine x_st (st' := [.int (nI 4)]) (by simp only [nlit, nI_add, pk_mul]) ?_
      refine x_ifN_ne C 55 (by omega) rfl (tgt := 99) rfl (fun hc6 => ?_) (fun hc6 => absurd hc6 (by omega))
      refine x_run C 58 2 (pc' := 101) (lv' := [(0, .ref o0), (1, .int (nI j)), (2, .int (nI v)), (3, .int 4), (4, .int (nI i))]) (st' := [.int 3, .int 4]) rfl ?_
      refine x_st (st' := [.int (nI 3), .int 4]) (by simp only [nlit, nI_add, pk_mul]) ?_
      refine x_st (st' := [.int (nI 3), .int (nI 4)]) (by simp only [nlit, nI_add, pk_mul]) ?_
      refine x_icmpN_ge C 60 (by omega) (by omega) rfl (tgt := 108) rfl (fun hc7 => ?_) (fun hc7 => absurd hc7 (by omega))
      refine x_run C 63 2 (pc' := 110) (lv' := [(0, .ref o0), (1, .int (nI j)), (2, .int (nI v)), (3, .int 4), (4, .int (nI i))]) (st' := [.int 3, .int 4]) rfl ?_
      refine x_st (st' := [.int (nI 3), .int 4]) (by simp only [nlit, nI_add, pk_mul]) ?_
      refine x_st (st' := [.int (nI 3), .int (nI 4)]) (by simp only [nlit, nI_add, pk_mul]) ?_
      refine x_icmpN_ne C 65 (by omega) (by omega) rfl (tgt := 117) rfl (fun hc8 => ?_) (fun hc8 => absurd hc8 (by omega))
      refine x_run C 68 9 (pc' := 131) (lv' := [(5, .int 8), (0, .ref o0), (1, .int (nI j)), (2, .int (nI v)), (3, .int 4), (4, .int (nI i))]) (st' := [.int ((16 / 8) - 1), .int 0, .int (nI i)]) rfl ?_
      refine x_st (st' := [.int (nI 1), .int (nI 0), .int (nI i)]) (by simp only [nlit, nI_add, pk_mul, pk_div (show 16 < 2 ^ 31 by omega) (show 0 < 8 by decide) (show 8 < 2 ^ 31 by decide), pk_sub (show 1 ≤ 2 by omega)]) ?_
      refine x_cs C 77 (As := [.int (nI i), .int (nI 0), .int (nI 1)]) (rest := []) rfl vX8_135 N (c_X8_in Y _ i 0 1    (by first | assumption | omega) (by first | assumption | omega) (by first | assumption | omega)) rfl rfl (Nat.le_of_ble_eq_true rfl) ⟨Nat.le_of_ble_eq_true rfl, Nat.le_of_ble_eq_true rfl⟩ ⟨Nat.zero_le _, Nat.zero_le _⟩ [] trivial (os' := [(qm, (o0, cO 8 (mo A (nI 0) (nI 0) (nI sz) bl (nI ci) (nI ma) pa en wr))), (q_circuitOf, (A 15, cI Y 6 co)), (q_inputs, (A 6, cI Y 6 i1)), (q_gates, (A 7, cI Y 6 g1)), (q_has, (A 24, cZ Y 336 fh)), (q_kind, (A 17, cI Y 6 kn)), (q_now, (A 23, cI Y 5376 (iF fn)))]) rfl (st' := [.int 1]) rfl ?_
      refine x_st (st' := [.int (nI 1)]) (by simp only [nlit, nI_add, pk_mul]) ?_
      refine x_ifN_ne C 78 (by omega) rfl (tgt := 144) rfl (fun hc9 => ?_) (fun hc9 => absurd hc9 (by omega))
      refine x_run C 83 4 (pc' := 150) (lv' := [(8, .int 0), (6, .long 0), (5, .int 8), (0, .ref o0), (1, .int (nI j)), (2, .int (nI v)), (3, .int 4), (4, .int (nI i))]) (st' := []) rfl ?_
      have L150 : ∀ q : Nat, 0 ≤ q → q ≤ 8 → X G Y 0 0 150 [(0, .ref o0), (1, .int (nI j)), (2, .int (nI v)), (3, .int 4), (4, .int (nI i)), (5, .int 8), (6, .long (w8 fn (16 * (56 * j + v) + 8 * i) q)), (8, .int (nI q))] [] (ovl w [(qm, (o0, cO 8 (mo A (nI 0) (nI 0) (nI sz) bl (nI ci) (nI ma) pa en wr))), (q_circuitOf, (A 15, cI Y 6 co)), (q_inputs, (A 6, cI Y 6 i1)), (q_gates, (A 7, cI Y 6 g1)), (q_has, (A 24, cZ Y 336 fh)), (q_kind, (A 17, cI Y 6 kn)), (q_now, (A 23, cI Y 5376 (iF fn)))]) := by
        intro q lo150 hi150
        revert lo150
        refine x_up (fun q => 0 ≤ q → X G Y 0 0 150 [(0, .ref o0), (1, .int (nI j)), (2, .int (nI v)), (3, .int 4), (4, .int (nI i)), (5, .int 8), (6, .long (w8 fn (16 * (56 * j + v) + 8 * i) q)), (8, .int (nI q))] [] (ovl w [(qm, (o0, cO 8 (mo A (nI 0) (nI 0) (nI sz) bl (nI ci) (nI ma) pa en wr))), (q_circuitOf, (A 15, cI Y 6 co)), (q_inputs, (A 6, cI Y 6 i1)), (q_gates, (A 7, cI Y 6 g1)), (q_has, (A 24, cZ Y 336 fh)), (q_kind, (A 17, cI Y 6 kn)), (q_now, (A 23, cI Y 5376 (iF fn)))])) 8 ?_ ?_ q hi150
        · intro lo150
          refine x_run C 87 2 (pc' := 154) (lv' := [(0, .ref o0), (1, .int (nI j)), (2, .int (nI v)), (3, .int 4), (4, .int (nI i)), (5, .int 8), (6, .long (w8 fn (16 * (56 * j + v) + 8 * i) 8)), (8, .int (nI 8))]) (st' := [.int 8, .int (nI 8)]) rfl ?_
          refine x_st (st' := [.int (nI 8), .int (nI 8)]) (by simp only [nlit, nI_add, pk_mul]) ?_
          refine x_icmpN_ge C 89 (by omega) (by omega) rfl (tgt := 191) rfl (fun hc10 => ?_) (fun hc10 => ?_)
          · refine x_run C 110 1 (pc' := 192) (lv' := [(0, .ref o0), (1, .int (nI j)), (2, .int (nI v)), (3, .int 4), (4, .int (nI i)), (5, .int 8), (6, .long (w8 fn (16 * (56 * j + v) + 8 * i) 8)), (8, .int (nI 8))]) (st' := [.int 4]) rfl ?_
            refine x_st (st' := [.int (nI 4)]) (by simp only [nlit, nI_add, pk_mul]) ?_
            refine x_ifN_ne C 111 (by omega) rfl (tgt := 203) rfl (fun hc11 => ?_) (fun hc11 => absurd hc11 (by omega))
            refine x_run C 117 2 (pc' := 205) (lv' := [(0, .ref o0), (1, .int (nI j)), (2, .int (nI v)), (3, .int 4), (4, .int (nI i)), (5, .int 8), (6, .long (w8 fn (16 * (56 * j + v) + 8 * i) 8)), (8, .int (nI 8))]) (st' := [.int 1, .int 4]) rfl ?_
            refine x_st (st' := [.int (nI 1), .int 4]) (by simp only [nlit, nI_add, pk_mul]) ?_
            refine x_st (st' := [.int (nI 1), .int (nI 4)]) (by simp only [nlit, nI_add, pk_mul]) ?_
            refine x_icmpN_ne C 119 (by omega) (by omega) rfl (tgt := 216) rfl (fun hc12 => ?_) (fun hc12 => absurd hc12 (by omega))
            refine x_run C 125 2 (pc' := 218) (lv' := [(0, .ref o0), (1, .int (nI j)), (2, .int (nI v)), (3, .int 4), (4, .int (nI i)), (5, .int 8), (6, .long (w8 fn (16 * (56 * j + v) + 8 * i) 8)), (8, .int (nI 8))]) (st' := [.int 3, .int 4]) rfl ?_
            refine x_st (st' := [.int (nI 3), .int 4]) (by simp only [nlit, nI_add, pk_mul]) ?_
            refine x_st (st' := [.int (nI 3), .int (nI 4)]) (by simp only [nlit, nI_add, pk_mul]) ?_
            refine x_icmpN_ne C 127 (by omega) (by omega) rfl (tgt := 228) rfl (fun hc13 => ?_) (fun hc13 => absurd hc13 (by omega))
            refine x_run C 132 1 (pc' := 230) (lv' := [(0, .ref o0), (1, .int (nI j)), (2, .int (nI v)), (3, .int 4), (4, .int (nI i)), (5, .int 8), (6, .long (w8 fn (16 * (56 * j + v) + 8 * i) 8)), (8, .int (nI 8))]) (st' := [.long (w8 fn (16 * (56 * j + v) + 8 * i) 8)]) rfl ?_
            exact x_lret C B rfl 133 rfl (Nat.zero_le _) (Nat.zero_le _) ⟨by rfl, rfl⟩
          · exact absurd hc10 (by omega)
        · intro q hi150 ih150 lo150
          refine x_run C 87 2 (pc' := 154) (lv' := [(0, .ref o0), (1, .int (nI j)), (2, .int (nI v)), (3, .int 4), (4, .int (nI i)), (5, .int 8), (6, .long (w8 fn (16 * (56 * j + v) + 8 * i) q)), (8, .int (nI q))]) (st' := [.int 8, .int (nI q)]) rfl ?_
          refine x_st (st' := [.int (nI 8), .int (nI q)]) (by simp only [nlit, nI_add, pk_mul]) ?_
          refine x_icmpN_ge C 89 (by omega) (by omega) rfl (tgt := 191) rfl (fun hc14 => ?_) (fun hc14 => ?_)
          · exact absurd hc14 (by omega)
          · refine x_run C 90 4 (pc' := 163) (lv' := [(0, .ref o0), (1, .int (nI j)), (2, .int (nI v)), (3, .int 4), (4, .int (nI i)), (5, .int 8), (6, .long (w8 fn (16 * (56 * j + v) + 8 * i) q)), (8, .int (nI q))]) (st' := [.ref o0, .long (jlshl (w8 fn (16 * (56 * j + v) + 8 * i) q) 8)]) rfl ?_
            refine x_get C 94 rfl fX8_79 N 0 rfl (v := .ref (A 23)) rfl ?_
            refine x_run C 95 2 (pc' := 168) (lv' := [(0, .ref o0), (1, .int (nI j)), (2, .int (nI v)), (3, .int 4), (4, .int (nI i)), (5, .int 8), (6, .long (w8 fn (16 * (56 * j + v) + 8 * i) q)), (8, .int (nI q))]) (st' := [.int (nI v), .int (nI j), .ref (A 23), .long (jlshl (w8 fn (16 * (56 * j + v) + 8 * i) q) 8)]) rfl ?_
            refine x_cs C 97 (As := [.int (nI j), .int (nI v)]) (rest := [.ref (A 23), .long (jlshl (w8 fn (16 * (56 * j + v) + 8 * i) q) 8)]) rfl vX8_210 N (c_X8_placeOf Y _ j v    ) rfl rfl (Nat.le_of_ble_eq_true rfl) ⟨Nat.le_of_ble_eq_true rfl, Nat.le_of_ble_eq_true rfl⟩ ⟨Nat.zero_le _, Nat.zero_le _⟩ [] trivial (os' := [(qm, (o0, cO 8 (mo A (nI 0) (nI 0) (nI sz) bl (nI ci) (nI ma) pa en wr))), (q_circuitOf, (A 15, cI Y 6 co)), (q_inputs, (A 6, cI Y 6 i1)), (q_gates, (A 7, cI Y 6 g1)), (q_has, (A 24, cZ Y 336 fh)), (q_kind, (A 17, cI Y 6 kn)), (q_now, (A 23, cI Y 5376 (iF fn)))]) rfl (st' := [.int (nI (16 * (56 * j + v))), .ref (A 23), .long (jlshl (w8 fn (16 * (56 * j + v) + 8 * i) q) 8)]) rfl ?_
            refine x_run C 98 6 (pc' := 180) (lv' := [(0, .ref o0), (1, .int (nI j)), (2, .int (nI v)), (3, .int 4), (4, .int (nI i)), (5, .int 8), (6, .long (w8 fn (16 * (56 * j + v) + 8 * i) q)), (8, .int (nI q))]) (st' := [.int (((nI (16 * (56 * j + v))) + (8 * (nI i))) + (nI q)), .ref (A 23), .long (jlshl (w8 fn (16 * (56 * j + v) + 8 * i) q) 8)]) rfl ?_
            refine x_st (st' := [.int (nI (((16 * (56 * j + v)) + (8 * i)) + q)), .ref (A 23), .long (jlshl (w8 fn (16 * (56 * j + v) + 8 * i) q) 8)]) (by simp only [nlit, nI_add, pk_mul]) ?_
            refine x_ialdN C 104 rfl N 6 rfl (by omega) (by omega) ?_
            refine x_st (st' := [.int (nI (fn (((16 * (56 * j + v)) + (8 * i)) + q))), .long (jlshl (w8 fn (16 * (56 * j + v) + 8 * i) q) 8)]) rfl ?_
            refine x_run C 105 5 (pc' := 150) (lv' := [(8, .int ((nI q) + 1)), (6, .long ((jlshl (w8 fn (16 * (56 * j + v) + 8 * i) q) 8) ||| ((nI (fn (((16 * (56 * j + v)) + (8 * i)) + q))).toInt64))), (0, .ref o0), (1, .int (nI j)), (2, .int (nI v)), (3, .int 4), (4, .int (nI i)), (5, .int 8)]) (st' := []) rfl ?_
            refine x_sub (lv' := [(0, .ref o0), (1, .int (nI j)), (2, .int (nI v)), (3, .int 4), (4, .int (nI i)), (5, .int 8), (6, .long ((jlshl (w8 fn (16 * (56 * j + v) + 8 * i) q) 8) ||| ((nI (fn (((16 * (56 * j + v)) + (8 * i)) + q))).toInt64))), (8, .int ((nI q) + 1))]) [2, 3, 4, 5, 6, 7, 1, 0] rfl ?_
            refine x_loc (lv' := [(0, .ref o0), (1, .int (nI j)), (2, .int (nI v)), (3, .int 4), (4, .int (nI i)), (5, .int 8), (6, .long (w8 fn (16 * (56 * j + v) + 8 * i) (q + 1))), (8, .int (nI (q + 1)))]) (by simp only [w8, nlit, nI_add]) ?_
            exact ih150 (by omega)
      refine x_sub (lv' := [(0, .ref o0), (1, .int (nI j)), (2, .int (nI v)), (3, .int 4), (4, .int (nI i)), (5, .int 8), (6, .long 0), (8, .int 0)]) [3, 4, 5, 6, 7, 2, 1, 0] rfl ?_
      refine x_loc (lv' := [(0, .ref o0), (1, .int (nI j)), (2, .int (nI v)), (3, .int 4), (4, .int (nI i)), (5, .int 8), (6, .long (w8 fn (16 * (56 * j + v) + 8 * i) 0)), (8, .int (nI 0))]) (by rfl) ?_
      exact L150 0 (Nat.le_refl _) (by omega)
    · exact absurd (by omega) hc5
  · exact absurd hc4 hh
def opA (fn fz : Nat → Nat) (p : Nat) : Nat → Int32
  | 0 => 1
  | i + 1 => opA fn fz p i &&& (if nI (fn (p + i)) = nI (fz (p + i)) then (1 : Int32) else 0)
def opB (fn fz fd : Nat → Nat) (p d : Nat) : Nat → Int32
  | 0 => 1
  | i + 1 => opB fn fz fd p d i &&& (if nI (fn (p + i)) = nI (fz (p + i)) ^^^ nI (fd (d + i)) then (1 : Int32) else 0)
def opM (fn fz fd : Nat → Nat) (j v : Nat) : Int32 := if opA fn fz (16 * (56 * j + v)) 16 = 0 then (if opB fn fz fd (16 * (56 * j + v)) (16 * j) 16 = 0 then 2 else 1) else 0
def oaD (F : Nat → Int32) (o : Nat) : Nat → Int32
  | 0 => 0
  | i + 1 => if F (o - i - 1) = 2 then -100 - nI (o - i - 1) else if 0 ≤ oaD F o i then oaD F o i ||| jshl (F (o - i - 1)) (nI (o - i - 1)) else oaD F o i
set_option maxHeartbeats 4000000 in
set_option maxRecDepth 100000 in
theorem c_X8_opened (Y : xD) (w : va_W) (o0 : Nat) (A : Nat → Nat) (th : Int32) (su : Int32) (sz : Nat) (bl : Int32) (ci : Nat) (ma : Nat) (pa : Int32) (en : Int32) (wr : Int32) (fn : Nat → Nat) (fz : Nat → Nat) (fd : Nat → Nat) (j : Nat) (v : Nat) (qm q_now q_zero q_delta : Nat) (e0 : w[qm]? = some (o0, cO 8 (mo A th su (nI sz) bl (nI ci) (nI ma) pa en wr))) (e1 : w[q_now]? = some (A 23, cI Y 5376 (iF fn))) (e2 : w[q_zero]? = some (A 21, cI Y 5376 (iF fz))) (e3 : w[q_delta]? = some (A 20, cI Y 96 (iF fd))) (N : xN w.length [qm, q_now, q_zero, q_delta]) (hj6 : j < 6) (hv : v < 56) : Cf Y mX8_opened 1 [.ref o0, .int (nI j), .int (nI v)] w (some (.int (opM fn fz fd j v))) [(qm, (o0, cO 8 (mo A th su (nI sz) bl (nI ci) (nI ma) pa en wr))), (q_now, (A 23, cI Y 5376 (iF fn))), (q_zero, (A 21, cI Y 5376 (iF fz))), (q_delta, (A 20, cI Y 96 (iF fd)))] := by
  refine Ct.intro (T := tX8_opened) (by decide) oX8_opened (Nat.le_of_ble_eq_true rfl) (fun G C B => ?_)
  refine x_lay [(qm, (o0, cO 8 (mo A th su (nI sz) bl (nI ci) (nI ma) pa en wr))), (q_now, (A 23, cI Y 5376 (iF fn))), (q_zero, (A 21, cI Y 5376 (iF fz))), (q_delta, (A 20, cI Y 96 (iF fd)))] (lay_cons e0 (lay_cons e1 (lay_cons e2 (lay_cons e3 lay_nil)))) ?_
  refine x_run C 0 2 (pc' := 2) (lv' := [(0, .ref o0), (1, .int (nI j)), (2, .int (nI v))]) (st' := [.int (nI v), .int (nI j)]) rfl ?_
  refine x_cs C 2 (As := [.int (nI j), .int (nI v)]) (rest := []) rfl vX8_210 N (c_X8_placeOf Y _ j v    ) rfl rfl (Nat.le_of_ble_eq_true rfl) ⟨Nat.le_of_ble_eq_true rfl, Nat.le_of_ble_eq_true rfl⟩ ⟨Nat.zero_le _, Nat.zero_le _⟩ [] trivial (os' := [(qm, (o0, cO 8 (mo A th su (nI sz) bl (nI ci) (nI ma) pa en wr))), (q_now, (A 23, cI Y 5376 (iF fn))), (q_zero, (A 21, cI Y 5376 (iF fz))), (q_delta, (A 20, cI Y 96 (iF fd)))]) rfl (st' := [.int (nI (16 * (56 * j + v)))]) rfl ?_
  refine x_run C 3 7 (pc' := 15) (lv' := [(6, .int 0), (5, .int 1), (4, .int 1), (3, .int (nI (16 * (56 * j + v)))), (0, .ref o0), (1, .int (nI j)), (2, .int (nI v))]) (st' := []) rfl ?_
  have L15 : ∀ i : Nat, 0 ≤ i → i ≤ 16 → X G Y 0 0 15 [(0, .ref o0), (1, .int (nI j)), (2, .int (nI v)), (3, .int (nI (16 * (56 * j + v)))), (4, .int (opA fn fz (16 * (56 * j + v)) i)), (5, .int (opB fn fz fd (16 * (56 * j + v)) (16 * j) i)), (6, .int (nI i))] [] (ovl w [(qm, (o0, cO 8 (mo A th su (nI sz) bl (nI ci) (nI ma) pa en wr))), (q_now, (A 23, cI Y 5376 (iF fn))), (q_zero, (A 21, cI Y 5376 (iF fz))), (q_delta, (A 20, cI Y 96 (iF fd)))]) := by
    intro i lo15 hi15
    revert lo15
    refine x_up (fun i => 0 ≤ i → X G Y 0 0 15 [(0, .ref o0), (1, .int (nI j)), (2, .int (nI v)), (3, .int (nI (16 * (56 * j + v)))), (4, .int (opA fn fz (16 * (56 * j + v)) i)), (5, .int (opB fn fz fd (16 * (56 * j + v)) (16 * j) i)), (6, .int (nI i))] [] (ovl w [(qm, (o0, cO 8 (mo A th su (nI sz) bl (nI ci) (nI ma) pa en wr))), (q_now, (A 23, cI Y 5376 (iF fn))), (q_zero, (A 21, cI Y 5376 (iF fz))), (q_delta, (A 20, cI Y 96 (iF fd)))])) 16 ?_ ?_ i hi15
    · intro lo15
      refine x_run C 10 2 (pc' := 19) (lv' := [(0, .ref o0), (1, .int (nI j)), (2, .int (nI v)), (3, .int (nI (16 * (56 * j + v)))), (4, .int (opA fn fz (16 * (56 * j + v)) 16)), (5, .int (opB fn fz fd (16 * (56 * j + v)) (16 * j) 16)), (6, .int (nI 16))]) (st' := [.int 16, .int (nI 16)]) rfl ?_
      refine x_st (st' := [.int (nI 16), .int (nI 16)]) (by simp only [nlit, nI_add, pk_mul]) ?_
      refine x_icmpN_ge C 12 (by omega) (by omega) rfl (tgt := 103) rfl (fun hc1 => ?_) (fun hc1 => ?_)
      · refine x_run C 62 1 (pc' := 105) (lv' := [(0, .ref o0), (1, .int (nI j)), (2, .int (nI v)), (3, .int (nI (16 * (56 * j + v)))), (4, .int (opA fn fz (16 * (56 * j + v)) 16)), (5, .int (opB fn fz fd (16 * (56 * j + v)) (16 * j) 16)), (6, .int (nI 16))]) (st' := [.int (opA fn fz (16 * (56 * j + v)) 16)]) rfl ?_
        refine x_if_eq C 63 rfl (tgt := 112) rfl (fun hc2 => ?_) (fun hc2 => ?_)
        · refine x_run C 66 1 (pc' := 114) (lv' := [(0, .ref o0), (1, .int (nI j)), (2, .int (nI v)), (3, .int (nI (16 * (56 * j + v)))), (4, .int (opA fn fz (16 * (56 * j + v)) 16)), (5, .int (opB fn fz fd (16 * (56 * j + v)) (16 * j) 16)), (6, .int (nI 16))]) (st' := [.int (opB fn fz fd (16 * (56 * j + v)) (16 * j) 16)]) rfl ?_
          refine x_if_eq C 67 rfl (tgt := 121) rfl (fun hc3 => ?_) (fun hc3 => ?_)
          · refine x_run C 70 1 (pc' := 122) (lv' := [(0, .ref o0), (1, .int (nI j)), (2, .int (nI v)), (3, .int (nI (16 * (56 * j + v)))), (4, .int (opA fn fz (16 * (56 * j + v)) 16)), (5, .int (opB fn fz fd (16 * (56 * j + v)) (16 * j) 16)), (6, .int (nI 16))]) (st' := [.int 2]) rfl ?_
            exact x_iret C B rfl 71 rfl (Nat.zero_le _) (Nat.zero_le _) ⟨by first | contradiction | (simp only [opM, if_pos hc2, if_pos hc3]; done) | (simp only [opM, if_pos hc2, if_pos hc3]; simp only [nlit, nI_add, pk_mul]; done) | (simp only [opM, if_pos hc2, if_pos hc3, nlit, nI_add, pk_mul]; done) | rfl | (simp only [opM, if_pos hc2, if_pos hc3]; rfl) | (simp only [opM, if_pos hc2, if_pos hc3, nlit, nI_add, pk_mul]; rfl), by first | contradiction | (simp only [opM, if_pos hc2, if_pos hc3]; done) | (simp only [opM, if_pos hc2, if_pos hc3]; simp only [nlit, nI_add, pk_mul]; done) | (simp only [opM, if_pos hc2, if_pos hc3, nlit, nI_add, pk_mul]; done) | rfl | (simp only [opM, if_pos hc2, if_pos hc3]; rfl) | (simp only [opM, if_pos hc2, if_pos hc3, nlit, nI_add, pk_mul]; rfl)⟩
          · refine x_run C 68 2 (pc' := 122) (lv' := [(0, .ref o0), (1, .int (nI j)), (2, .int (nI v)), (3, .int (nI (16 * (56 * j + v)))), (4, .int (opA fn fz (16 * (56 * j + v)) 16)), (5, .int (opB fn fz fd (16 * (56 * j + v)) (16 * j) 16)), (6, .int (nI 16))]) (st' := [.int 1]) rfl ?_
            exact x_iret C B rfl 71 rfl (Nat.zero_le _) (Nat.zero_le _) ⟨by first | contradiction | (simp only [opM, if_pos hc2, if_neg hc3]; done) | (simp only [opM, if_pos hc2, if_neg hc3]; simp only [nlit, nI_add, pk_mul]; done) | (simp only [opM, if_pos hc2, if_neg hc3, nlit, nI_add, pk_mul]; done) | rfl | (simp only [opM, if_pos hc2, if_neg hc3]; rfl) | (simp only [opM, if_pos hc2, if_neg hc3, nlit, nI_add, pk_mul]; rfl), by first | contradiction | (simp only [opM, if_pos hc2, if_neg hc3]; done) | (simp only [opM, if_pos hc2, if_neg hc3]; simp only [nlit, nI_add, pk_mul]; done) | (simp only [opM, if_pos hc2, if_neg hc3, nlit, nI_add, pk_mul]; done) | rfl | (simp only [opM, if_pos hc2, if_neg hc3]; rfl) | (simp only [opM, if_pos hc2, if_neg hc3, nlit, nI_add, pk_mul]; rfl)⟩
        · refine x_run C 64 2 (pc' := 122) (lv' := [(0, .ref o0), (1, .int (nI j)), (2, .int (nI v)), (3, .int (nI (16 * (56 * j + v)))), (4, .int (opA fn fz (16 * (56 * j + v)) 16)), (5, .int (opB fn fz fd (16 * (56 * j + v)) (16 * j) 16)), (6, .int (nI 16))]) (st' := [.int 0]) rfl ?_
          exact x_iret C B rfl 71 rfl (Nat.zero_le _) (Nat.zero_le _) ⟨by first | contradiction | (simp only [opM, if_neg hc2]; done) | (simp only [opM, if_neg hc2]; simp only [nlit, nI_add, pk_mul]; done) | (simp only [opM, if_neg hc2, nlit, nI_add, pk_mul]; done) | rfl | (simp only [opM, if_neg hc2]; rfl) | (simp only [opM, if_neg hc2, nlit, nI_add, pk_mul]; rfl), by first | contradiction | (simp only [opM, if_neg hc2]; done) | (simp only [opM, if_neg hc2]; simp only [nlit, nI_add, pk_mul]; done) | (simp only [opM, if_neg hc2, nlit, nI_add, pk_mul]; done) | rfl | (simp only [opM, if_neg hc2]; rfl) | (simp only [opM, if_neg hc2, nlit, nI_add, pk_mul]; rfl)⟩
      · exact absurd hc1 (by omega)
    · intro i hi15 ih15 lo15
      refine x_run C 10 2 (pc' := 19) (lv' := [(0, .ref o0), (1, .int (nI j)), (2, .int (nI v)), (3, .int (nI (16 * (56 * j + v)))), (4, .int (opA fn fz (16 * (56 * j + v)) i)), (5, .int (opB fn fz fd (16 * (56 * j + v)) (16 * j) i)), (6, .int (nI i))]) (st' := [.int 16, .int (nI i)]) rfl ?_
      refine x_st (st' := [.int (nI 16), .int (nI i)]) (by simp only [nlit, nI_add, pk_mul]) ?_
      refine x_icmpN_ge C 12 (by omega) (by omega) rfl (tgt := 103) rfl (fun hc4 => ?_) (fun hc4 => ?_)
      · exact absurd hc4 (by omega)
      · refine x_run C 13 2 (pc' := 25) (lv' := [(0, .ref o0), (1, .int (nI j)), (2, .int (nI v)), (3, .int (nI (16 * (56 * j + v)))), (4, .int (opA fn fz (16 * (56 * j + v)) i)), (5, .int (opB fn fz fd (16 * (56 * j + v)) (16 * j) i)), (6, .int (nI i))]) (st' := [.ref o0, .int (opA fn fz (16 * (56 * j + v)) i)]) rfl ?_
        refine x_get C 15 rfl fX8_79 N 0 rfl (v := .ref (A 23)) rfl ?_
        refine x_run C 16 3 (pc' := 32) (lv' := [(0, .ref o0), (1, .int (nI j)), (2, .int (nI v)), (3, .int (nI (16 * (56 * j + v)))), (4, .int (opA fn fz (16 * (56 * j + v)) i)), (5, .int (opB fn fz fd (16 * (56 * j + v)) (16 * j) i)), (6, .int (nI i))]) (st' := [.int ((nI (16 * (56 * j + v))) + (nI i)), .ref (A 23), .int (opA fn fz (16 * (56 * j + v)) i)]) rfl ?_
        refine x_st (st' := [.int (nI ((16 * (56 * j + v)) + i)), .ref (A 23), .int (opA fn fz (16 * (56 * j + v)) i)]) (by simp only [nlit, nI_add, pk_mul]) ?_
        refine x_ialdN C 19 rfl N 1 rfl (by omega) (by omega) ?_
        refine x_st (st' := [.int (nI (fn ((16 * (56 * j + v)) + i))), .int (opA fn fz (16 * (56 * j + v)) i)]) rfl ?_
        refine x_run C 20 1 (pc' := 34) (lv' := [(0, .ref o0), (1, .int (nI j)), (2, .int (nI v)), (3, .int (nI (16 * (56 * j + v)))), (4, .int (opA fn fz (16 * (56 * j + v)) i)), (5, .int (opB fn fz fd (16 * (56 * j + v)) (16 * j) i)), (6, .int (nI i))]) (st' := [.ref o0, .int (nI (fn ((16 * (56 * j + v)) + i))), .int (opA fn fz (16 * (56 * j + v)) i)]) rfl ?_
        refine x_get C 21 rfl fX8_73 N 0 rfl (v := .ref (A 21)) rfl ?_
        refine x_run C 22 3 (pc' := 41) (lv' := [(0, .ref o0), (1, .int (nI j)), (2, .int (nI v)), (3, .int (nI (16 * (56 * j + v)))), (4, .int (opA fn fz (16 * (56 * j + v)) i)), (5, .int (opB fn fz fd (16 * (56 * j + v)) (16 * j) i)), (6, .int (nI i))]) (st' := [.int ((nI (16 * (56 * j + v))) + (nI i)), .ref (A 21), .int (nI (fn ((16 * (56 * j + v)) + i))), .int (opA fn fz (16 * (56 * j + v)) i)]) rfl ?_
        refine x_st (st' := [.int (nI ((16 * (56 * j + v)) + i)), .ref (A 21), .int (nI (fn ((16 * (56 * j + v)) + i))), .int (opA fn fz (16 * (56 * j + v)) i)]) (by simp only [nlit, nI_add, pk_mul]) ?_
        refine x_ialdN C 25 rfl N 2 rfl (by omega) (by omega) ?_
        refine x_st (st' := [.int (nI (fz ((16 * (56 * j + v)) + i))), .int (nI (fn ((16 * (56 * j + v)) + i))), .int (opA fn fz (16 * (56 * j + v)) i)]) rfl ?_
        have J42 : X G Y 0 0 50 [(0, .ref o0), (1, .int (nI j)), (2, .int (nI v)), (3, .int (nI (16 * (56 * j + v)))), (4, .int (opA fn fz (16 * (56 * j + v)) i)), (5, .int (opB fn fz fd (16 * (56 * j + v)) (16 * j) i)), (6, .int (nI i))] [.int (if (nI (fn ((16 * (56 * j + v)) + i))) = (nI (fz ((16 * (56 * j + v)) + i))) then (1 : Int32) else 0), .int (opA fn fz (16 * (56 * j + v)) i)] (ovl w [(qm, (o0, cO 8 (mo A th su (nI sz) bl (nI ci) (nI ma) pa en wr))), (q_now, (A 23, cI Y 5376 (iF fn))), (q_zero, (A 21, cI Y 5376 (iF fz))), (q_delta, (A 20, cI Y 96 (iF fd)))]) := by
          refine x_run C 30 4 (pc' := 56) (lv' := [(4, .int ((opA fn fz (16 * (56 * j + v)) i) &&& (if (nI (fn ((16 * (56 * j + v)) + i))) = (nI (fz ((16 * (56 * j + v)) + i))) then (1 : Int32) else 0))), (0, .ref o0), (1, .int (nI j)), (2, .int (nI v)), (3, .int (nI (16 * (56 * j + v)))), (5, .int (opB fn fz fd (16 * (56 * j + v)) (16 * j) i)), (6, .int (nI i))]) (st' := [.ref o0, .int (opB fn fz fd (16 * (56 * j + v)) (16 * j) i)]) rfl ?_
          refine x_get C 34 rfl fX8_79 N 0 rfl (v := .ref (A 23)) rfl ?_
          refine x_run C 35 3 (pc' := 63) (lv' := [(4, .int ((opA fn fz (16 * (56 * j + v)) i) &&& (if (nI (fn ((16 * (56 * j + v)) + i))) = (nI (fz ((16 * (56 * j + v)) + i))) then (1 : Int32) else 0))), (0, .ref o0), (1, .int (nI j)), (2, .int (nI v)), (3, .int (nI (16 * (56 * j + v)))), (5, .int (opB fn fz fd (16 * (56 * j + v)) (16 * j) i)), (6, .int (nI i))]) (st' := [.int ((nI (16 * (56 * j + v))) + (nI i)), .ref (A 23), .int (opB fn fz fd (16 * (56 * j + v)) (16 * j) i)]) rfl ?_
          refine x_st (st' := [.int (nI ((16 * (56 * j + v)) + i)), .ref (A 23), .int (opB fn fz fd (16 * (56 * j + v)) (16 * j) i)]) (by simp only [nlit, nI_add, pk_mul]) ?_
          refine x_ialdN C 38 rfl N 1 rfl (by omega) (by omega) ?_
          refine x_st (st' := [.int (nI (fn ((16 * (56 * j + v)) + i))), .int (opB fn fz fd (16 * (56 * j + v)) (16 * j) i)]) rfl ?_
          refine x_run C 39 1 (pc' := 65) (lv' := [(4, .int ((opA fn fz (16 * (56 * j + v)) i) &&& (if (nI (fn ((16 * (56 * j + v)) + i))) = (nI (fz ((16 * (56 * j + v)) + i))) then (1 : Int32) else 0))), (0, .ref o0), (1, .int (nI j)), (2, .int (nI v)), (3, .int (nI (16 * (56 * j + v)))), (5, .int (opB fn fz fd (16 * (56 * j + v)) (16 * j) i)), (6, .int (nI i))]) (st' := [.ref o0, .int (nI (fn ((16 * (56 * j + v)) + i))), .int (opB fn fz fd (16 * (56 * j + v)) (16 * j) i)]) rfl ?_
          refine x_get C 40 rfl fX8_73 N 0 rfl (v := .ref (A 21)) rfl ?_
          refine x_run C 41 3 (pc' := 72) (lv' := [(4, .int ((opA fn fz (16 * (56 * j + v)) i) &&& (if (nI (fn ((16 * (56 * j + v)) + i))) = (nI (fz ((16 * (56 * j + v)) + i))) then (1 : Int32) else 0))), (0, .ref o0), (1, .int (nI j)), (2, .int (nI v)), (3, .int (nI (16 * (56 * j + v)))), (5, .int (opB fn fz fd (16 * (56 * j + v)) (16 * j) i)), (6, .int (nI i))]) (st' := [.int ((nI (16 * (56 * j + v))) + (nI i)), .ref (A 21), .int (nI (fn ((16 * (56 * j + v)) + i))), .int (opB fn fz fd (16 * (56 * j + v)) (16 * j) i)]) rfl ?_
          refine x_st (st' := [.int (nI ((16 * (56 * j + v)) + i)), .ref (A 21), .int (nI (fn ((16 * (56 * j + v)) + i))), .int (opB fn fz fd (16 * (56 * j + v)) (16 * j) i)]) (by simp only [nlit, nI_add, pk_mul]) ?_
          refine x_ialdN C 44 rfl N 2 rfl (by omega) (by omega) ?_
          refine x_st (st' := [.int (nI (fz ((16 * (56 * j + v)) + i))), .int (nI (fn ((16 * (56 * j + v)) + i))), .int (opB fn fz fd (16 * (56 * j + v)) (16 * j) i)]) rfl ?_
          refine x_run C 45 1 (pc' := 74) (lv' := [(4, .int ((opA fn fz (16 * (56 * j + v)) i) &&& (if (nI (fn ((16 * (56 * j + v)) + i))) = (nI (fz ((16 * (56 * j + v)) + i))) then (1 : Int32) else 0))), (0, .ref o0), (1, .int (nI j)), (2, .int (nI v)), (3, .int (nI (16 * (56 * j + v)))), (5, .int (opB fn fz fd (16 * (56 * j + v)) (16 * j) i)), (6, .int (nI i))]) (st' := [.ref o0, .int (nI (fz ((16 * (56 * j + v)) + i))), .int (nI (fn ((16 * (56 * j + v)) + i))), .int (opB fn fz fd (16 * (56 * j + v)) (16 * j) i)]) rfl ?_
          refine x_get C 46 rfl fX8_70 N 0 rfl (v := .ref (A 20)) rfl ?_
          refine x_run C 47 5 (pc' := 84) (lv' := [(4, .int ((opA fn fz (16 * (56 * j + v)) i) &&& (if (nI (fn ((16 * (56 * j + v)) + i))) = (nI (fz ((16 * (56 * j + v)) + i))) then (1 : Int32) else 0))), (0, .ref o0), (1, .int (nI j)), (2, .int (nI v)), (3, .int (nI (16 * (56 * j + v)))), (5, .int (opB fn fz fd (16 * (56 * j + v)) (16 * j) i)), (6, .int (nI i))]) (st' := [.int ((16 * (nI j)) + (nI i)), .ref (A 20), .int (nI (fz ((16 * (56 * j + v)) + i))), .int (nI (fn ((16 * (56 * j + v)) + i))), .int (opB fn fz fd (16 * (56 * j + v)) (16 * j) i)]) rfl ?_
          refine x_st (st' := [.int (nI ((16 * j) + i)), .ref (A 20), .int (nI (fz ((16 * (56 * j + v)) + i))), .int (nI (fn ((16 * (56 * j + v)) + i))), .int (opB fn fz fd (16 * (56 * j + v)) (16 * j) i)]) (by simp only [nlit, nI_add, pk_mul]) ?_
          refine x_ialdN C 52 rfl N 3 rfl (by omega) (by omega) ?_
          refine x_st (st' := [.int (nI (fd ((16 * j) + i))), .int (nI (fz ((16 * (56 * j + v)) + i))), .int (nI (fn ((16 * (56 * j + v)) + i))), .int (opB fn fz fd (16 * (56 * j + v)) (16 * j) i)]) rfl ?_
          refine x_run C 53 1 (pc' := 86) (lv' := [(4, .int ((opA fn fz (16 * (56 * j + v)) i) &&& (if (nI (fn ((16 * (56 * j + v)) + i))) = (nI (fz ((16 * (56 * j + v)) + i))) then (1 : Int32) else 0))), (0, .ref o0), (1, .int (nI j)), (2, .int (nI v)), (3, .int (nI (16 * (56 * j + v)))), (5, .int (opB fn fz fd (16 * (56 * j + v)) (16 * j) i)), (6, .int (nI i))]) (st' := [.int ((nI (fz ((16 * (56 * j + v)) + i))) ^^^ (nI (fd ((16 * j) + i)))), .int (nI (fn ((16 * (56 * j + v)) + i))), .int (opB fn fz fd (16 * (56 * j + v)) (16 * j) i)]) rfl ?_
          have J86 : X G Y 0 0 94 [(0, .ref o0), (1, .int (nI j)), (2, .int (nI v)), (3, .int (nI (16 * (56 * j + v)))), (4, .int ((opA fn fz (16 * (56 * j + v)) i) &&& (if (nI (fn ((16 * (56 * j + v)) + i))) = (nI (fz ((16 * (56 * j + v)) + i))) then (1 : Int32) else 0))), (5, .int (opB fn fz fd (16 * (56 * j + v)) (16 * j) i)), (6, .int (nI i))] [.int (if (nI (fn ((16 * (56 * j + v)) + i))) = ((nI (fz ((16 * (56 * j + v)) + i))) ^^^ (nI (fd ((16 * j) + i)))) then (1 : Int32) else 0), .int (opB fn fz fd (16 * (56 * j + v)) (16 * j) i)] (ovl w [(qm, (o0, cO 8 (mo A th su (nI sz) bl (nI ci) (nI ma) pa en wr))), (q_now, (A 23, cI Y 5376 (iF fn))), (q_zero, (A 21, cI Y 5376 (iF fz))), (q_delta, (A 20, cI Y 96 (iF fd)))]) := by
            refine x_run C 58 4 (pc' := 15) (lv' := [(6, .int ((nI i) + 1)), (5, .int ((opB fn fz fd (16 * (56 * j + v)) (16 * j) i) &&& (if (nI (fn ((16 * (56 * j + v)) + i))) = ((nI (fz ((16 * (56 * j + v)) + i))) ^^^ (nI (fd ((16 * j) + i)))) then (1 : Int32) else 0))), (0, .ref o0), (1, .int (nI j)), (2, .int (nI v)), (3, .int (nI (16 * (56 * j + v)))), (4, .int ((opA fn fz (16 * (56 * j + v)) i) &&& (if (nI (fn ((16 * (56 * j + v)) + i))) = (nI (fz ((16 * (56 * j + v)) + i))) then (1 : Int32) else 0)))]) (st' := []) rfl ?_
            refine x_sub (lv' := [(0, .ref o0), (1, .int (nI j)), (2, .int (nI v)), (3, .int (nI (16 * (56 * j + v)))), (4, .int ((opA fn fz (16 * (56 * j + v)) i) &&& (if (nI (fn ((16 * (56 * j + v)) + i))) = (nI (fz ((16 * (56 * j + v)) + i))) then (1 : Int32) else 0))), (5, .int ((opB fn fz fd (16 * (56 * j + v)) (16 * j) i) &&& (if (nI (fn ((16 * (56 * j + v)) + i))) = ((nI (fz ((16 * (56 * j + v)) + i))) ^^^ (nI (fd ((16 * j) + i)))) then (1 : Int32) else 0))), (6, .int ((nI i) + 1))]) [2, 3, 4, 5, 6, 1, 0] rfl ?_
            refine x_loc (lv' := [(0, .ref o0), (1, .int (nI j)), (2, .int (nI v)), (3, .int (nI (16 * (56 * j + v)))), (4, .int (opA fn fz (16 * (56 * j + v)) (i + 1))), (5, .int (opB fn fz fd (16 * (56 * j + v)) (16 * j) (i + 1))), (6, .int (nI (i + 1)))]) (by simp only [opA, opB, nlit, nI_add]) ?_
            exact ih15 (by omega)
          refine x_icmp_ne C 54 rfl (tgt := 93) rfl (fun hc5 => ?_) (fun hc5 => ?_)
          · refine x_run C 57 1 (pc' := 94) (lv' := [(4, .int ((opA fn fz (16 * (56 * j + v)) i) &&& (if (nI (fn ((16 * (56 * j + v)) + i))) = (nI (fz ((16 * (56 * j + v)) + i))) then (1 : Int32) else 0))), (0, .ref o0), (1, .int (nI j)), (2, .int (nI v)), (3, .int (nI (16 * (56 * j + v)))), (5, .int (opB fn fz fd (16 * (56 * j + v)) (16 * j) i)), (6, .int (nI i))]) (st' := [.int 0, .int (opB fn fz fd (16 * (56 * j + v)) (16 * j) i)]) rfl ?_
            refine x_st (st' := [.int (if (nI (fn ((16 * (56 * j + v)) + i))) = ((nI (fz ((16 * (56 * j + v)) + i))) ^^^ (nI (fd ((16 * j) + i)))) then (1 : Int32) else 0), .int (opB fn fz fd (16 * (56 * j + v)) (16 * j) i)]) (by rw [if_neg hc5]) ?_
            refine x_sub (lv' := [(0, .ref o0), (1, .int (nI j)), (2, .int (nI v)), (3, .int (nI (16 * (56 * j + v)))), (4, .int ((opA fn fz (16 * (56 * j + v)) i) &&& (if (nI (fn ((16 * (56 * j + v)) + i))) = (nI (fz ((16 * (56 * j + v)) + i))) then (1 : Int32) else 0))), (5, .int (opB fn fz fd (16 * (56 * j + v)) (16 * j) i)), (6, .int (nI i))]) [1, 2, 3, 4, 0, 5, 6] rfl ?_
            exact J86
          · refine x_run C 55 2 (pc' := 94) (lv' := [(4, .int ((opA fn fz (16 * (56 * j + v)) i) &&& (if (nI (fn ((16 * (56 * j + v)) + i))) = (nI (fz ((16 * (56 * j + v)) + i))) then (1 : Int32) else 0))), (0, .ref o0), (1, .int (nI j)), (2, .int (nI v)), (3, .int (nI (16 * (56 * j + v)))), (5, .int (opB fn fz fd (16 * (56 * j + v)) (16 * j) i)), (6, .int (nI i))]) (st' := [.int 1, .int (opB fn fz fd (16 * (56 * j + v)) (16 * j) i)]) rfl ?_
            refine x_st (st' := [.int (if (nI (fn ((16 * (56 * j + v)) + i))) = ((nI (fz ((16 * (56 * j + v)) + i))) ^^^ (nI (fd ((16 * j) + i)))) then (1 : Int32) else 0), .int (opB fn fz fd (16 * (56 * j + v)) (16 * j) i)]) (by rw [if_pos hc5]) ?_
            refine x_sub (lv' := [(0, .ref o0), (1, .int (nI j)), (2, .int (nI v)), (3, .int (nI (16 * (56 * j + v)))), (4, .int ((opA fn fz (16 * (56 * j + v)) i) &&& (if (nI (fn ((16 * (56 * j + v)) + i))) = (nI (fz ((16 * (56 * j + v)) + i))) then (1 : Int32) else 0))), (5, .int (opB fn fz fd (16 * (56 * j + v)) (16 * j) i)), (6, .int (nI i))]) [1, 2, 3, 4, 0, 5, 6] rfl ?_
            exact J86
        refine x_icmp_ne C 26 rfl (tgt := 49) rfl (fun hc6 => ?_) (fun hc6 => ?_)
        · refine x_run C 29 1 (pc' := 50) (lv' := [(0, .ref o0), (1, .int (nI j)), (2, .int (nI v)), (3, .int (nI (16 * (56 * j + v)))), (4, .int (opA fn fz (16 * (56 * j + v)) i)), (5, .int (opB fn fz fd (16 * (56 * j + v)) (16 * j) i)), (6, .int (nI i))]) (st' := [.int 0, .int (opA fn fz (16 * (56 * j + v)) i)]) rfl ?_
          refine x_st (st' := [.int (if (nI (fn ((16 * (56 * j + v)) + i))) = (nI (fz ((16 * (56 * j + v)) + i))) then (1 : Int32) else 0), .int (opA fn fz (16 * (56 * j + v)) i)]) (by rw [if_neg hc6]) ?_
          exact J42
        · refine x_run C 27 2 (pc' := 50) (lv' := [(0, .ref o0), (1, .int (nI j)), (2, .int (nI v)), (3, .int (nI (16 * (56 * j + v)))), (4, .int (opA fn fz (16 * (56 * j + v)) i)), (5, .int (opB fn fz fd (16 * (56 * j + v)) (16 * j) i)), (6, .int (nI i))]) (st' := [.int 1, .int (opA fn fz (16 * (56 * j + v)) i)]) rfl ?_
          refine x_st (st' := [.int (if (nI (fn ((16 * (56 * j + v)) + i))) = (nI (fz ((16 * (56 * j + v)) + i))) then (1 : Int32) else 0), .int (opA fn fz (16 * (56 * j + v)) i)]) (by rw [if_pos hc6]) ?_
          exact J42
  refine x_sub (lv' := [(0, .ref o0), (1, .int (nI j)), (2, .int (nI v)), (3, .int (nI (16 * (56 * j + v)))), (4, .int 1), (5, .int 1), (6, .int 0)]) [4, 5, 6, 3, 2, 1, 0] rfl ?_
  refine x_loc (lv' := [(0, .ref o0), (1, .int (nI j)), (2, .int (nI v)), (3, .int (nI (16 * (56 * j + v)))), (4, .int (opA fn fz (16 * (56 * j + v)) 0)), (5, .int (opB fn fz fd (16 * (56 * j + v)) (16 * j) 0)), (6, .int (nI 0))]) (by rfl) ?_
  exact L15 0 (Nat.le_refl _) (by omega)
set_option maxHeartbeats 4000000 in
set_option maxRecDepth 100000 in
theorem c_X8_openF (Y : xD) (w : va_W) (o0 : Nat) (A : Nat → Nat) (th : Int32) (su : Int32) (sz : Nat) (bl : Int32) (ci : Nat) (ma : Nat) (pa : Int32) (en : Int32) (wr : Int32) (x : Int32) (x0 : Int32) (qm : Nat) (e0 : w[qm]? = some (o0, cO 8 (mo A th su (nI sz) bl (nI ci) (nI ma) pa en wr))) (N : xN w.length [qm]) (hx : x < 0 ∨ nI ma ≤ x) (h6 : ma ≤ 6) : Cf Y mX8_open 2 [.ref o0, .int x, .int x0] w (some (.int (-1))) [(qm, (o0, cO 8 (mo A (nI 0) su (nI sz) bl (nI ci) (nI ma) pa en wr)))] := by
  refine Ct.intro (T := tX8_open) (by decide) oX8_open (Nat.le_of_ble_eq_true rfl) (fun G C B => ?_)
  refine x_lay [(qm, (o0, cO 8 (mo A th su (nI sz) bl (nI ci) (nI ma) pa en wr)))] (lay_cons e0 lay_nil) ?_
  refine x_run C 0 2 (pc' := 2) (lv' := [(0, .ref o0), (1, .int x), (2, .int x0)]) (st' := [.int 0, .ref o0]) rfl ?_
  refine x_put C 2 rfl pX8_117 N 0 rfl rfl rfl (Nat.le_of_ble_eq_true rfl) (os' := [(qm, (o0, cO 8 (mo A (nI 0) su (nI sz) bl (nI ci) (nI ma) pa en wr)))]) rfl ?_
  refine x_run C 3 2 (pc' := 7) (lv' := [(0, .ref o0), (1, .int x), (2, .int x0)]) (st' := [.int x, .ref o0]) rfl ?_
  refine x_cv C 5 (As := [.int x]) (rest := []) rfl vX8_230 N 0 rfl rfl (c_X8_isGarbledF Y _ o0 A (nI 0) su sz bl ci ma pa en wr x qm (ovl_at 0 N rfl) (N.ov [0] (by decide) rfl) hx (by first | assumption | omega)) rfl rfl (Nat.le_of_ble_eq_true rfl) ⟨Nat.le_of_ble_eq_true rfl, Nat.le_of_ble_eq_true rfl⟩ ⟨Nat.zero_le _, Nat.zero_le _⟩ [0] ⟨rfl, trivial⟩ (os' := [(qm, (o0, cO 8 (mo A (nI 0) su (nI sz) bl (nI ci) (nI ma) pa en wr)))]) rfl (st' := [.int 0]) rfl ?_
  refine x_st (st' := [.int (nI 0)]) (by simp only [nlit, nI_add, pk_mul]) ?_
  refine x_ifN_eq C 6 (by omega) rfl (tgt := 34) rfl (fun hc1 => ?_) (fun hc1 => absurd hc1 (by omega))
  refine x_run C 20 1 (pc' := 35) (lv' := [(0, .ref o0), (1, .int x), (2, .int x0)]) (st' := [.int (-1)]) rfl ?_
  exact x_iret C B rfl 21 rfl (Nat.zero_le _) (Nat.zero_le _) ⟨by first | rfl | (simp only [nlit, nI_add, pk_mul]; done), by first | rfl | (simp only [nlit, nI_add, pk_mul]; done)⟩
set_option maxHeartbeats 4000000 in
set_option maxRecDepth 100000 in
theorem c_X8_openB (Y : xD) (w : va_W) (o0 : Nat) (A : Nat → Nat) (th : Int32) (su : Int32) (sz : Nat) (bl : Int32) (ci : Nat) (ma : Nat) (pa : Int32) (en : Int32) (wr : Int32) (co : Nat → Int32) (o1 : Nat → Int32) (j : Nat) (c : Nat) (o : Nat) (i : Int32) (qm q_circuitOf q_outputs : Nat) (e0 : w[qm]? = some (o0, cO 8 (mo A th su (nI sz) bl (nI ci) (nI ma) pa en wr))) (e1 : w[q_circuitOf]? = some (A 15, cI Y 6 co)) (e2 : w[q_outputs]? = some (A 8, cI Y 6 o1)) (N : xN w.length [qm, q_circuitOf, q_outputs]) (hj : j < ma) (h6 : ma ≤ 6) (hc6 : c < 6) (ho8 : o ≤ 8) (hco : co j = nI c) (hoc : o1 c = nI o) (hi : i < 0 ∨ nI o ≤ i) : Cf Y mX8_open 2 [.ref o0, .int (nI j), .int i] w (some (.int (-1))) [(qm, (o0, cO 8 (mo A (nI 0) su (nI sz) bl (nI ci) (nI ma) pa en wr))), (q_circuitOf, (A 15, cI Y 6 co)), (q_outputs, (A 8, cI Y 6 o1))] := by
  refine Ct.intro (T := tX8_open) (by decide) oX8_open (Nat.le_of_ble_eq_true rfl) (fun G C B => ?_)
  refine x_lay [(qm, (o0, cO 8 (mo A th su (nI sz) bl (nI ci) (nI ma) pa en wr))), (q_circuitOf, (A 15, cI Y 6 co)), (q_outputs, (A 8, cI Y 6 o1))] (lay_cons e0 (lay_cons e1 (lay_cons e2 lay_nil))) ?_
  refine x_run C 0 2 (pc' := 2) (lv' := [(0, .ref o0), (1, .int (nI j)), (2, .int i)]) (st' := [.int 0, .ref o0]) rfl ?_
  refine x_put C 2 rfl pX8_117 N 0 rfl rfl rfl (Nat.le_of_ble_eq_true rfl) (os' := [(qm, (o0, cO 8 (mo A (nI 0) su (nI sz) bl (nI ci) (nI ma) pa en wr))), (q_circuitOf, (A 15, cI Y 6 co)), (q_outputs, (A 8, cI Y 6 o1))]) rfl ?_
  refine x_run C 3 2 (pc' := 7) (lv' := [(0, .ref o0), (1, .int (nI j)), (2, .int i)]) (st' := [.int (nI j), .ref o0]) rfl ?_
  refine x_cv C 5 (As := [.int (nI j)]) (rest := []) rfl vX8_230 N 0 rfl rfl (c_X8_isGarbled Y _ o0 A (nI 0) su sz bl ci ma pa en wr j qm (ovl_at 0 N rfl) (N.ov [0] (by decide) rfl) (by first | assumption | omega) (by first | assumption | omega)) rfl rfl (Nat.le_of_ble_eq_true rfl) ⟨Nat.le_of_ble_eq_true rfl, Nat.le_of_ble_eq_true rfl⟩ ⟨Nat.zero_le _, Nat.zero_le _⟩ [0] ⟨rfl, trivial⟩ (os' := [(qm, (o0, cO 8 (mo A (nI 0) su (nI sz) bl (nI ci) (nI ma) pa en wr))), (q_circuitOf, (A 15, cI Y 6 co)), (q_outputs, (A 8, cI Y 6 o1))]) rfl (st' := [.int 1]) rfl ?_
  refine x_st (st' := [.int (nI 1)]) (by simp only [nlit, nI_add, pk_mul]) ?_
  refine x_ifN_eq C 6 (by omega) rfl (tgt := 34) rfl (fun hc1 => absurd hc1 (by omega)) (fun hc1 => ?_)
  refine x_run C 7 3 (pc' := 16) (lv' := [(0, .ref o0), (1, .int (nI j)), (2, .int i)]) (st' := [.ref o0, .int 0, .int i]) rfl ?_
  refine x_get C 10 rfl fX8_34 N 0 rfl (v := .ref (A 8)) rfl ?_
  refine x_run C 11 1 (pc' := 20) (lv' := [(0, .ref o0), (1, .int (nI j)), (2, .int i)]) (st' := [.ref o0, .ref (A 8), .int 0, .int i]) rfl ?_
  refine x_get C 12 rfl fX8_55 N 0 rfl (v := .ref (A 15)) rfl ?_
  refine x_run C 13 1 (pc' := 24) (lv' := [(0, .ref o0), (1, .int (nI j)), (2, .int i)]) (st' := [.int (nI j), .ref (A 15), .ref (A 8), .int 0, .int i]) rfl ?_
  refine x_ialdN C 14 rfl N 1 rfl (by omega) (by omega) ?_
  refine x_st (st' := [.int (nI c), .ref (A 8), .int 0, .int i]) (by rw [hco]) ?_
  refine x_ialdN C 15 rfl N 2 rfl (by omega) (by omega) ?_
  refine x_st (st' := [.int (nI o), .int 0, .int i]) (by rw [hoc]) ?_
  refine x_run C 16 2 (pc' := 28) (lv' := [(0, .ref o0), (1, .int (nI j)), (2, .int i)]) (st' := [.int ((nI o) - 1), .int 0, .int i]) rfl ?_
  refine x_cs C 18 (As := [.int i, .int 0, .int ((nI o) - 1)]) (rest := []) rfl vX8_135 N (c_X8_inF Y _ i 0 ((nI o) - 1)    (hi.imp id (le_pred (by omega)))) rfl rfl (Nat.le_of_ble_eq_true rfl) ⟨Nat.le_of_ble_eq_true rfl, Nat.le_of_ble_eq_true rfl⟩ ⟨Nat.zero_le _, Nat.zero_le _⟩ [] trivial (os' := [(qm, (o0, cO 8 (mo A (nI 0) su (nI sz) bl (nI ci) (nI ma) pa en wr))), (q_circuitOf, (A 15, cI Y 6 co)), (q_outputs, (A 8, cI Y 6 o1))]) rfl (st' := [.int 0]) rfl ?_
  refine x_st (st' := [.int (nI 0)]) (by simp only [nlit, nI_add, pk_mul]) ?_
  refine x_ifN_ne C 19 (by omega) rfl (tgt := 36) rfl (fun hc2 => absurd hc2 (by omega)) (fun hc2 => ?_)
  refine x_run C 20 1 (pc' := 35) (lv' := [(0, .ref o0), (1, .int (nI j)), (2, .int i)]) (st' := [.int (-1)]) rfl ?_
  exact x_iret C B rfl 21 rfl (Nat.zero_le _) (Nat.zero_le _) ⟨by first | rfl | (simp only [nlit, nI_add, pk_mul]; done), by first | rfl | (simp only [nlit, nI_add, pk_mul]; done)⟩
set_option maxHeartbeats 4000000 in
set_option maxRecDepth 100000 in
theorem c_X8_openN (Y : xD) (w : va_W) (o0 : Nat) (A : Nat → Nat) (th : Int32) (su : Int32) (sz : Nat) (bl : Int32) (ci : Nat) (ma : Nat) (pa : Int32) (en : Int32) (wr : Int32) (co : Nat → Int32) (o1 : Nat → Int32) (j : Nat) (c : Nat) (o : Nat) (p1 : Nat → Int32) (fh : Nat → Int32) (i : Nat) (ou : Nat → Nat) (qm q_circuitOf q_outputs q_outputOf q_has : Nat) (e0 : w[qm]? = some (o0, cO 8 (mo A th su (nI sz) bl (nI ci) (nI ma) pa en wr))) (e1 : w[q_circuitOf]? = some (A 15, cI Y 6 co)) (e2 : w[q_outputs]? = some (A 8, cI Y 6 o1)) (e3 : w[q_outputOf]? = some (A 14, cI Y 48 p1)) (e4 : w[q_has]? = some (A 24, cZ Y 336 fh)) (N : xN w.length [qm, q_circuitOf, q_outputs, q_outputOf, q_has]) (hj : j < ma) (h6 : ma ≤ 6) (hc6 : c < 6) (ho8 : o ≤ 8) (hco : co j = nI c) (hoc : o1 c = nI o) (hi : i < o) (hpo : ∀ k, k < o → p1 (8 * c + k) = nI (ou k) ∧ ou k < 56) (hh : fh (56 * j + ou i) = 0) : Cf Y mX8_open 2 [.ref o0, .int (nI j), .int (nI i)] w (some (.int (-11))) [(qm, (o0, cO 8 (mo A (nI 0) su (nI sz) bl (nI ci) (nI ma) pa en wr))), (q_circuitOf, (A 15, cI Y 6 co)), (q_outputs, (A 8, cI Y 6 o1)), (q_outputOf, (A 14, cI Y 48 p1)), (q_has, (A 24, cZ Y 336 fh))] := by
  refine Ct.intro (T := tX8_open) (by decide) oX8_open (Nat.le_of_ble_eq_true rfl) (fun G C B => ?_)
  refine x_lay [(qm, (o0, cO 8 (mo A th su (nI sz) bl (nI ci) (nI ma) pa en wr))), (q_circuitOf, (A 15, cI Y 6 co)), (q_outputs, (A 8, cI Y 6 o1)), (q_outputOf, (A 14, cI Y 48 p1)), (q_has, (A 24, cZ Y 336 fh))] (lay_cons e0 (lay_cons e1 (lay_cons e2 (lay_cons e3 (lay_cons e4 lay_nil))))) ?_
  refine x_run C 0 2 (pc' := 2) (lv' := [(0, .ref o0), (1, .int (nI j)), (2, .int (nI i))]) (st' := [.int 0, .ref o0]) rfl ?_
  refine x_put C 2 rfl pX8_117 N 0 rfl rfl rfl (Nat.le_of_ble_eq_true rfl) (os' := [(qm, (o0, cO 8 (mo A (nI 0) su (nI sz) bl (nI ci) (nI ma) pa en wr))), (q_circuitOf, (A 15, cI Y 6 co)), (q_outputs, (A 8, cI Y 6 o1)), (q_outputOf, (A 14, cI Y 48 p1)), (q_has, (A 24, cZ Y 336 fh))]) rfl ?_
  refine x_run C 3 2 (pc' := 7) (lv' := [(0, .ref o0), (1, .int (nI j)), (2, .int (nI i))]) (st' := [.int (nI j), .ref o0]) rfl ?_
  refine x_cv C 5 (As := [.int (nI j)]) (rest := []) rfl vX8_230 N 0 rfl rfl (c_X8_isGarbled Y _ o0 A (nI 0) su sz bl ci ma pa en wr j qm (ovl_at 0 N rfl) (N.ov [0] (by decide) rfl) (by first | assumption | omega) (by first | assumption | omega)) rfl rfl (Nat.le_of_ble_eq_true rfl) ⟨Nat.le_of_ble_eq_true rfl, Nat.le_of_ble_eq_true rfl⟩ ⟨Nat.zero_le _, Nat.zero_le _⟩ [0] ⟨rfl, trivial⟩ (os' := [(qm, (o0, cO 8 (mo A (nI 0) su (nI sz) bl (nI ci) (nI ma) pa en wr))), (q_circuitOf, (A 15, cI Y 6 co)), (q_outputs, (A 8, cI Y 6 o1)), (q_outputOf, (A 14, cI Y 48 p1)), (q_has, (A 24, cZ Y 336 fh))]) rfl (st' := [.int 1]) rfl ?_
  refine x_st (st' := [.int (nI 1)]) (by simp only [nlit, nI_add, pk_mul]) ?_
  refine x_ifN_eq C 6 (by omega) rfl (tgt := 34) rfl (fun hc1 => absurd hc1 (by omega)) (fun hc1 => ?_)
  refine x_run C 7 3 (pc' := 16) (lv' := [(0, .ref o0), (1, .int (nI j)), (2, .int (nI i))]) (st' := [.ref o0, .int 0, .int (nI i)]) rfl ?_
  refine x_get C 10 rfl fX8_34 N 0 rfl (v := .ref (A 8)) rfl ?_
  refine x_run C 11 1 (pc' := 20) (lv' := [(0, .ref o0), (1, .int (nI j)), (2, .int (nI i))]) (st' := [.ref o0, .ref (A 8), .int 0, .int (nI i)]) rfl ?_
  refine x_get C 12 rfl fX8_55 N 0 rfl (v := .ref (A 15)) rfl ?_
  refine x_run C 13 1 (pc' := 24) (lv' := [(0, .ref o0), (1, .int (nI j)), (2, .int (nI i))]) (st' := [.int (nI j), .ref (A 15), .ref (A 8), .int 0, .int (nI i)]) rfl ?_
  refine x_ialdN C 14 rfl N 1 rfl (by omega) (by omega) ?_
  refine x_st (st' := [.int (nI c), .ref (A 8), .int 0, .int (nI i)]) (by rw [hco]) ?_
  refine x_ialdN C 15 rfl N 2 rfl (by omega) (by omega) ?_
  refine x_st (st' := [.int (nI o), .int 0, .int (nI i)]) (by rw [hoc]) ?_
  refine x_run C 16 2 (pc' := 28) (lv' := [(0, .ref o0), (1, .int (nI j)), (2, .int (nI i))]) (st' := [.int ((nI o) - 1), .int 0, .int (nI i)]) rfl ?_
  refine x_st (st' := [.int (nI (o - 1)), .int 0, .int (nI i)]) (by simp only [nlit, nI_add, pk_mul, pk_sub (show 1 ≤ o by omega)]) ?_
  refine x_st (st' := [.int (nI (o - 1)), .int (nI 0), .int (nI i)]) (by simp only [nlit, nI_add, pk_mul]) ?_
  refine x_cs C 18 (As := [.int (nI i), .int (nI 0), .int (nI (o - 1))]) (rest := []) rfl vX8_135 N (c_X8_in Y _ i 0 (o - 1)    (by first | assumption | omega) (by first | assumption | omega) (by first | assumption | omega)) rfl rfl (Nat.le_of_ble_eq_true rfl) ⟨Nat.le_of_ble_eq_true rfl, Nat.le_of_ble_eq_true rfl⟩ ⟨Nat.zero_le _, Nat.zero_le _⟩ [] trivial (os' := [(qm, (o0, cO 8 (mo A (nI 0) su (nI sz) bl (nI ci) (nI ma) pa en wr))), (q_circuitOf, (A 15, cI Y 6 co)), (q_outputs, (A 8, cI Y 6 o1)), (q_outputOf, (A 14, cI Y 48 p1)), (q_has, (A 24, cZ Y 336 fh))]) rfl (st' := [.int 1]) rfl ?_
  refine x_st (st' := [.int (nI 1)]) (by simp only [nlit, nI_add, pk_mul]) ?_
  refine x_ifN_ne C 19 (by omega) rfl (tgt := 36) rfl (fun hc2 => ?_) (fun hc2 => absurd hc2 (by omega))
  refine x_run C 22 1 (pc' := 37) (lv' := [(0, .ref o0), (1, .int (nI j)), (2, .int (nI i))]) (st' := [.ref o0]) rfl ?_
  refine x_get C 23 rfl fX8_52 N 0 rfl (v := .ref (A 14)) rfl ?_
  refine x_run C 24 2 (pc' := 43) (lv' := [(0, .ref o0), (1, .int (nI j)), (2, .int (nI i))]) (st' := [.ref o0, .int 8, .ref (A 14)]) rfl ?_
  refine x_get C 26 rfl fX8_55 N 0 rfl (v := .ref (A 15)) rfl ?_
  refine x_run C 27 1 (pc' := 47) (lv' := [(0, .ref o0), (1, .int (nI j)), (2, .int (nI i))]) (st' := [.int (nI j), .ref (A 15), .int 8, .ref (A 14)]) rfl ?_
  refine x_ialdN C 28 rfl N 1 rfl (by omega) (by omega) ?_
  refine x_st (st' := [.int (nI c), .int 8, .ref (A 14)]) (by rw [hco]) ?_
  refine x_run C 29 3 (pc' := 51) (lv' := [(0, .ref o0), (1, .int (nI j)), (2, .int (nI i))]) (st' := [.int ((8 * (nI c)) + (nI i)), .ref (A 14)]) rfl ?_
  refine x_st (st' := [.int (nI ((8 * c) + i)), .ref (A 14)]) (by simp only [nlit, nI_add, pk_mul]) ?_
  refine x_ialdN C 32 rfl N 3 rfl (by omega) (by omega) ?_
  refine x_st (st' := [.int (nI (ou i))]) (by rw [(hpo i (by omega)).1]) ?_
  refine x_run C 33 2 (pc' := 54) (lv' := [(3, .int (nI (ou i))), (0, .ref o0), (1, .int (nI j)), (2, .int (nI i))]) (st' := [.ref o0]) rfl ?_
  refine x_get C 35 rfl fX8_82 N 0 rfl (v := .ref (A 24)) rfl ?_
  refine x_run C 36 5 (pc' := 63) (lv' := [(3, .int (nI (ou i))), (0, .ref o0), (1, .int (nI j)), (2, .int (nI i))]) (st' := [.int ((56 * (nI j)) + (nI (ou i))), .ref (A 24)]) rfl ?_
  refine x_st (st' := [.int (nI ((56 * j) + (ou i))), .ref (A 24)]) (by simp only [nlit, nI_add, pk_mul]) ?_
  refine x_zaldN C 41 rfl N 4 rfl (by have := (hpo i (by omega)).2; omega) (by omega) ?_
  refine x_if_eq C 42 rfl (tgt := 76) rfl (fun hc3 => ?_) (fun hc3 => ?_)
  · refine x_run C 48 1 (pc' := 78) (lv' := [(3, .int (nI (ou i))), (0, .ref o0), (1, .int (nI j)), (2, .int (nI i))]) (st' := [.int (-11)]) rfl ?_
    exact x_iret C B rfl 49 rfl (Nat.zero_le _) (Nat.zero_le _) ⟨by first | contradiction | (simp only [if_pos hc3]; done) | (simp only [if_pos hc3]; simp only [nlit, nI_add, pk_mul]; done) | (simp only [if_pos hc3, nlit, nI_add, pk_mul]; done) | rfl | (simp only [if_pos hc3]; rfl) | (simp only [if_pos hc3, nlit, nI_add, pk_mul]; rfl), by first | contradiction | (simp only [if_pos hc3]; done) | (simp only [if_pos hc3]; simp only [nlit, nI_add, pk_mul]; done) | (simp only [if_pos hc3, nlit, nI_add, pk_mul]; done) | rfl | (simp only [if_pos hc3]; rfl) | (simp only [if_pos hc3, nlit, nI_add, pk_mul]; rfl)⟩
  · exact absurd hh hc3
set_option maxHeartbeats 4000000 in
set_option maxRecDepth 100000 in
theorem c_X8_open (Y : xD) (w : va_W) (o0 : Nat) (A : Nat → Nat) (th : Int32) (su : Int32) (sz : Nat) (bl : Int32) (ci : Nat) (ma : Nat) (pa : Int32) (en : Int32) (wr : Int32) (co : Nat → Int32) (o1 : Nat → Int32) (j : Nat) (c : Nat) (o : Nat) (p1 : Nat → Int32) (fh : Nat → Int32) (i : Nat) (ou : Nat → Nat) (fn : Nat → Nat) (fz : Nat → Nat) (fd : Nat → Nat) (qm q_circuitOf q_outputs q_outputOf q_has q_now q_zero q_delta : Nat) (e0 : w[qm]? = some (o0, cO 8 (mo A th su (nI sz) bl (nI ci) (nI ma) pa en wr))) (e1 : w[q_circuitOf]? = some (A 15, cI Y 6 co)) (e2 : w[q_outputs]? = some (A 8, cI Y 6 o1)) (e3 : w[q_outputOf]? = some (A 14, cI Y 48 p1)) (e4 : w[q_has]? = some (A 24, cZ Y 336 fh)) (e5 : w[q_now]? = some (A 23, cI Y 5376 (iF fn))) (e6 : w[q_zero]? = some (A 21, cI Y 5376 (iF fz))) (e7 : w[q_delta]? = some (A 20, cI Y 96 (iF fd))) (N : xN w.length [qm, q_circuitOf, q_outputs, q_outputOf, q_has, q_now, q_zero, q_delta]) (hj : j < ma) (h6 : ma ≤ 6) (hc6 : c < 6) (ho8 : o ≤ 8) (hco : co j = nI c) (hoc : o1 c = nI o) (hi : i < o) (hpo : ∀ k, k < o → p1 (8 * c + k) = nI (ou k) ∧ ou k < 56) (hh : ¬ fh (56 * j + ou i) = 0) : Cf Y mX8_open 2 [.ref o0, .int (nI j), .int (nI i)] w (some (.int (opM fn fz fd j (ou i)))) [(qm, (o0, cO 8 (mo A (nI 0) su (nI sz) bl (nI ci) (nI ma) pa en wr))), (q_circuitOf, (A 15, cI Y 6 co)), (q_outputs, (A 8, cI Y 6 o1)), (q_outputOf, (A 14, cI Y 48 p1)), (q_has, (A 24, cZ Y 336 fh)), (q_now, (A 23, cI Y 5376 (iF fn))), (q_zero, (A 21, cI Y 5376 (iF fz))), (q_delta, (A 20, cI Y 96 (iF fd)))] := by
  refine Ct.intro (T := tX8_open) (by decide) oX8_open (Nat.le_of_ble_eq_true rfl) (fun G C B => ?_)
  refine x_lay [(qm, (o0, cO 8 (mo A th su (nI sz) bl (nI ci) (nI ma) pa en wr))), (q_circuitOf, (A 15, cI Y 6 co)), (q_outputs, (A 8, cI Y 6 o1)), (q_outputOf, (A 14, cI Y 48 p1)), (q_has, (A 24, cZ Y 336 fh)), (q_now, (A 23, cI Y 5376 (iF fn))), (q_zero, (A 21, cI Y 5376 (iF fz))), (q_delta, (A 20, cI Y 96 (iF fd)))] (lay_cons e0 (lay_cons e1 (lay_cons e2 (lay_cons e3 (lay_cons e4 (lay_cons e5 (lay_cons e6 (lay_cons e7 lay_nil)))))))) ?_
  refine x_run C 0 2 (pc' := 2) (lv' := [(0, .ref o0), (1, .int (nI j)), (2, .int (nI i))]) (st' := [.int 0, .ref o0]) rfl ?_
  refine x_put C 2 rfl pX8_117 N 0 rfl rfl rfl (Nat.le_of_ble_eq_true rfl) (os' := [(qm, (o0, cO 8 (mo A (nI 0) su (nI sz) bl (nI ci) (nI ma) pa en wr))), (q_circuitOf, (A 15, cI Y 6 co)), (q_outputs, (A 8, cI Y 6 o1)), (q_outputOf, (A 14, cI Y 48 p1)), (q_has, (A 24, cZ Y 336 fh)), (q_now, (A 23, cI Y 5376 (iF fn))), (q_zero, (A 21, cI Y 5376 (iF fz))), (q_delta, (A 20, cI Y 96 (iF fd)))]) rfl ?_
  refine x_run C 3 2 (pc' := 7) (lv' := [(0, .ref o0), (1, .int (nI j)), (2, .int (nI i))]) (st' := [.int (nI j), .ref o0]) rfl ?_
  refine x_cv C 5 (As := [.int (nI j)]) (rest := []) rfl vX8_230 N 0 rfl rfl (c_X8_isGarbled Y _ o0 A (nI 0) su sz bl ci ma pa en wr j qm (ovl_at 0 N rfl) (N.ov [0] (by decide) rfl) (by first | assumption | omega) (by first | assumption | omega)) rfl rfl (Nat.le_of_ble_eq_true rfl) ⟨Nat.le_of_ble_eq_true rfl, Nat.le_of_ble_eq_true rfl⟩ ⟨Nat.zero_le _, Nat.zero_le _⟩ [0] ⟨rfl, trivial⟩ (os' := [(qm, (o0, cO 8 (mo A (nI 0) su (nI sz) bl (nI ci) (nI ma) pa en wr))), (q_circuitOf, (A 15, cI Y 6 co)), (q_outputs, (A 8, cI Y 6 o1)), (q_outputOf, (A 14, cI Y 48 p1)), (q_has, (A 24, cZ Y 336 fh)), (q_now, (A 23, cI Y 5376 (iF fn))), (q_zero, (A 21, cI Y 5376 (iF fz))), (q_delta, (A 20, cI Y 96 (iF fd)))]) rfl (st' := [.int 1]) rfl ?_
  refine x_st (st' := [.int (nI 1)]) (by simp only [nlit, nI_add, pk_mul]) ?_
  refine x_ifN_eq C 6 (by omega) rfl (tgt := 34) rfl (fun hc1 => absurd hc1 (by omega)) (fun hc1 => ?_)
  refine x_run C 7 3 (pc' := 16) (lv' := [(0, .ref o0), (1, .int (nI j)), (2, .int (nI i))]) (st' := [.ref o0, .int 0, .int (nI i)]) rfl ?_
  refine x_get C 10 rfl fX8_34 N 0 rfl (v := .ref (A 8)) rfl ?_
  refine x_run C 11 1 (pc' := 20) (lv' := [(0, .ref o0), (1, .int (nI j)), (2, .int (nI i))]) (st' := [.ref o0, .ref (A 8), .int 0, .int (nI i)]) rfl ?_
  refine x_get C 12 rfl fX8_55 N 0 rfl (v := .ref (A 15)) rfl ?_
  refine x_run C 13 1 (pc' := 24) (lv' := [(0, .ref o0), (1, .int (nI j)), (2, .int (nI i))]) (st' := [.int (nI j), .ref (A 15), .ref (A 8), .int 0, .int (nI i)]) rfl ?_
  refine x_ialdN C 14 rfl N 1 rfl (by omega) (by omega) ?_
  refine x_st (st' := [.int (nI c), .ref (A 8), .int 0, .int (nI i)]) (by rw [hco]) ?_
  refine x_ialdN C 15 rfl N 2 rfl (by omega) (by omega) ?_
  refine x_st (st' := [.int (nI o), .int 0, .int (nI i)]) (by rw [hoc]) ?_
  refine x_run C 16 2 (pc' := 28) (lv' := [(0, .ref o0), (1, .int (nI j)), (2, .int (nI i))]) (st' := [.int ((nI o) - 1), .int 0, .int (nI i)]) rfl ?_
  refine x_st (st' := [.int (nI (o - 1)), .int 0, .int (nI i)]) (by simp only [nlit, nI_add, pk_mul, pk_sub (show 1 ≤ o by omega)]) ?_
  refine x_st (st' := [.int (nI (o - 1)), .int (nI 0), .int (nI i)]) (by simp only [nlit, nI_add, pk_mul]) ?_
  refine x_cs C 18 (As := [.int (nI i), .int (nI 0), .int (nI (o - 1))]) (rest := []) rfl vX8_135 N (c_X8_in Y _ i 0 (o - 1)    (by first | assumption | omega) (by first | assumption | omega) (by first | assumption | omega)) rfl rfl (Nat.le_of_ble_eq_true rfl) ⟨Nat.le_of_ble_eq_true rfl, Nat.le_of_ble_eq_true rfl⟩ ⟨Nat.zero_le _, Nat.zero_le _⟩ [] trivial (os' := [(qm, (o0, cO 8 (mo A (nI 0) su (nI sz) bl (nI ci) (nI ma) pa en wr))), (q_circuitOf, (A 15, cI Y 6 co)), (q_outputs, (A 8, cI Y 6 o1)), (q_outputOf, (A 14, cI Y 48 p1)), (q_has, (A 24, cZ Y 336 fh)), (q_now, (A 23, cI Y 5376 (iF fn))), (q_zero, (A 21, cI Y 5376 (iF fz))), (q_delta, (A 20, cI Y 96 (iF fd)))]) rfl (st' := [.int 1]) rfl ?_
  refine x_st (st' := [.int (nI 1)]) (by simp only [nlit, nI_add, pk_mul]) ?_
  refine x_ifN_ne C 19 (by omega) rfl (tgt := 36) rfl (fun hc2 => ?_) (fun hc2 => absurd hc2 (by omega))
  refine x_run C 22 1 (pc' := 37) (lv' := [(0, .ref o0), (1, .int (nI j)), (2, .int (nI i))]) (st' := [.ref o0]) rfl ?_
  refine x_get C 23 rfl fX8_52 N 0 rfl (v := .ref (A 14)) rfl ?_
  refine x_run C 24 2 (pc' := 43) (lv' := [(0, .ref o0), (1, .int (nI j)), (2, .int (nI i))]) (st' := [.ref o0, .int 8, .ref (A 14)]) rfl ?_
  refine x_get C 26 rfl fX8_55 N 0 rfl (v := .ref (A 15)) rfl ?_
  refine x_run C 27 1 (pc' := 47) (lv' := [(0, .ref o0), (1, .int (nI j)), (2, .int (nI i))]) (st' := [.int (nI j), .ref (A 15), .int 8, .ref (A 14)]) rfl ?_
  refine x_ialdN C 28 rfl N 1 rfl (by omega) (by omega) ?_
  refine x_st (st' := [.int (nI c), .int 8, .ref (A 14)]) (by rw [hco]) ?_
  refine x_run C 29 3 (pc' := 51) (lv' := [(0, .ref o0), (1, .int (nI j)), (2, .int (nI i))]) (st' := [.int ((8 * (nI c)) + (nI i)), .ref (A 14)]) rfl ?_
  refine x_st (st' := [.int (nI ((8 * c) + i)), .ref (A 14)]) (by simp only [nlit, nI_add, pk_mul]) ?_
  refine x_ialdN C 32 rfl N 3 rfl (by omega) (by omega) ?_
  refine x_st (st' := [.int (nI (ou i))]) (by rw [(hpo i (by omega)).1]) ?_
  refine x_run C 33 2 (pc' := 54) (lv' := [(3, .int (nI (ou i))), (0, .ref o0), (1, .int (nI j)), (2, .int (nI i))]) (st' := [.ref o0]) rfl ?_
  refine x_get C 35 rfl fX8_82 N 0 rfl (v := .ref (A 24)) rfl ?_
  refine x_run C 36 5 (pc' := 63) (lv' := [(3, .int (nI (ou i))), (0, .ref o0), (1, .int (nI j)), (2, .int (nI i))]) (st' := [.int ((56 * (nI j)) + (nI (ou i))), .ref (A 24)]) rfl ?_
  refine x_st (st' := [.int (nI ((56 * j) + (ou i))), .ref (A 24)]) (by simp only [nlit, nI_add, pk_mul]) ?_
  refine x_zaldN C 41 rfl N 4 rfl (by have := (hpo i (by omega)).2; omega) (by omega) ?_
  refine x_if_eq C 42 rfl (tgt := 76) rfl (fun hc3 => ?_) (fun hc3 => ?_)
  · exact absurd hc3 hh
  · refine x_run C 43 3 (pc' := 70) (lv' := [(3, .int (nI (ou i))), (0, .ref o0), (1, .int (nI j)), (2, .int (nI i))]) (st' := [.int (nI (ou i)), .int (nI j), .ref o0]) rfl ?_
    refine x_cv C 46 (As := [.int (nI j), .int (nI (ou i))]) (rest := []) rfl vX8_254 N 0 rfl rfl (c_X8_opened Y _ o0 A (nI 0) su sz bl ci ma pa en wr fn fz fd j (ou i) qm q_now q_zero q_delta (ovl_at 0 N rfl) (ovl_at 5 N rfl) (ovl_at 6 N rfl) (ovl_at 7 N rfl) (N.ov [0, 5, 6, 7] (by decide) rfl) (by first | assumption | omega) (hpo i (by omega)).2) rfl rfl (Nat.le_of_ble_eq_true rfl) ⟨Nat.le_of_ble_eq_true rfl, Nat.le_of_ble_eq_true rfl⟩ ⟨Nat.zero_le _, Nat.zero_le _⟩ [0, 5, 6, 7] ⟨rfl, rfl, rfl, rfl, trivial⟩ (os' := [(qm, (o0, cO 8 (mo A (nI 0) su (nI sz) bl (nI ci) (nI ma) pa en wr))), (q_circuitOf, (A 15, cI Y 6 co)), (q_outputs, (A 8, cI Y 6 o1)), (q_outputOf, (A 14, cI Y 48 p1)), (q_has, (A 24, cZ Y 336 fh)), (q_now, (A 23, cI Y 5376 (iF fn))), (q_zero, (A 21, cI Y 5376 (iF fz))), (q_delta, (A 20, cI Y 96 (iF fd)))]) rfl (st' := [.int (opM fn fz fd j (ou i))]) rfl ?_
    refine x_run C 47 1 (pc' := 78) (lv' := [(3, .int (nI (ou i))), (0, .ref o0), (1, .int (nI j)), (2, .int (nI i))]) (st' := [.int (opM fn fz fd j (ou i))]) rfl ?_
    exact x_iret C B rfl 49 rfl (Nat.zero_le _) (Nat.zero_le _) ⟨by first | contradiction | (simp only [if_neg hc3]; done) | (simp only [if_neg hc3]; simp only [nlit, nI_add, pk_mul]; done) | (simp only [if_neg hc3, nlit, nI_add, pk_mul]; done) | rfl | (simp only [if_neg hc3]; rfl) | (simp only [if_neg hc3, nlit, nI_add, pk_mul]; rfl), by first | contradiction | (simp only [if_neg hc3]; done) | (simp only [if_neg hc3]; simp only [nlit, nI_add, pk_mul]; done) | (simp only [if_neg hc3, nlit, nI_add, pk_mul]; done) | rfl | (simp only [if_neg hc3]; rfl) | (simp only [if_neg hc3, nlit, nI_add, pk_mul]; rfl)⟩
set_option maxHeartbeats 4000000 in
set_option maxRecDepth 100000 in
theorem c_X8_openedAll (Y : xD) (w : va_W) (o0 : Nat) (A : Nat → Nat) (th : Int32) (su : Int32) (sz : Nat) (bl : Int32) (ci : Nat) (ma : Nat) (pa : Int32) (en : Int32) (wr : Int32) (co : Nat → Int32) (o1 : Nat → Int32) (p1 : Nat → Int32) (fn : Nat → Nat) (fz : Nat → Nat) (fd : Nat → Nat) (ou : Nat → Nat) (j : Nat) (c : Nat) (o : Nat) (qm q_circuitOf q_outputs q_outputOf q_now q_zero q_delta : Nat) (e0 : w[qm]? = some (o0, cO 8 (mo A th su (nI sz) bl (nI ci) (nI ma) pa en wr))) (e1 : w[q_circuitOf]? = some (A 15, cI Y 6 co)) (e2 : w[q_outputs]? = some (A 8, cI Y 6 o1)) (e3 : w[q_outputOf]? = some (A 14, cI Y 48 p1)) (e4 : w[q_now]? = some (A 23, cI Y 5376 (iF fn))) (e5 : w[q_zero]? = some (A 21, cI Y 5376 (iF fz))) (e6 : w[q_delta]? = some (A 20, cI Y 96 (iF fd))) (N : xN w.length [qm, q_circuitOf, q_outputs, q_outputOf, q_now, q_zero, q_delta]) (hj6 : j < 6) (hc6 : c < 6) (ho8 : o ≤ 8) (hco : co j = nI c) (hoc : o1 c = nI o) (hpo : ∀ k, k < o → p1 (8 * c + k) = nI (ou k) ∧ ou k < 56) : Cf Y mX8_openedAll 2 [.ref o0, .int (nI j)] w (some (.int (oaD (fun q => opM fn fz fd j (ou q)) o o))) [(qm, (o0, cO 8 (mo A th su (nI sz) bl (nI ci) (nI ma) pa en wr))), (q_circuitOf, (A 15, cI Y 6 co)), (q_outputs, (A 8, cI Y 6 o1)), (q_outputOf, (A 14, cI Y 48 p1)), (q_now, (A 23, cI Y 5376 (iF fn))), (q_zero, (A 21, cI Y 5376 (iF fz))), (q_delta, (A 20, cI Y 96 (iF fd)))] := by
  refine Ct.intro (T := tX8_openedAll) (by decide) oX8_openedAll (Nat.le_of_ble_eq_true rfl) (fun G C B => ?_)
  refine x_lay [(qm, (o0, cO 8 (mo A th su (nI sz) bl (nI ci) (nI ma) pa en wr))), (q_circuitOf, (A 15, cI Y 6 co)), (q_outputs, (A 8, cI Y 6 o1)), (q_outputOf, (A 14, cI Y 48 p1)), (q_now, (A 23, cI Y 5376 (iF fn))), (q_zero, (A 21, cI Y 5376 (iF fz))), (q_delta, (A 20, cI Y 96 (iF fd)))] (lay_cons e0 (lay_cons e1 (lay_cons e2 (lay_cons e3 (lay_cons e4 (lay_cons e5 (lay_cons e6 lay_nil))))))) ?_
  refine x_run C 0 1 (pc' := 1) (lv' := [(0, .ref o0), (1, .int (nI j))]) (st' := [.ref o0]) rfl ?_
  refine x_get C 1 rfl fX8_55 N 0 rfl (v := .ref (A 15)) rfl ?_
  refine x_run C 2 1 (pc' := 5) (lv' := [(0, .ref o0), (1, .int (nI j))]) (st' := [.int (nI j), .ref (A 15)]) rfl ?_
  refine x_ialdN C 3 rfl N 1 rfl (by omega) (by omega) ?_
  refine x_st (st' := [.int (nI c)]) (by rw [hco]) ?_
  refine x_run C 4 4 (pc' := 10) (lv' := [(3, .int 0), (2, .int (nI c)), (0, .ref o0), (1, .int (nI j))]) (st' := [.ref o0]) rfl ?_
  refine x_get C 8 rfl fX8_34 N 0 rfl (v := .ref (A 8)) rfl ?_
  refine x_run C 9 1 (pc' := 14) (lv' := [(3, .int 0), (2, .int (nI c)), (0, .ref o0), (1, .int (nI j))]) (st' := [.int (nI c), .ref (A 8)]) rfl ?_
  refine x_ialdN C 10 rfl N 2 rfl (by omega) (by omega) ?_
  refine x_st (st' := [.int (nI o)]) (by rw [hoc]) ?_
  refine x_run C 11 3 (pc' := 19) (lv' := [(4, .int ((nI o) - 1)), (3, .int 0), (2, .int (nI c)), (0, .ref o0), (1, .int (nI j))]) (st' := []) rfl ?_
  have L19 : ∀ k : Nat, 0 ≤ k → k ≤ o → X G Y 0 0 19 [(0, .ref o0), (1, .int (nI j)), (2, .int (nI c)), (3, .int (oaD (fun q => opM fn fz fd j (ou q)) o k)), (4, .int (nI (o - k) - 1))] [] (ovl w [(qm, (o0, cO 8 (mo A th su (nI sz) bl (nI ci) (nI ma) pa en wr))), (q_circuitOf, (A 15, cI Y 6 co)), (q_outputs, (A 8, cI Y 6 o1)), (q_outputOf, (A 14, cI Y 48 p1)), (q_now, (A 23, cI Y 5376 (iF fn))), (q_zero, (A 21, cI Y 5376 (iF fz))), (q_delta, (A 20, cI Y 96 (iF fd)))]) := by
    intro k lo19 hi19
    revert lo19
    refine x_up (fun k => 0 ≤ k → X G Y 0 0 19 [(0, .ref o0), (1, .int (nI j)), (2, .int (nI c)), (3, .int (oaD (fun q => opM fn fz fd j (ou q)) o k)), (4, .int (nI (o - k) - 1))] [] (ovl w [(qm, (o0, cO 8 (mo A th su (nI sz) bl (nI ci) (nI ma) pa en wr))), (q_circuitOf, (A 15, cI Y 6 co)), (q_outputs, (A 8, cI Y 6 o1)), (q_outputOf, (A 14, cI Y 48 p1)), (q_now, (A 23, cI Y 5376 (iF fn))), (q_zero, (A 21, cI Y 5376 (iF fz))), (q_delta, (A 20, cI Y 96 (iF fd)))])) o ?_ ?_ k hi19
    · intro lo19
      refine x_run C 14 1 (pc' := 21) (lv' := [(0, .ref o0), (1, .int (nI j)), (2, .int (nI c)), (3, .int (oaD (fun q => opM fn fz fd j (ou q)) o o)), (4, .int (nI (o - o) - 1))]) (st' := [.int (nI (o - o) - 1)]) rfl ?_
      refine x_if_lt C 15 rfl (tgt := 79) rfl (fun hc1 => ?_) (fun hc1 => ?_)
      · refine x_run C 47 1 (pc' := 80) (lv' := [(0, .ref o0), (1, .int (nI j)), (2, .int (nI c)), (3, .int (oaD (fun q => opM fn fz fd j (ou q)) o o)), (4, .int (nI (o - o) - 1))]) (st' := [.int (oaD (fun q => opM fn fz fd j (ou q)) o o)]) rfl ?_
        exact x_iret C B rfl 48 rfl (Nat.zero_le _) (Nat.zero_le _) ⟨by first | contradiction | (simp only [if_pos hc1]; done) | (simp only [if_pos hc1]; simp only [nlit, nI_add, pk_mul]; done) | (simp only [if_pos hc1, nlit, nI_add, pk_mul]; done) | rfl | (simp only [if_pos hc1]; rfl) | (simp only [if_pos hc1, nlit, nI_add, pk_mul]; rfl), by first | contradiction | (simp only [if_pos hc1]; done) | (simp only [if_pos hc1]; simp only [nlit, nI_add, pk_mul]; done) | (simp only [if_pos hc1, nlit, nI_add, pk_mul]; done) | rfl | (simp only [if_pos hc1]; rfl) | (simp only [if_pos hc1, nlit, nI_add, pk_mul]; rfl)⟩
      · exact absurd hc1 (fun z => z (by rw [Nat.sub_self]; decide))
    · intro k hi19 ih19 lo19
      refine x_loc (lv' := [(0, .ref o0), (1, .int (nI j)), (2, .int (nI c)), (3, .int (oaD (fun q => opM fn fz fd j (ou q)) o k)), (4, .int (nI (o - k - 1)))]) (by rw [dn_eq (by omega)]) ?_
      refine x_run C 14 1 (pc' := 21) (lv' := [(0, .ref o0), (1, .int (nI j)), (2, .int (nI c)), (3, .int (oaD (fun q => opM fn fz fd j (ou q)) o k)), (4, .int (nI (o - k - 1)))]) (st' := [.int (nI (o - k - 1))]) rfl ?_
      refine x_if_lt C 15 rfl (tgt := 79) rfl (fun hc2 => absurd hc2 (nI_pos (by omega))) (fun hc2 => ?_)
      refine x_run C 16 3 (pc' := 27) (lv' := [(0, .ref o0), (1, .int (nI j)), (2, .int (nI c)), (3, .int (oaD (fun q => opM fn fz fd j (ou q)) o k)), (4, .int (nI (o - k - 1)))]) (st' := [.ref o0, .int (nI j), .ref o0]) rfl ?_
      refine x_get C 19 rfl fX8_52 N 0 rfl (v := .ref (A 14)) rfl ?_
      refine x_run C 20 5 (pc' := 37) (lv' := [(0, .ref o0), (1, .int (nI j)), (2, .int (nI c)), (3, .int (oaD (fun q => opM fn fz fd j (ou q)) o k)), (4, .int (nI (o - k - 1)))]) (st' := [.int ((8 * (nI c)) + (nI (o - k - 1))), .ref (A 14), .int (nI j), .ref o0]) rfl ?_
      refine x_st (st' := [.int (nI ((8 * c) + (o - k - 1))), .ref (A 14), .int (nI j), .ref o0]) (by simp only [nlit, nI_add, pk_mul]) ?_
      refine x_ialdN C 25 rfl N 3 rfl (by omega) (by omega) ?_
      refine x_st (st' := [.int (nI (ou (o - k - 1))), .int (nI j), .ref o0]) (by rw [(hpo (o - k - 1) (by omega)).1]) ?_
      refine x_cv C 26 (As := [.int (nI j), .int (nI (ou (o - k - 1)))]) (rest := []) rfl vX8_254 N 0 rfl rfl (c_X8_opened Y _ o0 A th su sz bl ci ma pa en wr fn fz fd j (ou (o - k - 1)) qm q_now q_zero q_delta (ovl_at 0 N rfl) (ovl_at 4 N rfl) (ovl_at 5 N rfl) (ovl_at 6 N rfl) (N.ov [0, 4, 5, 6] (by decide) rfl) (by first | assumption | omega) (hpo _ (by omega)).2) rfl rfl (Nat.le_of_ble_eq_true rfl) ⟨Nat.le_of_ble_eq_true rfl, Nat.le_of_ble_eq_true rfl⟩ ⟨Nat.zero_le _, Nat.zero_le _⟩ [0, 4, 5, 6] ⟨rfl, rfl, rfl, rfl, trivial⟩ (os' := [(qm, (o0, cO 8 (mo A th su (nI sz) bl (nI ci) (nI ma) pa en wr))), (q_circuitOf, (A 15, cI Y 6 co)), (q_outputs, (A 8, cI Y 6 o1)), (q_outputOf, (A 14, cI Y 48 p1)), (q_now, (A 23, cI Y 5376 (iF fn))), (q_zero, (A 21, cI Y 5376 (iF fz))), (q_delta, (A 20, cI Y 96 (iF fd)))]) rfl (st' := [.int (opM fn fz fd j (ou (o - k - 1)))]) rfl ?_
      refine x_run C 27 3 (pc' := 46) (lv' := [(5, .int (opM fn fz fd j (ou (o - k - 1)))), (0, .ref o0), (1, .int (nI j)), (2, .int (nI c)), (3, .int (oaD (fun q => opM fn fz fd j (ou q)) o k)), (4, .int (nI (o - k - 1)))]) (st' := [.int 2, .int (opM fn fz fd j (ou (o - k - 1)))]) rfl ?_
      refine x_icmp_ne C 30 rfl (tgt := 57) rfl (fun hc3 => ?_) (fun hc3 => ?_)
      · refine x_run C 35 1 (pc' := 58) (lv' := [(5, .int (opM fn fz fd j (ou (o - k - 1)))), (0, .ref o0), (1, .int (nI j)), (2, .int (nI c)), (3, .int (oaD (fun q => opM fn fz fd j (ou q)) o k)), (4, .int (nI (o - k - 1)))]) (st' := [.int (oaD (fun q => opM fn fz fd j (ou q)) o k)]) rfl ?_
        refine x_if_ge C 36 rfl (tgt := 65) rfl (fun hc4 => ?_) (fun hc4 => ?_)
        · refine x_run C 39 8 (pc' := 19) (lv' := [(4, .int ((nI (o - k - 1)) + (-1))), (3, .int ((oaD (fun q => opM fn fz fd j (ou q)) o k) ||| (jshl (opM fn fz fd j (ou (o - k - 1))) (nI (o - k - 1))))), (5, .int (opM fn fz fd j (ou (o - k - 1)))), (0, .ref o0), (1, .int (nI j)), (2, .int (nI c))]) (st' := []) rfl ?_
          refine x_sub (lv' := [(0, .ref o0), (1, .int (nI j)), (2, .int (nI c)), (3, .int ((oaD (fun q => opM fn fz fd j (ou q)) o k) ||| (jshl (opM fn fz fd j (ou (o - k - 1))) (nI (o - k - 1))))), (4, .int ((nI (o - k - 1)) + (-1)))]) [3, 4, 5, 1, 0] rfl ?_
          refine x_loc (lv' := [(0, .ref o0), (1, .int (nI j)), (2, .int (nI c)), (3, .int (oaD (fun q => opM fn fz fd j (ou q)) o (k + 1))), (4, .int (nI (o - (k + 1)) - 1))]) (by simp only [oaD, if_neg hc3, if_pos hc4]; rw [show o - (k + 1) = o - k - 1 by omega, dn_m1]) ?_
          exact ih19 (by omega)
        · refine x_run C 37 2 (pc' := 72) (lv' := [(5, .int (opM fn fz fd j (ou (o - k - 1)))), (0, .ref o0), (1, .int (nI j)), (2, .int (nI c)), (3, .int (oaD (fun q => opM fn fz fd j (ou q)) o k)), (4, .int (nI (o - k - 1)))]) (st' := [.int (oaD (fun q => opM fn fz fd j (ou q)) o k)]) rfl ?_
          refine x_run C 44 3 (pc' := 19) (lv' := [(4, .int ((nI (o - k - 1)) + (-1))), (3, .int (oaD (fun q => opM fn fz fd j (ou q)) o k)), (5, .int (opM fn fz fd j (ou (o - k - 1)))), (0, .ref o0), (1, .int (nI j)), (2, .int (nI c))]) (st' := []) rfl ?_
          refine x_sub (lv' := [(0, .ref o0), (1, .int (nI j)), (2, .int (nI c)), (3, .int (oaD (fun q => opM fn fz fd j (ou q)) o k)), (4, .int ((nI (o - k - 1)) + (-1)))]) [3, 4, 5, 1, 0] rfl ?_
          refine x_loc (lv' := [(0, .ref o0), (1, .int (nI j)), (2, .int (nI c)), (3, .int (oaD (fun q => opM fn fz fd j (ou q)) o (k + 1))), (4, .int (nI (o - (k + 1)) - 1))]) (by simp only [oaD, if_neg hc3, if_neg hc4]; rw [show o - (k + 1) = o - k - 1 by omega, dn_m1]) ?_
          exact ih19 (by omega)
      · refine x_run C 31 4 (pc' := 72) (lv' := [(5, .int (opM fn fz fd j (ou (o - k - 1)))), (0, .ref o0), (1, .int (nI j)), (2, .int (nI c)), (3, .int (oaD (fun q => opM fn fz fd j (ou q)) o k)), (4, .int (nI (o - k - 1)))]) (st' := [.int ((-100) - (nI (o - k - 1)))]) rfl ?_
        refine x_run C 44 3 (pc' := 19) (lv' := [(4, .int ((nI (o - k - 1)) + (-1))), (3, .int ((-100) - (nI (o - k - 1)))), (5, .int (opM fn fz fd j (ou (o - k - 1)))), (0, .ref o0), (1, .int (nI j)), (2, .int (nI c))]) (st' := []) rfl ?_
        refine x_sub (lv' := [(0, .ref o0), (1, .int (nI j)), (2, .int (nI c)), (3, .int ((-100) - (nI (o - k - 1)))), (4, .int ((nI (o - k - 1)) + (-1)))]) [3, 4, 5, 1, 0] rfl ?_
        refine x_loc (lv' := [(0, .ref o0), (1, .int (nI j)), (2, .int (nI c)), (3, .int (oaD (fun q => opM fn fz fd j (ou q)) o (k + 1))), (4, .int (nI (o - (k + 1)) - 1))]) (by simp only [oaD, if_pos hc3]; rw [show o - (k + 1) = o - k - 1 by omega, dn_m1]) ?_
        exact ih19 (by omega)
  refine x_sub (lv' := [(0, .ref o0), (1, .int (nI j)), (2, .int (nI c)), (3, .int 0), (4, .int ((nI o) - 1))]) [3, 4, 2, 1, 0] rfl ?_
  refine x_loc (lv' := [(0, .ref o0), (1, .int (nI j)), (2, .int (nI c)), (3, .int (oaD (fun q => opM fn fz fd j (ou q)) o 0)), (4, .int (nI (o - 0) - 1))]) (by rw [Nat.sub_zero]; rfl) ?_
  exact L19 0 (Nat.le_refl _) (by omega)
set_option maxHeartbeats 4000000 in
set_option maxRecDepth 100000 in
theorem c_X8_openAllF (Y : xD) (w : va_W) (o0 : Nat) (A : Nat → Nat) (th : Int32) (su : Int32) (sz : Nat) (bl : Int32) (ci : Nat) (ma : Nat) (pa : Int32) (en : Int32) (wr : Int32) (x : Int32) (qm : Nat) (e0 : w[qm]? = some (o0, cO 8 (mo A th su (nI sz) bl (nI ci) (nI ma) pa en wr))) (N : xN w.length [qm]) (hx : x < 0 ∨ nI ma ≤ x) (h6 : ma ≤ 6) : Cf Y mX8_openAll 3 [.ref o0, .int x] w (some (.int (-1))) [(qm, (o0, cO 8 (mo A (nI 0) su (nI sz) bl (nI ci) (nI ma) pa en wr)))] := by
  refine Ct.intro (T := tX8_openAll) (by decide) oX8_openAll (Nat.le_of_ble_eq_true rfl) (fun G C B => ?_)
  refine x_lay [(qm, (o0, cO 8 (mo A th su (nI sz) bl (nI ci) (nI ma) pa en wr)))] (lay_cons e0 lay_nil) ?_
  refine x_run C 0 2 (pc' := 2) (lv' := [(0, .ref o0), (1, .int x)]) (st' := [.int 0, .ref o0]) rfl ?_
  refine x_put C 2 rfl pX8_117 N 0 rfl rfl rfl (Nat.le_of_ble_eq_true rfl) (os' := [(qm, (o0, cO 8 (mo A (nI 0) su (nI sz) bl (nI ci) (nI ma) pa en wr)))]) rfl ?_
  refine x_run C 3 2 (pc' := 7) (lv' := [(0, .ref o0), (1, .int x)]) (st' := [.int x, .ref o0]) rfl ?_
  refine x_cv C 5 (As := [.int x]) (rest := []) rfl vX8_230 N 0 rfl rfl (c_X8_isGarbledF Y _ o0 A (nI 0) su sz bl ci ma pa en wr x qm (ovl_at 0 N rfl) (N.ov [0] (by decide) rfl) hx (by first | assumption | omega)) rfl rfl (Nat.le_of_ble_eq_true rfl) ⟨Nat.le_of_ble_eq_true rfl, Nat.le_of_ble_eq_true rfl⟩ ⟨Nat.zero_le _, Nat.zero_le _⟩ [0] ⟨rfl, trivial⟩ (os' := [(qm, (o0, cO 8 (mo A (nI 0) su (nI sz) bl (nI ci) (nI ma) pa en wr)))]) rfl (st' := [.int 0]) rfl ?_
  refine x_st (st' := [.int (nI 0)]) (by simp only [nlit, nI_add, pk_mul]) ?_
  refine x_ifN_ne C 6 (by omega) rfl (tgt := 15) rfl (fun hc1 => absurd hc1 (by omega)) (fun hc1 => ?_)
  refine x_run C 7 1 (pc' := 14) (lv' := [(0, .ref o0), (1, .int x)]) (st' := [.int (-1)]) rfl ?_
  exact x_iret C B rfl 8 rfl (Nat.zero_le _) (Nat.zero_le _) ⟨by first | rfl | (simp only [nlit, nI_add, pk_mul]; done), by first | rfl | (simp only [nlit, nI_add, pk_mul]; done)⟩
set_option maxHeartbeats 4000000 in
set_option maxRecDepth 100000 in
theorem c_X8_openAllN (Y : xD) (w : va_W) (o0 : Nat) (A : Nat → Nat) (th : Int32) (su : Int32) (sz : Nat) (bl : Int32) (ci : Nat) (ma : Nat) (pa : Int32) (en : Int32) (wr : Int32) (co : Nat → Int32) (o1 : Nat → Int32) (p1 : Nat → Int32) (fh : Nat → Int32) (ou : Nat → Nat) (j : Nat) (c : Nat) (o : Nat) (qm q_circuitOf q_outputs q_outputOf q_has : Nat) (e0 : w[qm]? = some (o0, cO 8 (mo A th su (nI sz) bl (nI ci) (nI ma) pa en wr))) (e1 : w[q_circuitOf]? = some (A 15, cI Y 6 co)) (e2 : w[q_outputs]? = some (A 8, cI Y 6 o1)) (e3 : w[q_outputOf]? = some (A 14, cI Y 48 p1)) (e4 : w[q_has]? = some (A 24, cZ Y 336 fh)) (N : xN w.length [qm, q_circuitOf, q_outputs, q_outputOf, q_has]) (hj : j < ma) (h6 : ma ≤ 6) (hc6 : c < 6) (ho8 : o ≤ 8) (hco : co j = nI c) (hoc : o1 c = nI o) (hpo : ∀ k, k < o → p1 (8 * c + k) = nI (ou k) ∧ ou k < 56) (hA : ¬ (∀ q, q < o → ¬ fh (56 * j + ou q) = 0)) : Cf Y mX8_openAll 3 [.ref o0, .int (nI j)] w (some (.int (-11))) [(qm, (o0, cO 8 (mo A (nI 0) su (nI sz) bl (nI ci) (nI ma) pa en wr))), (q_circuitOf, (A 15, cI Y 6 co)), (q_outputs, (A 8, cI Y 6 o1)), (q_outputOf, (A 14, cI Y 48 p1)), (q_has, (A 24, cZ Y 336 fh))] := by
  refine Ct.intro (T := tX8_openAll) (by decide) oX8_openAll (Nat.le_of_ble_eq_true rfl) (fun G C B => ?_)
  refine x_lay [(qm, (o0, cO 8 (mo A th su (nI sz) bl (nI ci) (nI ma) pa en wr))), (q_circuitOf, (A 15, cI Y 6 co)), (q_outputs, (A 8, cI Y 6 o1)), (q_outputOf, (A 14, cI Y 48 p1)), (q_has, (A 24, cZ Y 336 fh))] (lay_cons e0 (lay_cons e1 (lay_cons e2 (lay_cons e3 (lay_cons e4 lay_nil))))) ?_
  refine x_run C 0 2 (pc' := 2) (lv' := [(0, .ref o0), (1, .int (nI j))]) (st' := [.int 0, .ref o0]) rfl ?_
  refine x_put C 2 rfl pX8_117 N 0 rfl rfl rfl (Nat.le_of_ble_eq_true rfl) (os' := [(qm, (o0, cO 8 (mo A (nI 0) su (nI sz) bl (nI ci) (nI ma) pa en wr))), (q_circuitOf, (A 15, cI Y 6 co)), (q_outputs, (A 8, cI Y 6 o1)), (q_outputOf, (A 14, cI Y 48 p1)), (q_has, (A 24, cZ Y 336 fh))]) rfl ?_
  refine x_run C 3 2 (pc' := 7) (lv' := [(0, .ref o0), (1, .int (nI j))]) (st' := [.int (nI j), .ref o0]) rfl ?_
  refine x_cv C 5 (As := [.int (nI j)]) (rest := []) rfl vX8_230 N 0 rfl rfl (c_X8_isGarbled Y _ o0 A (nI 0) su sz bl ci ma pa en wr j qm (ovl_at 0 N rfl) (N.ov [0] (by decide) rfl) (by first | assumption | omega) (by first | assumption | omega)) rfl rfl (Nat.le_of_ble_eq_true rfl) ⟨Nat.le_of_ble_eq_true rfl, Nat.le_of_ble_eq_true rfl⟩ ⟨Nat.zero_le _, Nat.zero_le _⟩ [0] ⟨rfl, trivial⟩ (os' := [(qm, (o0, cO 8 (mo A (nI 0) su (nI sz) bl (nI ci) (nI ma) pa en wr))), (q_circuitOf, (A 15, cI Y 6 co)), (q_outputs, (A 8, cI Y 6 o1)), (q_outputOf, (A 14, cI Y 48 p1)), (q_has, (A 24, cZ Y 336 fh))]) rfl (st' := [.int 1]) rfl ?_
  refine x_st (st' := [.int (nI 1)]) (by simp only [nlit, nI_add, pk_mul]) ?_
  refine x_ifN_ne C 6 (by omega) rfl (tgt := 15) rfl (fun hc1 => ?_) (fun hc1 => absurd hc1 (by omega))
  refine x_run C 9 1 (pc' := 16) (lv' := [(0, .ref o0), (1, .int (nI j))]) (st' := [.ref o0]) rfl ?_
  refine x_get C 10 rfl fX8_55 N 0 rfl (v := .ref (A 15)) rfl ?_
  refine x_run C 11 1 (pc' := 20) (lv' := [(0, .ref o0), (1, .int (nI j))]) (st' := [.int (nI j), .ref (A 15)]) rfl ?_
  refine x_ialdN C 12 rfl N 1 rfl (by omega) (by omega) ?_
  refine x_st (st' := [.int (nI c)]) (by rw [hco]) ?_
  refine x_run C 13 3 (pc' := 24) (lv' := [(3, .int 0), (2, .int (nI c)), (0, .ref o0), (1, .int (nI j))]) (st' := []) rfl ?_
  have L24 : ∀ k : Nat, 0 ≤ k → k ≤ o → (∀ q, q < k → ¬ fh (56 * j + ou q) = 0) → X G Y 0 0 24 [(0, .ref o0), (1, .int (nI j)), (2, .int (nI c)), (3, .int (nI k))] [] (ovl w [(qm, (o0, cO 8 (mo A (nI 0) su (nI sz) bl (nI ci) (nI ma) pa en wr))), (q_circuitOf, (A 15, cI Y 6 co)), (q_outputs, (A 8, cI Y 6 o1)), (q_outputOf, (A 14, cI Y 48 p1)), (q_has, (A 24, cZ Y 336 fh))]) := by
    intro k lo24 hi24
    revert lo24
    refine x_up (fun k => 0 ≤ k → (∀ q, q < k → ¬ fh (56 * j + ou q) = 0) → X G Y 0 0 24 [(0, .ref o0), (1, .int (nI j)), (2, .int (nI c)), (3, .int (nI k))] [] (ovl w [(qm, (o0, cO 8 (mo A (nI 0) su (nI sz) bl (nI ci) (nI ma) pa en wr))), (q_circuitOf, (A 15, cI Y 6 co)), (q_outputs, (A 8, cI Y 6 o1)), (q_outputOf, (A 14, cI Y 48 p1)), (q_has, (A 24, cZ Y 336 fh))])) o ?_ ?_ k hi24
    · intro lo24 iv24
      refine x_run C 16 2 (pc' := 26) (lv' := [(0, .ref o0), (1, .int (nI j)), (2, .int (nI c)), (3, .int (nI o))]) (st' := [.ref o0, .int (nI o)]) rfl ?_
      refine x_get C 18 rfl fX8_34 N 0 rfl (v := .ref (A 8)) rfl ?_
      refine x_run C 19 1 (pc' := 30) (lv' := [(0, .ref o0), (1, .int (nI j)), (2, .int (nI c)), (3, .int (nI o))]) (st' := [.int (nI c), .ref (A 8), .int (nI o)]) rfl ?_
      refine x_ialdN C 20 rfl N 2 rfl (by omega) (by omega) ?_
      refine x_st (st' := [.int (nI o), .int (nI o)]) (by rw [hoc]) ?_
      refine x_icmpN_ge C 21 (by omega) (by omega) rfl (tgt := 67) rfl (fun hc2 => ?_) (fun hc2 => ?_)
      · exact absurd iv24 hA
      · exact absurd hc2 (by omega)
    · intro k hi24 ih24 lo24 iv24
      refine x_run C 16 2 (pc' := 26) (lv' := [(0, .ref o0), (1, .int (nI j)), (2, .int (nI c)), (3, .int (nI k))]) (st' := [.ref o0, .int (nI k)]) rfl ?_
      refine x_get C 18 rfl fX8_34 N 0 rfl (v := .ref (A 8)) rfl ?_
      refine x_run C 19 1 (pc' := 30) (lv' := [(0, .ref o0), (1, .int (nI j)), (2, .int (nI c)), (3, .int (nI k))]) (st' := [.int (nI c), .ref (A 8), .int (nI k)]) rfl ?_
      refine x_ialdN C 20 rfl N 2 rfl (by omega) (by omega) ?_
      refine x_st (st' := [.int (nI o), .int (nI k)]) (by rw [hoc]) ?_
      refine x_icmpN_ge C 21 (by omega) (by omega) rfl (tgt := 67) rfl (fun hc3 => ?_) (fun hc3 => ?_)
      · exact absurd hc3 (by omega)
      · refine x_run C 22 1 (pc' := 35) (lv' := [(0, .ref o0), (1, .int (nI j)), (2, .int (nI c)), (3, .int (nI k))]) (st' := [.ref o0]) rfl ?_
        refine x_get C 23 rfl fX8_82 N 0 rfl (v := .ref (A 24)) rfl ?_
        refine x_run C 24 4 (pc' := 43) (lv' := [(0, .ref o0), (1, .int (nI j)), (2, .int (nI c)), (3, .int (nI k))]) (st' := [.ref o0, .int (56 * (nI j)), .ref (A 24)]) rfl ?_
        refine x_get C 28 rfl fX8_52 N 0 rfl (v := .ref (A 14)) rfl ?_
        refine x_run C 29 5 (pc' := 52) (lv' := [(0, .ref o0), (1, .int (nI j)), (2, .int (nI c)), (3, .int (nI k))]) (st' := [.int ((8 * (nI c)) + (nI k)), .ref (A 14), .int (56 * (nI j)), .ref (A 24)]) rfl ?_
        refine x_st (st' := [.int (nI ((8 * c) + k)), .ref (A 14), .int (56 * (nI j)), .ref (A 24)]) (by simp only [nlit, nI_add, pk_mul]) ?_
        refine x_ialdN C 34 rfl N 3 rfl (by omega) (by omega) ?_
        refine x_st (st' := [.int (nI (ou k)), .int (56 * (nI j)), .ref (A 24)]) (by rw [(hpo k (by omega)).1]) ?_
        refine x_run C 35 1 (pc' := 54) (lv' := [(0, .ref o0), (1, .int (nI j)), (2, .int (nI c)), (3, .int (nI k))]) (st' := [.int ((56 * (nI j)) + (nI (ou k))), .ref (A 24)]) rfl ?_
        refine x_st (st' := [.int (nI ((56 * j) + (ou k))), .ref (A 24)]) (by simp only [nlit, nI_add, pk_mul]) ?_
        refine x_zaldN C 36 rfl N 4 rfl (by have := (hpo k (by omega)).2; omega) (by omega) ?_
        refine x_if_ne C 37 rfl (tgt := 61) rfl (fun hc4 => ?_) (fun hc4 => ?_)
        · refine x_run C 40 2 (pc' := 24) (lv' := [(3, .int ((nI k) + 1)), (0, .ref o0), (1, .int (nI j)), (2, .int (nI c))]) (st' := []) rfl ?_
          refine x_sub (lv' := [(0, .ref o0), (1, .int (nI j)), (2, .int (nI c)), (3, .int ((nI k) + 1))]) [1, 2, 3, 0] rfl ?_
          refine x_loc (lv' := [(0, .ref o0), (1, .int (nI j)), (2, .int (nI c)), (3, .int (nI (k + 1)))]) (by simp only [nlit, nI_add, pk_mul]) ?_
          exact ih24 (by omega) (fun q hq => (Nat.lt_succ_iff_lt_or_eq.mp hq).elim (iv24 q) (fun z => z ▸ hc4))
        · refine x_run C 38 1 (pc' := 60) (lv' := [(0, .ref o0), (1, .int (nI j)), (2, .int (nI c)), (3, .int (nI k))]) (st' := [.int (-11)]) rfl ?_
          exact x_iret C B rfl 39 rfl (Nat.zero_le _) (Nat.zero_le _) ⟨by first | contradiction | (simp only [if_pos hc4]; done) | (simp only [if_pos hc4]; simp only [nlit, nI_add, pk_mul]; done) | (simp only [if_pos hc4, nlit, nI_add, pk_mul]; done) | rfl | (simp only [if_pos hc4]; rfl) | (simp only [if_pos hc4, nlit, nI_add, pk_mul]; rfl), by first | contradiction | (simp only [if_pos hc4]; done) | (simp only [if_pos hc4]; simp only [nlit, nI_add, pk_mul]; done) | (simp only [if_pos hc4, nlit, nI_add, pk_mul]; done) | rfl | (simp only [if_pos hc4]; rfl) | (simp only [if_pos hc4, nlit, nI_add, pk_mul]; rfl)⟩
  refine x_sub (lv' := [(0, .ref o0), (1, .int (nI j)), (2, .int (nI c)), (3, .int 0)]) [2, 3, 1, 0] rfl ?_
  refine x_loc (lv' := [(0, .ref o0), (1, .int (nI j)), (2, .int (nI c)), (3, .int (nI 0))]) (by simp only [nlit, nI_add, pk_mul]) ?_
  exact L24 0 (Nat.le_refl _) (by omega) (fun q h => absurd h (by omega))
set_option maxHeartbeats 4000000 in
set_option maxRecDepth 100000 in
theorem c_X8_openAll (Y : xD) (w : va_W) (o0 : Nat) (A : Nat → Nat) (th : Int32) (su : Int32) (sz : Nat) (bl : Int32) (ci : Nat) (ma : Nat) (pa : Int32) (en : Int32) (wr : Int32) (co : Nat → Int32) (o1 : Nat → Int32) (p1 : Nat → Int32) (fh : Nat → Int32) (ou : Nat → Nat) (j : Nat) (c : Nat) (o : Nat) (fn : Nat → Nat) (fz : Nat → Nat) (fd : Nat → Nat) (qm q_circuitOf q_outputs q_outputOf q_has q_now q_zero q_delta : Nat) (e0 : w[qm]? = some (o0, cO 8 (mo A th su (nI sz) bl (nI ci) (nI ma) pa en wr))) (e1 : w[q_circuitOf]? = some (A 15, cI Y 6 co)) (e2 : w[q_outputs]? = some (A 8, cI Y 6 o1)) (e3 : w[q_outputOf]? = some (A 14, cI Y 48 p1)) (e4 : w[q_has]? = some (A 24, cZ Y 336 fh)) (e5 : w[q_now]? = some (A 23, cI Y 5376 (iF fn))) (e6 : w[q_zero]? = some (A 21, cI Y 5376 (iF fz))) (e7 : w[q_delta]? = some (A 20, cI Y 96 (iF fd))) (N : xN w.length [qm, q_circuitOf, q_outputs, q_outputOf, q_has, q_now, q_zero, q_delta]) (hj : j < ma) (h6 : ma ≤ 6) (hc6 : c < 6) (ho8 : o ≤ 8) (hco : co j = nI c) (hoc : o1 c = nI o) (hpo : ∀ k, k < o → p1 (8 * c + k) = nI (ou k) ∧ ou k < 56) (hA : ∀ q, q < o → ¬ fh (56 * j + ou q) = 0) : Cf Y mX8_openAll 3 [.ref o0, .int (nI j)] w (some (.int (oaD (fun q => opM fn fz fd j (ou q)) o o))) [(qm, (o0, cO 8 (mo A (nI 0) su (nI sz) bl (nI ci) (nI ma) pa en wr))), (q_circuitOf, (A 15, cI Y 6 co)), (q_outputs, (A 8, cI Y 6 o1)), (q_outputOf, (A 14, cI Y 48 p1)), (q_has, (A 24, cZ Y 336 fh)), (q_now, (A 23, cI Y 5376 (iF fn))), (q_zero, (A 21, cI Y 5376 (iF fz))), (q_delta, (A 20, cI Y 96 (iF fd)))] := by
  refine Ct.intro (T := tX8_openAll) (by decide) oX8_openAll (Nat.le_of_ble_eq_true rfl) (fun G C B => ?_)
  refine x_lay [(qm, (o0, cO 8 (mo A th su (nI sz) bl (nI ci) (nI ma) pa en wr))), (q_circuitOf, (A 15, cI Y 6 co)), (q_outputs, (A 8, cI Y 6 o1)), (q_outputOf, (A 14, cI Y 48 p1)), (q_has, (A 24, cZ Y 336 fh)), (q_now, (A 23, cI Y 5376 (iF fn))), (q_zero, (A 21, cI Y 5376 (iF fz))), (q_delta, (A 20, cI Y 96 (iF fd)))] (lay_cons e0 (lay_cons e1 (lay_cons e2 (lay_cons e3 (lay_cons e4 (lay_cons e5 (lay_cons e6 (lay_cons e7 lay_nil)))))))) ?_
  refine x_run C 0 2 (pc' := 2) (lv' := [(0, .ref o0), (1, .int (nI j))]) (st' := [.int 0, .ref o0]) rfl ?_
  refine x_put C 2 rfl pX8_117 N 0 rfl rfl rfl (Nat.le_of_ble_eq_true rfl) (os' := [(qm, (o0, cO 8 (mo A (nI 0) su (nI sz) bl (nI ci) (nI ma) pa en wr))), (q_circuitOf, (A 15, cI Y 6 co)), (q_outputs, (A 8, cI Y 6 o1)), (q_outputOf, (A 14, cI Y 48 p1)), (q_has, (A 24, cZ Y 336 fh)), (q_now, (A 23, cI Y 5376 (iF fn))), (q_zero, (A 21, cI Y 5376 (iF fz))), (q_delta, (A 20, cI Y 96 (iF fd)))]) rfl ?_
  refine x_run C 3 2 (pc' := 7) (lv' := [(0, .ref o0), (1, .int (nI j))]) (st' := [.int (nI j), .ref o0]) rfl ?_
  refine x_cv C 5 (As := [.int (nI j)]) (rest := []) rfl vX8_230 N 0 rfl rfl (c_X8_isGarbled Y _ o0 A (nI 0) su sz bl ci ma pa en wr j qm (ovl_at 0 N rfl) (N.ov [0] (by decide) rfl) (by first | assumption | omega) (by first | assumption | omega)) rfl rfl (Nat.le_of_ble_eq_true rfl) ⟨Nat.le_of_ble_eq_true rfl, Nat.le_of_ble_eq_true rfl⟩ ⟨Nat.zero_le _, Nat.zero_le _⟩ [0] ⟨rfl, trivial⟩ (os' := [(qm, (o0, cO 8 (mo A (nI 0) su (nI sz) bl (nI ci) (nI ma) pa en wr))), (q_circuitOf, (A 15, cI Y 6 co)), (q_outputs, (A 8, cI Y 6 o1)), (q_outputOf, (A 14, cI Y 48 p1)), (q_has, (A 24, cZ Y 336 fh)), (q_now, (A 23, cI Y 5376 (iF fn))), (q_zero, (A 21, cI Y 5376 (iF fz))), (q_delta, (A 20, cI Y 96 (iF fd)))]) rfl (st' := [.int 1]) rfl ?_
  refine x_st (st' := [.int (nI 1)]) (by simp only [nlit, nI_add, pk_mul]) ?_
  refine x_ifN_ne C 6 (by omega) rfl (tgt := 15) rfl (fun hc1 => ?_) (fun hc1 => absurd hc1 (by omega))
  refine x_run C 9 1 (pc' := 16) (lv' := [(0, .ref o0), (1, .int (nI j))]) (st' := [.ref o0]) rfl ?_
  refine x_get C 10 rfl fX8_55 N 0 rfl (v := .ref (A 15)) rfl ?_
  refine x_run C 11 1 (pc' := 20) (lv' := [(0, .ref o0), (1, .int (nI j))]) (st' := [.int (nI j), .ref (A 15)]) rfl ?_
  refine x_ialdN C 12 rfl N 1 rfl (by omega) (by omega) ?_
  refine x_st (st' := [.int (nI c)]) (by rw [hco]) ?_
  refine x_run C 13 3 (pc' := 24) (lv' := [(3, .int 0), (2, .int (nI c)), (0, .ref o0), (1, .int (nI j))]) (st' := []) rfl ?_
  have L24 : ∀ k : Nat, 0 ≤ k → k ≤ o → X G Y 0 0 24 [(0, .ref o0), (1, .int (nI j)), (2, .int (nI c)), (3, .int (nI k))] [] (ovl w [(qm, (o0, cO 8 (mo A (nI 0) su (nI sz) bl (nI ci) (nI ma) pa en wr))), (q_circuitOf, (A 15, cI Y 6 co)), (q_outputs, (A 8, cI Y 6 o1)), (q_outputOf, (A 14, cI Y 48 p1)), (q_has, (A 24, cZ Y 336 fh)), (q_now, (A 23, cI Y 5376 (iF fn))), (q_zero, (A 21, cI Y 5376 (iF fz))), (q_delta, (A 20, cI Y 96 (iF fd)))]) := by
    intro k lo24 hi24
    revert lo24
    refine x_up (fun k => 0 ≤ k → X G Y 0 0 24 [(0, .ref o0), (1, .int (nI j)), (2, .int (nI c)), (3, .int (nI k))] [] (ovl w [(qm, (o0, cO 8 (mo A (nI 0) su (nI sz) bl (nI ci) (nI ma) pa en wr))), (q_circuitOf, (A 15, cI Y 6 co)), (q_outputs, (A 8, cI Y 6 o1)), (q_outputOf, (A 14, cI Y 48 p1)), (q_has, (A 24, cZ Y 336 fh)), (q_now, (A 23, cI Y 5376 (iF fn))), (q_zero, (A 21, cI Y 5376 (iF fz))), (q_delta, (A 20, cI Y 96 (iF fd)))])) o ?_ ?_ k hi24
    · intro lo24
      refine x_run C 16 2 (pc' := 26) (lv' := [(0, .ref o0), (1, .int (nI j)), (2, .int (nI c)), (3, .int (nI o))]) (st' := [.ref o0, .int (nI o)]) rfl ?_
      refine x_get C 18 rfl fX8_34 N 0 rfl (v := .ref (A 8)) rfl ?_
      refine x_run C 19 1 (pc' := 30) (lv' := [(0, .ref o0), (1, .int (nI j)), (2, .int (nI c)), (3, .int (nI o))]) (st' := [.int (nI c), .ref (A 8), .int (nI o)]) rfl ?_
      refine x_ialdN C 20 rfl N 2 rfl (by omega) (by omega) ?_
      refine x_st (st' := [.int (nI o), .int (nI o)]) (by rw [hoc]) ?_
      refine x_icmpN_ge C 21 (by omega) (by omega) rfl (tgt := 67) rfl (fun hc2 => ?_) (fun hc2 => ?_)
      · refine x_run C 42 2 (pc' := 69) (lv' := [(0, .ref o0), (1, .int (nI j)), (2, .int (nI c)), (3, .int (nI o))]) (st' := [.int (nI j), .ref o0]) rfl ?_
        refine x_cv C 44 (As := [.int (nI j)]) (rest := []) rfl vX8_257 N 0 rfl rfl (c_X8_openedAll Y _ o0 A (nI 0) su sz bl ci ma pa en wr co o1 p1 fn fz fd ou j c o qm q_circuitOf q_outputs q_outputOf q_now q_zero q_delta (ovl_at 0 N rfl) (ovl_at 1 N rfl) (ovl_at 2 N rfl) (ovl_at 3 N rfl) (ovl_at 5 N rfl) (ovl_at 6 N rfl) (ovl_at 7 N rfl) (N.ov [0, 1, 2, 3, 5, 6, 7] (by decide) rfl) (by first | assumption | omega) (by first | assumption | omega) (by first | assumption | omega) (by first | assumption | omega) (by first | assumption | omega) (by first | assumption | omega)) rfl rfl (Nat.le_of_ble_eq_true rfl) ⟨Nat.le_of_ble_eq_true rfl, Nat.le_of_ble_eq_true rfl⟩ ⟨Nat.zero_le _, Nat.zero_le _⟩ [0, 1, 2, 3, 5, 6, 7] ⟨rfl, rfl, rfl, rfl, rfl, rfl, rfl, trivial⟩ (os' := [(qm, (o0, cO 8 (mo A (nI 0) su (nI sz) bl (nI ci) (nI ma) pa en wr))), (q_circuitOf, (A 15, cI Y 6 co)), (q_outputs, (A 8, cI Y 6 o1)), (q_outputOf, (A 14, cI Y 48 p1)), (q_has, (A 24, cZ Y 336 fh)), (q_now, (A 23, cI Y 5376 (iF fn))), (q_zero, (A 21, cI Y 5376 (iF fz))), (q_delta, (A 20, cI Y 96 (iF fd)))]) rfl (st' := [.int (oaD (fun q => opM fn fz fd j (ou q)) o o)]) rfl ?_
        exact x_iret C B rfl 45 rfl (Nat.zero_le _) (Nat.zero_le _) ⟨by first | contradiction | (simp only [nlit]; done) | (simp only [nlit]; simp only [nlit, nI_add, pk_mul]; done) | (simp only [nlit, nI_add, pk_mul]; done) | rfl | (simp only [nlit]; rfl) | (simp only [nlit, nI_add, pk_mul]; rfl), by first | contradiction | (simp only [nlit]; done) | (simp only [nlit]; simp only [nlit, nI_add, pk_mul]; done) | (simp only [nlit, nI_add, pk_mul]; done) | rfl | (simp only [nlit]; rfl) | (simp only [nlit, nI_add, pk_mul]; rfl)⟩
      · exact absurd hc2 (by omega)
    · intro k hi24 ih24 lo24
      refine x_run C 16 2 (pc' := 26) (lv' := [(0, .ref o0), (1, .int (nI j)), (2, .int (nI c)), (3, .int (nI k))]) (st' := [.ref o0, .int (nI k)]) rfl ?_
      refine x_get C 18 rfl fX8_34 N 0 rfl (v := .ref (A 8)) rfl ?_
      refine x_run C 19 1 (pc' := 30) (lv' := [(0, .ref o0), (1, .int (nI j)), (2, .int (nI c)), (3, .int (nI k))]) (st' := [.int (nI c), .ref (A 8), .int (nI k)]) rfl ?_
      refine x_ialdN C 20 rfl N 2 rfl (by omega) (by omega) ?_
      refine x_st (st' := [.int (nI o), .int (nI k)]) (by rw [hoc]) ?_
      refine x_icmpN_ge C 21 (by omega) (by omega) rfl (tgt := 67) rfl (fun hc3 => ?_) (fun hc3 => ?_)
      · exact absurd hc3 (by omega)
      · refine x_run C 22 1 (pc' := 35) (lv' := [(0, .ref o0), (1, .int (nI j)), (2, .int (nI c)), (3, .int (nI k))]) (st' := [.ref o0]) rfl ?_
        refine x_get C 23 rfl fX8_82 N 0 rfl (v := .ref (A 24)) rfl ?_
        refine x_run C 24 4 (pc' := 43) (lv' := [(0, .ref o0), (1, .int (nI j)), (2, .int (nI c)), (3, .int (nI k))]) (st' := [.ref o0, .int (56 * (nI j)), .ref (A 24)]) rfl ?_
        refine x_get C 28 rfl fX8_52 N 0 rfl (v := .ref (A 14)) rfl ?_
        refine x_run C 29 5 (pc' := 52) (lv' := [(0, .ref o0), (1, .int (nI j)), (2, .int (nI c)), (3, .int (nI k))]) (st' := [.int ((8 * (nI c)) + (nI k)), .ref (A 14), .int (56 * (nI j)), .ref (A 24)]) rfl ?_
        refine x_st (st' := [.int (nI ((8 * c) + k)), .ref (A 14), .int (56 * (nI j)), .ref (A 24)]) (by simp only [nlit, nI_add, pk_mul]) ?_
        refine x_ialdN C 34 rfl N 3 rfl (by omega) (by omega) ?_
        refine x_st (st' := [.int (nI (ou k)), .int (56 * (nI j)), .ref (A 24)]) (by rw [(hpo k (by omega)).1]) ?_
        refine x_run C 35 1 (pc' := 54) (lv' := [(0, .ref o0), (1, .int (nI j)), (2, .int (nI c)), (3, .int (nI k))]) (st' := [.int ((56 * (nI j)) + (nI (ou k))), .ref (A 24)]) rfl ?_
        refine x_st (st' := [.int (nI ((56 * j) + (ou k))), .ref (A 24)]) (by simp only [nlit, nI_add, pk_mul]) ?_
        refine x_zaldN C 36 rfl N 4 rfl (by have := (hpo k (by omega)).2; omega) (by omega) ?_
        refine x_if_ne C 37 rfl (tgt := 61) rfl (fun hc4 => ?_) (fun hc4 => ?_)
        · refine x_run C 40 2 (pc' := 24) (lv' := [(3, .int ((nI k) + 1)), (0, .ref o0), (1, .int (nI j)), (2, .int (nI c))]) (st' := []) rfl ?_
          refine x_sub (lv' := [(0, .ref o0), (1, .int (nI j)), (2, .int (nI c)), (3, .int ((nI k) + 1))]) [1, 2, 3, 0] rfl ?_
          refine x_loc (lv' := [(0, .ref o0), (1, .int (nI j)), (2, .int (nI c)), (3, .int (nI (k + 1)))]) (by simp only [nlit, nI_add, pk_mul]) ?_
          exact ih24 (by omega)
        · exact absurd hc4 (hA k (by omega))
  refine x_sub (lv' := [(0, .ref o0), (1, .int (nI j)), (2, .int (nI c)), (3, .int 0)]) [2, 3, 1, 0] rfl ?_
  refine x_loc (lv' := [(0, .ref o0), (1, .int (nI j)), (2, .int (nI c)), (3, .int (nI 0))]) (by simp only [nlit, nI_add, pk_mul]) ?_
  exact L24 0 (Nat.le_refl _) (by omega)
