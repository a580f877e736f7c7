set_option maxHeartbeats 4000000 in
set_option maxRecDepth 100000 in
theorem c_X8_workOutF (Y : xD) (w : va_W) (o0 : Nat) (A : Nat → Nat) (th : Int32) (su : Int32) (sz : Nat) (bl : Int32) (ci : Nat) (ma : Nat) (pa : Int32) (en : Int32) (wr : Int32) (x : Int32) (qm : Nat) (e0 : w[qm]? = some (o0, cO 8 (mo A th su (nI sz) bl (nI ci) (nI ma) pa en wr))) (N : xN w.length [qm]) (hx : x < 0 ∨ nI ma ≤ x) (h6 : ma ≤ 6) : Cf Y mX8_workOut 5 [.ref o0, .int x] w (some (.int (-1))) [(qm, (o0, cO 8 (mo A (nI 0) su (nI sz) bl (nI ci) (nI ma) pa en wr)))] := by
  refine Ct.intro (T := tX8_workOut) (by decide) oX8_workOut (Nat.le_of_ble_eq_true rfl) (fun G C B => ?_)
  refine x_lay [(qm, (o0, cO 8 (mo A th su (nI sz) bl (nI ci) (nI ma) pa en wr)))] (lay_cons e0 lay_nil) ?_
  refine x_run C 0 2 (pc' := 2) (lv' := [(0, .ref o0), (1, .int x)]) (st' := [.int 0, .ref o0]) rfl ?_
  refine x_put C 2 rfl pX8_117 N 0 rfl rfl rfl (Nat.le_of_ble_eq_true rfl) (os' := [(qm, (o0, cO 8 (mo A (nI 0) su (nI sz) bl (nI ci) (nI ma) pa en wr)))]) rfl ?_
  refine x_run C 3 2 (pc' := 7) (lv' := [(0, .ref o0), (1, .int x)]) (st' := [.int x, .ref o0]) rfl ?_
  refine x_cv C 5 (As := [.int x]) (rest := []) rfl vX8_230 N 0 rfl rfl (c_X8_isGarbledF Y _ o0 A (nI 0) su sz bl ci ma pa en wr x qm (ovl_at 0 N rfl) (N.ov [0] (by decide) rfl) hx (by first | assumption | omega)) rfl rfl (Nat.le_of_ble_eq_true rfl) ⟨Nat.le_of_ble_eq_true rfl, Nat.le_of_ble_eq_true rfl⟩ ⟨Nat.zero_le _, Nat.zero_le _⟩ [0] ⟨rfl, trivial⟩ (os' := [(qm, (o0, cO 8 (mo A (nI 0) su (nI sz) bl (nI ci) (nI ma) pa en wr)))]) rfl (st' := [.int 0]) rfl ?_
  refine x_st (st' := [.int (nI 0)]) (by simp only [nlit, nI_add, pk_mul]) ?_
  refine x_ifN_ne C 6 (by omega) rfl (tgt := 15) rfl (fun hc1 => absurd hc1 (by omega)) (fun hc1 => ?_)
  refine x_run C 7 1 (pc' := 14) (lv' := [(0, .ref o0), (1, .int x)]) (st' := [.int (-1)]) rfl ?_
  exact x_iret C B rfl 8 rfl (Nat.zero_le _) (Nat.zero_le _) ⟨by first | rfl | (simp only [nlit, nI_add, pk_mul]; done), by first | rfl | (simp only [nlit, nI_add, pk_mul]; done)⟩
set_option maxHeartbeats 4000000 in
set_option maxRecDepth 100000 in
theorem c_X8_workOutN (Y : xD) (w : va_W) (o0 : Nat) (A : Nat → Nat) (th : Int32) (su : Int32) (sz : Nat) (bl : Int32) (ci : Nat) (ma : Nat) (pa : Int32) (en : Int32) (wr : Int32) (co : Nat → Int32) (i1 : Nat → Int32) (fh : Nat → Int32) (j : Nat) (c : Nat) (n : Nat) (qm q_circuitOf q_inputs q_has : Nat) (e0 : w[qm]? = some (o0, cO 8 (mo A th su (nI sz) bl (nI ci) (nI ma) pa en wr))) (e1 : w[q_circuitOf]? = some (A 15, cI Y 6 co)) (e2 : w[q_inputs]? = some (A 6, cI Y 6 i1)) (e3 : w[q_has]? = some (A 24, cZ Y 336 fh)) (N : xN w.length [qm, q_circuitOf, q_inputs, q_has]) (hj : j < ma) (h6 : ma ≤ 6) (hc6 : c < 6) (hn16 : n ≤ 16) (hco : co j = nI c) (hin : i1 c = nI n) (hA : ¬ (∀ q, q < n → ¬ fh (56 * j + q) = 0)) : Cf Y mX8_workOut 5 [.ref o0, .int (nI j)] w (some (.int (-11))) [(qm, (o0, cO 8 (mo A (nI 0) su (nI sz) bl (nI ci) (nI ma) pa en wr))), (q_circuitOf, (A 15, cI Y 6 co)), (q_inputs, (A 6, cI Y 6 i1)), (q_has, (A 24, cZ Y 336 fh))] := by
  refine Ct.intro (T := tX8_workOut) (by decide) oX8_workOut (Nat.le_of_ble_eq_true rfl) (fun G C B => ?_)
  refine x_lay [(qm, (o0, cO 8 (mo A th su (nI sz) bl (nI ci) (nI ma) pa en wr))), (q_circuitOf, (A 15, cI Y 6 co)), (q_inputs, (A 6, cI Y 6 i1)), (q_has, (A 24, cZ Y 336 fh))] (lay_cons e0 (lay_cons e1 (lay_cons e2 (lay_cons e3 lay_nil)))) ?_
  refine x_run C 0 2 (pc' := 2) (lv' := [(0, .ref o0), (1, .int (nI j))]) (st' := [.int 0, .ref o0]) rfl ?_
  refine x_put C 2 rfl pX8_117 N 0 rfl rfl rfl (Nat.le_of_ble_eq_true rfl) (os' := [(qm, (o0, cO 8 (mo A (nI 0) su (nI sz) bl (nI ci) (nI ma) pa en wr))), (q_circuitOf, (A 15, cI Y 6 co)), (q_inputs, (A 6, cI Y 6 i1)), (q_has, (A 24, cZ Y 336 fh))]) rfl ?_
  refine x_run C 3 2 (pc' := 7) (lv' := [(0, .ref o0), (1, .int (nI j))]) (st' := [.int (nI j), .ref o0]) rfl ?_
  refine x_cv C 5 (As := [.int (nI j)]) (rest := []) rfl vX8_230 N 0 rfl rfl (c_X8_isGarbled Y _ o0 A (nI 0) su sz bl ci ma pa en wr j qm (ovl_at 0 N rfl) (N.ov [0] (by decide) rfl) (by first | assumption | omega) (by first | assumption | omega)) rfl rfl (Nat.le_of_ble_eq_true rfl) ⟨Nat.le_of_ble_eq_true rfl, Nat.le_of_ble_eq_true rfl⟩ ⟨Nat.zero_le _, Nat.zero_le _⟩ [0] ⟨rfl, trivial⟩ (os' := [(qm, (o0, cO 8 (mo A (nI 0) su (nI sz) bl (nI ci) (nI ma) pa en wr))), (q_circuitOf, (A 15, cI Y 6 co)), (q_inputs, (A 6, cI Y 6 i1)), (q_has, (A 24, cZ Y 336 fh))]) rfl (st' := [.int 1]) rfl ?_
  refine x_st (st' := [.int (nI 1)]) (by simp only [nlit, nI_add, pk_mul]) ?_
  refine x_ifN_ne C 6 (by omega) rfl (tgt := 15) rfl (fun hc1 => ?_) (fun hc1 => absurd hc1 (by omega))
  refine x_run C 9 1 (pc' := 16) (lv' := [(0, .ref o0), (1, .int (nI j))]) (st' := [.ref o0]) rfl ?_
  refine x_get C 10 rfl fX8_55 N 0 rfl (v := .ref (A 15)) rfl ?_
  refine x_run C 11 1 (pc' := 20) (lv' := [(0, .ref o0), (1, .int (nI j))]) (st' := [.int (nI j), .ref (A 15)]) rfl ?_
  refine x_ialdN C 12 rfl N 1 rfl (by omega) (by omega) ?_
  refine x_st (st' := [.int (nI c)]) (by rw [hco]) ?_
  refine x_run C 13 3 (pc' := 24) (lv' := [(3, .int 0), (2, .int (nI c)), (0, .ref o0), (1, .int (nI j))]) (st' := []) rfl ?_
  have L24 : ∀ k : Nat, 0 ≤ k → k ≤ n → (∀ q, q < k → ¬ fh (56 * j + q) = 0) → X G Y 0 0 24 [(0, .ref o0), (1, .int (nI j)), (2, .int (nI c)), (3, .int (nI k))] [] (ovl w [(qm, (o0, cO 8 (mo A (nI 0) su (nI sz) bl (nI ci) (nI ma) pa en wr))), (q_circuitOf, (A 15, cI Y 6 co)), (q_inputs, (A 6, cI Y 6 i1)), (q_has, (A 24, cZ Y 336 fh))]) := by
    intro k lo24 hi24
    revert lo24
    refine x_up (fun k => 0 ≤ k → (∀ q, q < k → ¬ fh (56 * j + q) = 0) → X G Y 0 0 24 [(0, .ref o0), (1, .int (nI j)), (2, .int (nI c)), (3, .int (nI k))] [] (ovl w [(qm, (o0, cO 8 (mo A (nI 0) su (nI sz) bl (nI ci) (nI ma) pa en wr))), (q_circuitOf, (A 15, cI Y 6 co)), (q_inputs, (A 6, cI Y 6 i1)), (q_has, (A 24, cZ Y 336 fh))])) n ?_ ?_ k hi24
    · intro lo24 iv24
      refine x_run C 16 2 (pc' := 26) (lv' := [(0, .ref o0), (1, .int (nI j)), (2, .int (nI c)), (3, .int (nI n))]) (st' := [.ref o0, .int (nI n)]) rfl ?_
      refine x_get C 18 rfl fX8_28 N 0 rfl (v := .ref (A 6)) rfl ?_
      refine x_run C 19 1 (pc' := 30) (lv' := [(0, .ref o0), (1, .int (nI j)), (2, .int (nI c)), (3, .int (nI n))]) (st' := [.int (nI c), .ref (A 6), .int (nI n)]) rfl ?_
      refine x_ialdN C 20 rfl N 2 rfl (by omega) (by omega) ?_
      refine x_st (st' := [.int (nI n), .int (nI n)]) (by rw [hin]) ?_
      refine x_icmpN_ge C 21 (by omega) (by omega) rfl (tgt := 57) rfl (fun hc2 => ?_) (fun hc2 => ?_)
      · exact absurd iv24 hA
      · exact absurd hc2 (by omega)
    · intro k hi24 ih24 lo24 iv24
      refine x_run C 16 2 (pc' := 26) (lv' := [(0, .ref o0), (1, .int (nI j)), (2, .int (nI c)), (3, .int (nI k))]) (st' := [.ref o0, .int (nI k)]) rfl ?_
      refine x_get C 18 rfl fX8_28 N 0 rfl (v := .ref (A 6)) rfl ?_
      refine x_run C 19 1 (pc' := 30) (lv' := [(0, .ref o0), (1, .int (nI j)), (2, .int (nI c)), (3, .int (nI k))]) (st' := [.int (nI c), .ref (A 6), .int (nI k)]) rfl ?_
      refine x_ialdN C 20 rfl N 2 rfl (by omega) (by omega) ?_
      refine x_st (st' := [.int (nI n), .int (nI k)]) (by rw [hin]) ?_
      refine x_icmpN_ge C 21 (by omega) (by omega) rfl (tgt := 57) rfl (fun hc3 => ?_) (fun hc3 => ?_)
      · exact absurd hc3 (by omega)
      · refine x_run C 22 1 (pc' := 35) (lv' := [(0, .ref o0), (1, .int (nI j)), (2, .int (nI c)), (3, .int (nI k))]) (st' := [.ref o0]) rfl ?_
        refine x_get C 23 rfl fX8_82 N 0 rfl (v := .ref (A 24)) rfl ?_
        refine x_run C 24 5 (pc' := 44) (lv' := [(0, .ref o0), (1, .int (nI j)), (2, .int (nI c)), (3, .int (nI k))]) (st' := [.int ((56 * (nI j)) + (nI k)), .ref (A 24)]) rfl ?_
        refine x_st (st' := [.int (nI ((56 * j) + k)), .ref (A 24)]) (by simp only [nlit, nI_add, pk_mul]) ?_
        refine x_zaldN C 29 rfl N 3 rfl (by omega) (by omega) ?_
        refine x_if_ne C 30 rfl (tgt := 51) rfl (fun hc4 => ?_) (fun hc4 => ?_)
        · refine x_run C 33 2 (pc' := 24) (lv' := [(3, .int ((nI k) + 1)), (0, .ref o0), (1, .int (nI j)), (2, .int (nI c))]) (st' := []) rfl ?_
          refine x_sub (lv' := [(0, .ref o0), (1, .int (nI j)), (2, .int (nI c)), (3, .int ((nI k) + 1))]) [1, 2, 3, 0] rfl ?_
          refine x_loc (lv' := [(0, .ref o0), (1, .int (nI j)), (2, .int (nI c)), (3, .int (nI (k + 1)))]) (by simp only [nlit, nI_add, pk_mul]) ?_
          exact ih24 (by omega) (fun q hq => (Nat.lt_succ_iff_lt_or_eq.mp hq).elim (iv24 q) (fun z => z ▸ hc4))
        · refine x_run C 31 1 (pc' := 50) (lv' := [(0, .ref o0), (1, .int (nI j)), (2, .int (nI c)), (3, .int (nI k))]) (st' := [.int (-11)]) rfl ?_
          exact x_iret C B rfl 32 rfl (Nat.zero_le _) (Nat.zero_le _) ⟨by first | contradiction | (simp only [if_pos hc4]; done) | (simp only [if_pos hc4]; simp only [nlit, nI_add, pk_mul]; done) | (simp only [if_pos hc4, nlit, nI_add, pk_mul]; done) | rfl | (simp only [if_pos hc4]; rfl) | (simp only [if_pos hc4, nlit, nI_add, pk_mul]; rfl), by first | contradiction | (simp only [if_pos hc4]; done) | (simp only [if_pos hc4]; simp only [nlit, nI_add, pk_mul]; done) | (simp only [if_pos hc4, nlit, nI_add, pk_mul]; done) | rfl | (simp only [if_pos hc4]; rfl) | (simp only [if_pos hc4, nlit, nI_add, pk_mul]; rfl)⟩
  refine x_sub (lv' := [(0, .ref o0), (1, .int (nI j)), (2, .int (nI c)), (3, .int 0)]) [2, 3, 1, 0] rfl ?_
  refine x_loc (lv' := [(0, .ref o0), (1, .int (nI j)), (2, .int (nI c)), (3, .int (nI 0))]) (by simp only [nlit, nI_add, pk_mul]) ?_
  exact L24 0 (Nat.le_refl _) (by omega) (fun q h => absurd h (by omega))
set_option maxHeartbeats 60000000 in
set_option maxRecDepth 100000 in
theorem c_X8_workOut (Y : xD) (w : va_W) (o0 : Nat) (A : Nat → Nat) (th : Int32) (su : Int32) (sz : Nat) (bl : Int32) (ci : Nat) (ma : Nat) (pa : Int32) (en : Int32) (wr : Int32) (co : Nat → Int32) (i1 : Nat → Int32) (g1 : Nat → Int32) (s1 : Nat → Int32) (l1 : Nat → Int32) (r1 : Nat → Int32) (n1 : Nat → Int32) (wy : Nat → Int32) (wk : Nat → Int32) (fh : Nat → Int32) (sg : Nat → Int32) (fn : Nat → Nat) (fr : Nat → Nat) (mk : Nat → Nat) (b : Nat → Nat) (rk : Nat → Nat) (o : Nat → Nat) (hh : Nat → Nat) (ks : Nat → Int32) (sd : Nat → Nat) (lf : Nat → Nat) (rg : Nat → Nat) (tn : Nat → Nat) (F0 : Nat → Int64) (R : Nat → Int64) (fm0 : Nat → Int64) (w1 : Int64) (w2 : Int64) (j : Nat) (c : Nat) (y : Nat) (n : Nat) (g : Nat) (tb : Nat) (qm q_circuitOf q_inputs q_gates q_sign q_left q_right q_tableOf q_way q_worked q_now q_has q_rows q_mask q_block q_rounds q_box q_other q_hash q_second : Nat) (e0 : w[qm]? = some (o0, cO 8 (mo A th su (nI sz) bl (nI ci) (nI ma) pa en wr))) (e1 : w[q_circuitOf]? = some (A 15, cI Y 6 co)) (e2 : w[q_inputs]? = some (A 6, cI Y 6 i1)) (e3 : w[q_gates]? = some (A 7, cI Y 6 g1)) (e4 : w[q_sign]? = some (A 10, cI Y 240 s1)) (e5 : w[q_left]? = some (A 11, cI Y 240 l1)) (e6 : w[q_right]? = some (A 12, cI Y 240 r1)) (e7 : w[q_tableOf]? = some (A 13, cI Y 240 n1)) (e8 : w[q_way]? = some (A 16, cI Y 6 wy)) (e9 : w[q_worked]? = some (A 19, cI Y 6 wk)) (e10 : w[q_now]? = some (A 23, cI Y 5376 (iF fn))) (e11 : w[q_has]? = some (A 24, cZ Y 336 fh)) (e12 : w[q_rows]? = some (A 22, cI Y 15360 (iF fr))) (e13 : w[q_mask]? = some (A 27, cI Y 16 (iF mk))) (e14 : w[q_block]? = some (A 4, cI Y 16 (iF b))) (e15 : w[q_rounds]? = some (A 3, cI Y 176 (iF rk))) (e16 : w[q_box]? = some (A 2, cI Y 256 (iF sN))) (e17 : w[q_other]? = some (A 5, cI Y 16 (iF o))) (e18 : w[q_hash]? = some (A 29, cI Y 16 (iF hh))) (e19 : w[q_second]? = some (A 28, cI Y 16 (iF sd))) (N : xN w.length [qm, q_circuitOf, q_inputs, q_gates, q_sign, q_left, q_right, q_tableOf, q_way, q_worked, q_now, q_has, q_rows, q_mask, q_block, q_rounds, q_box, q_other, q_hash, q_second]) (hj : j < ma) (h6 : ma ≤ 6) (hc6 : c < 6) (hn16 : n ≤ 16) (hg40 : g ≤ 40) (htb4 : tb ≤ 40) (hy3 : y < 3) (hco : co j = nI c) (hin : i1 c = nI n) (hga : g1 c = nI g) (hwy : wy j = nI y) (hs : ∀ k, k < g → s1 (40 * c + k) = sg k) (hl : ∀ k, k < g → l1 (40 * c + k) = nI (lf k) ∧ lf k < n + k) (hr : ∀ k, k < g → ¬ sg k = 33 → r1 (40 * c + k) = nI (rg k) ∧ rg k < n + k) (hr9 : ∀ k, k < g → sg k = 33 → r1 (40 * c + k) = -9) (hnT : ∀ k, k < g → ¬ sg k = 33 → ¬ sg k = 94 → n1 (40 * c + k) = nI (tn k) ∧ tn k < tb) (hn9 : ∀ k, k < g → (sg k = 33 ∨ sg k = 94) → n1 (40 * c + k) = -9) (hky : ∀ j, j < 176 → rk j = kb ks j) (hz : zRl fn j F0 n) (hR : rRl fr j R y tb) (hA : ∀ q, q < n → ¬ fh (56 * j + q) = 0) : Ct Y mX8_workOut 5 0 0 [.ref o0, .int (nI j)] w (fun rv w' => rv = (some (.int (nI g))) ∧ ∃ (fn' : Nat → Nat) (mk' : Nat → Nat) (b' : Nat → Nat) (o' : Nat → Nat) (hh' : Nat → Nat) (sd' : Nat → Nat), (zRl fn' j (foS ks R sg y n lf rg tn (F0, fm0, w1, w2) g).1 (n + g) ∧ oFr fn' fn j) ∧ w' = ovl w [(qm, (o0, cO 8 (mo A (nI 0) su (nI sz) (foB sg y bl g) (nI ci) (nI ma) pa en wr))), (q_circuitOf, (A 15, cI Y 6 co)), (q_inputs, (A 6, cI Y 6 i1)), (q_gates, (A 7, cI Y 6 g1)), (q_sign, (A 10, cI Y 240 s1)), (q_left, (A 11, cI Y 240 l1)), (q_right, (A 12, cI Y 240 r1)), (q_tableOf, (A 13, cI Y 240 n1)), (q_way, (A 16, cI Y 6 wy)), (q_worked, (A 19, cI Y 6 (upd wk j (foB sg y bl g - bl)))), (q_now, (A 23, cI Y 5376 (iF fn'))), (q_has, (A 24, cZ Y 336 (filI fh (56 * j + n) g 1))), (q_rows, (A 22, cI Y 15360 (iF fr))), (q_mask, (A 27, cI Y 16 (iF mk'))), (q_block, (A 4, cI Y 16 (iF b'))), (q_rounds, (A 3, cI Y 176 (iF rk))), (q_box, (A 2, cI Y 256 (iF sN))), (q_other, (A 5, cI Y 16 (iF o'))), (q_hash, (A 29, cI Y 16 (iF hh'))), (q_second, (A 28, cI Y 16 (iF sd')))]) := by
  refine Ct.intro (T := tX8_workOut) (by decide) oX8_workOut (Nat.le_of_ble_eq_true rfl) (fun G C B => ?_)
  refine x_lay [(qm, (o0, cO 8 (mo A th su (nI sz) bl (nI ci) (nI ma) pa en wr))), (q_circuitOf, (A 15, cI Y 6 co)), (q_inputs, (A 6, cI Y 6 i1)), (q_gates, (A 7, cI Y 6 g1)), (q_sign, (A 10, cI Y 240 s1)), (q_left, (A 11, cI Y 240 l1)), (q_right, (A 12, cI Y 240 r1)), (q_tableOf, (A 13, cI Y 240 n1)), (q_way, (A 16, cI Y 6 wy)), (q_worked, (A 19, cI Y 6 wk)), (q_now, (A 23, cI Y 5376 (iF fn))), (q_has, (A 24, cZ Y 336 fh)), (q_rows, (A 22, cI Y 15360 (iF fr))), (q_mask, (A 27, cI Y 16 (iF mk))), (q_block, (A 4, cI Y 16 (iF b))), (q_rounds, (A 3, cI Y 176 (iF rk))), (q_box, (A 2, cI Y 256 (iF sN))), (q_other, (A 5, cI Y 16 (iF o))), (q_hash, (A 29, cI Y 16 (iF hh))), (q_second, (A 28, cI Y 16 (iF sd)))] (lay_cons e0 (lay_cons e1 (lay_cons e2 (lay_cons e3 (lay_cons e4 (lay_cons e5 (lay_cons e6 (lay_cons e7 (lay_cons e8 (lay_cons e9 (lay_cons e10 (lay_cons e11 (lay_cons e12 (lay_cons e13 (lay_cons e14 (lay_cons e15 (lay_cons e16 (lay_cons e17 (lay_cons e18 (lay_cons e19 lay_nil)))))))))))))))))))) ?_
  refine x_run C 0 2 (pc' := 2) (lv' := [(0, .ref o0), (1, .int (nI j))]) (st' := [.int 0, .ref o0]) rfl ?_
  refine x_put C 2 rfl pX8_117 N 0 rfl rfl rfl (Nat.le_of_ble_eq_true rfl) (os' := [(qm, (o0, cO 8 (mo A (nI 0) su (nI sz) bl (nI ci) (nI ma) pa en wr))), (q_circuitOf, (A 15, cI Y 6 co)), (q_inputs, (A 6, cI Y 6 i1)), (q_gates, (A 7, cI Y 6 g1)), (q_sign, (A 10, cI Y 240 s1)), (q_left, (A 11, cI Y 240 l1)), (q_right, (A 12, cI Y 240 r1)), (q_tableOf, (A 13, cI Y 240 n1)), (q_way, (A 16, cI Y 6 wy)), (q_worked, (A 19, cI Y 6 wk)), (q_now, (A 23, cI Y 5376 (iF fn))), (q_has, (A 24, cZ Y 336 fh)), (q_rows, (A 22, cI Y 15360 (iF fr))), (q_mask, (A 27, cI Y 16 (iF mk))), (q_block, (A 4, cI Y 16 (iF b))), (q_rounds, (A 3, cI Y 176 (iF rk))), (q_box, (A 2, cI Y 256 (iF sN))), (q_other, (A 5, cI Y 16 (iF o))), (q_hash, (A 29, cI Y 16 (iF hh))), (q_second, (A 28, cI Y 16 (iF sd)))]) rfl ?_
  refine x_run C 3 2 (pc' := 7) (lv' := [(0, .ref o0), (1, .int (nI j))]) (st' := [.int (nI j), .ref o0]) rfl ?_
  refine x_cv C 5 (As := [.int (nI j)]) (rest := []) rfl vX8_230 N 0 rfl rfl (c_X8_isGarbled Y _ o0 A (nI 0) su sz bl ci ma pa en wr j qm (ovl_at 0 N rfl) (N.ov [0] (by decide) rfl) (by first | assumption | omega) (by first | assumption | omega)) rfl rfl (Nat.le_of_ble_eq_true rfl) ⟨Nat.le_of_ble_eq_true rfl, Nat.le_of_ble_eq_true rfl⟩ ⟨Nat.zero_le _, Nat.zero_le _⟩ [0] ⟨rfl, trivial⟩ (os' := [(qm, (o0, cO 8 (mo A (nI 0) su (nI sz) bl (nI ci) (nI ma) pa en wr))), (q_circuitOf, (A 15, cI Y 6 co)), (q_inputs, (A 6, cI Y 6 i1)), (q_gates, (A 7, cI Y 6 g1)), (q_sign, (A 10, cI Y 240 s1)), (q_left, (A 11, cI Y 240 l1)), (q_right, (A 12, cI Y 240 r1)), (q_tableOf, (A 13, cI Y 240 n1)), (q_way, (A 16, cI Y 6 wy)), (q_worked, (A 19, cI Y 6 wk)), (q_now, (A 23, cI Y 5376 (iF fn))), (q_has, (A 24, cZ Y 336 fh)), (q_rows, (A 22, cI Y 15360 (iF fr))), (q_mask, (A 27, cI Y 16 (iF mk))), (q_block, (A 4, cI Y 16 (iF b))), (q_rounds, (A 3, cI Y 176 (iF rk))), (q_box, (A 2, cI Y 256 (iF sN))), (q_other, (A 5, cI Y 16 (iF o))), (q_hash, (A 29, cI Y 16 (iF hh))), (q_second, (A 28, cI Y 16 (iF sd)))]) rfl (st' := [.int 1]) rfl ?_
  refine x_st (st' := [.int (nI 1)]) (by simp only [nlit, nI_add, pk_mul]) ?_
  refine x_ifN_ne C 6 (by omega) rfl (tgt := 15) rfl (fun hc1 => ?_) (fun hc1 => absurd hc1 (by omega))
  refine x_run C 9 1 (pc' := 16) (lv' := [(0, .ref o0), (1, .int (nI j))]) (st' := [.ref o0]) rfl ?_
  refine x_get C 10 rfl fX8_55 N 0 rfl (v := .ref (A 15)) rfl ?_
  refine x_run C 11 1 (pc' := 20) (lv' := [(0, .ref o0), (1, .int (nI j))]) (st' := [.int (nI j), .ref (A 15)]) rfl ?_
  refine x_ialdN C 12 rfl N 1 rfl (by omega) (by omega) ?_
  refine x_st (st' := [.int (nI c)]) (by rw [hco]) ?_
  refine x_run C 13 3 (pc' := 24) (lv' := [(3, .int 0), (2, .int (nI c)), (0, .ref o0), (1, .int (nI j))]) (st' := []) rfl ?_
  have L24 : ∀ k : Nat, 0 ≤ k → k ≤ n → X G Y 0 0 24 [(0, .ref o0), (1, .int (nI j)), (2, .int (nI c)), (3, .int (nI k))] [] (ovl w [(qm, (o0, cO 8 (mo A (nI 0) su (nI sz) bl (nI ci) (nI ma) pa en wr))), (q_circuitOf, (A 15, cI Y 6 co)), (q_inputs, (A 6, cI Y 6 i1)), (q_gates, (A 7, cI Y 6 g1)), (q_sign, (A 10, cI Y 240 s1)), (q_left, (A 11, cI Y 240 l1)), (q_right, (A 12, cI Y 240 r1)), (q_tableOf, (A 13, cI Y 240 n1)), (q_way, (A 16, cI Y 6 wy)), (q_worked, (A 19, cI Y 6 wk)), (q_now, (A 23, cI Y 5376 (iF fn))), (q_has, (A 24, cZ Y 336 fh)), (q_rows, (A 22, cI Y 15360 (iF fr))), (q_mask, (A 27, cI Y 16 (iF mk))), (q_block, (A 4, cI Y 16 (iF b))), (q_rounds, (A 3, cI Y 176 (iF rk))), (q_box, (A 2, cI Y 256 (iF sN))), (q_other, (A 5, cI Y 16 (iF o))), (q_hash, (A 29, cI Y 16 (iF hh))), (q_second, (A 28, cI Y 16 (iF sd)))]) := by
    intro k lo24 hi24
    revert lo24
    refine x_up (fun k => 0 ≤ k → X G Y 0 0 24 [(0, .ref o0), (1, .int (nI j)), (2, .int (nI c)), (3, .int (nI k))] [] (ovl w [(qm, (o0, cO 8 (mo A (nI 0) su (nI sz) bl (nI ci) (nI ma) pa en wr))), (q_circuitOf, (A 15, cI Y 6 co)), (q_inputs, (A 6, cI Y 6 i1)), (q_gates, (A 7, cI Y 6 g1)), (q_sign, (A 10, cI Y 240 s1)), (q_left, (A 11, cI Y 240 l1)), (q_right, (A 12, cI Y 240 r1)), (q_tableOf, (A 13, cI Y 240 n1)), (q_way, (A 16, cI Y 6 wy)), (q_worked, (A 19, cI Y 6 wk)), (q_now, (A 23, cI Y 5376 (iF fn))), (q_has, (A 24, cZ Y 336 fh)), (q_rows, (A 22, cI Y 15360 (iF fr))), (q_mask, (A 27, cI Y 16 (iF mk))), (q_block, (A 4, cI Y 16 (iF b))), (q_rounds, (A 3, cI Y 176 (iF rk))), (q_box, (A 2, cI Y 256 (iF sN))), (q_other, (A 5, cI Y 16 (iF o))), (q_hash, (A 29, cI Y 16 (iF hh))), (q_second, (A 28, cI Y 16 (iF sd)))])) n ?_ ?_ k hi24
    · intro lo24
      refine x_run C 16 2 (pc' := 26) (lv' := [(0, .ref o0), (1, .int (nI j)), (2, .int (nI c)), (3, .int (nI n))]) (st' := [.ref o0, .int (nI n)]) rfl ?_
      refine x_get C 18 rfl fX8_28 N 0 rfl (v := .ref (A 6)) rfl ?_
      refine x_run C 19 1 (pc' := 30) (lv' := [(0, .ref o0), (1, .int (nI j)), (2, .int (nI c)), (3, .int (nI n))]) (st' := [.int (nI c), .ref (A 6), .int (nI n)]) rfl ?_
      refine x_ialdN C 20 rfl N 2 rfl (by omega) (by omega) ?_
      refine x_st (st' := [.int (nI n), .int (nI n)]) (by rw [hin]) ?_
      refine x_icmpN_ge C 21 (by omega) (by omega) rfl (tgt := 57) rfl (fun hc2 => ?_) (fun hc2 => ?_)
      · refine x_run C 35 2 (pc' := 59) (lv' := [(0, .ref o0), (1, .int (nI j)), (2, .int (nI c)), (3, .int (nI n))]) (st' := [.int (nI j), .ref o0]) rfl ?_
        refine x_callV C 37 (As := [.int (nI j)]) (rest := []) rfl vX8_244 (ovl_at 0 N rfl) rfl (c_X8_works Y _ o0 A (nI 0) su sz bl ci ma pa en wr co i1 g1 s1 l1 r1 n1 wy wk fh sg fn fr mk b rk o hh ks sd lf rg tn F0 R fm0 w1 w2 j c y n g tb qm q_circuitOf q_inputs q_gates q_sign q_left q_right q_tableOf q_way q_worked q_now q_has q_rows q_mask q_block q_rounds q_box q_other q_hash q_second (ovl_at 0 N rfl) (ovl_at 1 N rfl) (ovl_at 2 N rfl) (ovl_at 3 N rfl) (ovl_at 4 N rfl) (ovl_at 5 N rfl) (ovl_at 6 N rfl) (ovl_at 7 N rfl) (ovl_at 8 N rfl) (ovl_at 9 N rfl) (ovl_at 10 N rfl) (ovl_at 11 N rfl) (ovl_at 12 N rfl) (ovl_at 13 N rfl) (ovl_at 14 N rfl) (ovl_at 15 N rfl) (ovl_at 16 N rfl) (ovl_at 17 N rfl) (ovl_at 18 N rfl) (ovl_at 19 N rfl) (N.ov [0, 1, 2, 3, 4, 5, 6, 7, 8, 9, 10, 11, 12, 13, 14, 15, 16, 17, 18, 19] (by decide) rfl) (by omega) hc6 hn16 hg40 htb4 hy3 hco hin hga hwy hs hl hr hr9 hnT hn9 hky hz hR) rfl rfl (Nat.le_of_ble_eq_true rfl) ⟨(Nat.le_of_ble_eq_true rfl), (Nat.le_of_ble_eq_true rfl)⟩ ⟨Nat.zero_le _, Nat.zero_le _⟩ (fun v w_1 hp => ?_)
        obtain ⟨hv_, fn'_1, mk'_1, b'_1, o'_1, hh'_1, sd'_1, hw_1, hw_⟩ := hp
        subst hv_
        refine x_w hw_ ?_
        clear hw_
        refine x_mer N [0, 1, 2, 3, 4, 5, 6, 7, 8, 9, 10, 11, 12, 13, 14, 15, 16, 17, 18, 19] ⟨rfl, rfl, rfl, rfl, rfl, rfl, rfl, rfl, rfl, rfl, rfl, rfl, rfl, rfl, rfl, rfl, rfl, rfl, rfl, rfl, trivial⟩ (os' := [(qm, (o0, cO 8 (mo A (nI 0) su (nI sz) (foB sg y bl g) (nI ci) (nI ma) pa en wr))), (q_circuitOf, (A 15, cI Y 6 co)), (q_inputs, (A 6, cI Y 6 i1)), (q_gates, (A 7, cI Y 6 g1)), (q_sign, (A 10, cI Y 240 s1)), (q_left, (A 11, cI Y 240 l1)), (q_right, (A 12, cI Y 240 r1)), (q_tableOf, (A 13, cI Y 240 n1)), (q_way, (A 16, cI Y 6 wy)), (q_worked, (A 19, cI Y 6 (upd wk j (foB sg y bl g - bl)))), (q_now, (A 23, cI Y 5376 (iF fn'_1))), (q_has, (A 24, cZ Y 336 (filI fh (56 * j + n) g 1))), (q_rows, (A 22, cI Y 15360 (iF fr))), (q_mask, (A 27, cI Y 16 (iF mk'_1))), (q_block, (A 4, cI Y 16 (iF b'_1))), (q_rounds, (A 3, cI Y 176 (iF rk))), (q_box, (A 2, cI Y 256 (iF sN))), (q_other, (A 5, cI Y 16 (iF o'_1))), (q_hash, (A 29, cI Y 16 (iF hh'_1))), (q_second, (A 28, cI Y 16 (iF sd'_1)))]) rfl ?_
        refine x_st (st' := []) rfl ?_
        refine x_run C 38 1 (pc' := 63) (lv' := [(0, .ref o0), (1, .int (nI j)), (2, .int (nI c)), (3, .int (nI n))]) (st' := [.ref o0]) rfl ?_
        refine x_get C 39 rfl fX8_31 N 0 rfl (v := .ref (A 7)) rfl ?_
        refine x_run C 40 1 (pc' := 67) (lv' := [(0, .ref o0), (1, .int (nI j)), (2, .int (nI c)), (3, .int (nI n))]) (st' := [.int (nI c), .ref (A 7)]) rfl ?_
        refine x_ialdN C 41 rfl N 3 rfl (by omega) (by omega) ?_
        refine x_st (st' := [.int (nI g)]) (by rw [hga]) ?_
        exact x_iret C B rfl 42 rfl (Nat.zero_le _) (Nat.zero_le _) ⟨rfl, _, _, _, _, _, _, hw_1, rfl⟩
      · exact absurd hc2 (by omega)
    · intro k hi24 ih24 lo24
      refine x_run C 16 2 (pc' := 26) (lv' := [(0, .ref o0), (1, .int (nI j)), (2, .int (nI c)), (3, .int (nI k))]) (st' := [.ref o0, .int (nI k)]) rfl ?_
      refine x_get C 18 rfl fX8_28 N 0 rfl (v := .ref (A 6)) rfl ?_
      refine x_run C 19 1 (pc' := 30) (lv' := [(0, .ref o0), (1, .int (nI j)), (2, .int (nI c)), (3, .int (nI k))]) (st' := [.int (nI c), .ref (A 6), .int (nI k)]) rfl ?_
      refine x_ialdN C 20 rfl N 2 rfl (by omega) (by omega) ?_
      refine x_st (st' := [.int (nI n), .int (nI k)]) (by rw [hin]) ?_
      refine x_icmpN_ge C 21 (by omega) (by omega) rfl (tgt := 57) rfl (fun hc3 => ?_) (fun hc3 => ?_)
      · exact absurd hc3 (by omega)
      · refine x_run C 22 1 (pc' := 35) (lv' := [(0, .ref o0), (1, .int (nI j)), (2, .int (nI c)), (3, .int (nI k))]) (st' := [.ref o0]) rfl ?_
        refine x_get C 23 rfl fX8_82 N 0 rfl (v := .ref (A 24)) rfl ?_
        refine x_run C 24 5 (pc' := 44) (lv' := [(0, .ref o0), (1, .int (nI j)), (2, .int (nI c)), (3, .int (nI k))]) (st' := [.int ((56 * (nI j)) + (nI k)), .ref (A 24)]) rfl ?_
        refine x_st (st' := [.int (nI ((56 * j) + k)), .ref (A 24)]) (by simp only [nlit, nI_add, pk_mul]) ?_
        refine x_zaldN C 29 rfl N 11 rfl (by omega) (by omega) ?_
        refine x_if_ne C 30 rfl (tgt := 51) rfl (fun hc4 => ?_) (fun hc4 => ?_)
        · refine x_run C 33 2 (pc' := 24) (lv' := [(3, .int ((nI k) + 1)), (0, .ref o0), (1, .int (nI j)), (2, .int (nI c))]) (st' := []) rfl ?_
          refine x_sub (lv' := [(0, .ref o0), (1, .int (nI j)), (2, .int (nI c)), (3, .int ((nI k) + 1))]) [1, 2, 3, 0] rfl ?_
          refine x_loc (lv' := [(0, .ref o0), (1, .int (nI j)), (2, .int (nI c)), (3, .int (nI (k + 1)))]) (by simp only [nlit, nI_add, pk_mul]) ?_
          exact ih24 (by omega)
        · exact absurd hc4 (hA k (by omega))
  refine x_sub (lv' := [(0, .ref o0), (1, .int (nI j)), (2, .int (nI c)), (3, .int 0)]) [2, 3, 1, 0] rfl ?_
  refine x_loc (lv' := [(0, .ref o0), (1, .int (nI j)), (2, .int (nI c)), (3, .int (nI 0))]) (by simp only [nlit, nI_add, pk_mul]) ?_
  exact L24 0 (Nat.le_refl _) (by omega)
