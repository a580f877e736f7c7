set_option maxHeartbeats 4000000 in
set_option maxRecDepth 100000 in
theorem c_X8_wiresOf (Y : xD) (w : va_W) (o0 : Nat) (A : Nat → Nat) (th : Int32) (su : Int32) (sz : Nat) (bl : Int32) (ci : Nat) (ma : Nat) (pa : Int32) (en : Int32) (wr : Int32) (i1 : Nat → Int32) (g1 : Nat → Int32) (c : Nat) (n : Nat) (g : Nat) (qm q_inputs q_gates : Nat) (e0 : w[qm]? = some (o0, cO 8 (mo A th su (nI sz) bl (nI ci) (nI ma) pa en wr))) (e1 : w[q_inputs]? = some (A 6, cI Y 6 i1)) (e2 : w[q_gates]? = some (A 7, cI Y 6 g1)) (N : xN w.length [qm, q_inputs, q_gates]) (hc6 : c < 6) (hin : i1 c = nI n) (hga : g1 c = nI g) : Cf Y mX8_wiresOf 0 [.ref o0, .int (nI c)] w (some (.int (nI (n + g)))) [(qm, (o0, cO 8 (mo A th su (nI sz) bl (nI ci) (nI ma) pa en wr))), (q_inputs, (A 6, cI Y 6 i1)), (q_gates, (A 7, cI Y 6 g1))] := by
  refine Ct.intro (T := tX8_wiresOf) (by decide) oX8_wiresOf (Nat.le_of_ble_eq_true rfl) (fun G C B => ?_)
  refine x_lay [(qm, (o0, cO 8 (mo A th su (nI sz) bl (nI ci) (nI ma) pa en wr))), (q_inputs, (A 6, cI Y 6 i1)), (q_gates, (A 7, cI Y 6 g1))] (lay_cons e0 (lay_cons e1 (lay_cons e2 lay_nil))) ?_
  refine x_run C 0 1 (pc' := 1) (lv' := [(0, .ref o0), (1, .int (nI c))]) (st' := [.ref o0]) rfl ?_
  refine x_get C 1 rfl fX8_28 N 0 rfl (v := .ref (A 6)) rfl ?_
  refine x_run C 2 1 (pc' := 5) (lv' := [(0, .ref o0), (1, .int (nI c))]) (st' := [.int (nI c), .ref (A 6)]) rfl ?_
  refine x_ialdN C 3 rfl N 1 rfl (by omega) (by omega) ?_
  refine x_st (st' := [.int (nI n)]) (by rw [hin]) ?_
  refine x_run C 4 1 (pc' := 7) (lv' := [(0, .ref o0), (1, .int (nI c))]) (st' := [.ref o0, .int (nI n)]) rfl ?_
  refine x_get C 5 rfl fX8_31 N 0 rfl (v := .ref (A 7)) rfl ?_
  refine x_run C 6 1 (pc' := 11) (lv' := [(0, .ref o0), (1, .int (nI c))]) (st' := [.int (nI c), .ref (A 7), .int (nI n)]) rfl ?_
  refine x_ialdN C 7 rfl N 2 rfl (by omega) (by omega) ?_
  refine x_st (st' := [.int (nI g), .int (nI n)]) (by rw [hga]) ?_
  refine x_run C 8 1 (pc' := 13) (lv' := [(0, .ref o0), (1, .int (nI c))]) (st' := [.int ((nI n) + (nI g))]) rfl ?_
  exact x_iret C B rfl 9 rfl (Nat.zero_le _) (Nat.zero_le _) ⟨by first | rfl | (simp only [nlit, nI_add, pk_mul]; done), by first | rfl | (simp only [nlit, nI_add, pk_mul]; done)⟩
set_option maxHeartbeats 4000000 in
set_option maxRecDepth 100000 in
theorem c_X8_aboutF (Y : xD) (w : va_W) (o0 : Nat) (A : Nat → Nat) (th : Int32) (su : Int32) (sz : Nat) (bl : Int32) (ci : Nat) (ma : Nat) (pa : Int32) (en : Int32) (wr : Int32) (x : Int32) (v : Int32) (qm : Nat) (e0 : w[qm]? = some (o0, cO 8 (mo A th su (nI sz) bl (nI ci) (nI ma) pa en wr))) (N : xN w.length [qm]) (hx : x < 0 ∨ nI ci ≤ x) (h6 : ci ≤ 6) : Cf Y mX8_about 2 [.ref o0, .int x, .int v] w (some (.int (-1))) [(qm, (o0, cO 8 (mo A (nI 0) su (nI sz) bl (nI ci) (nI ma) pa en wr)))] := by
  refine Ct.intro (T := tX8_about) (by decide) oX8_about (Nat.le_of_ble_eq_true rfl) (fun G C B => ?_)
  refine x_lay [(qm, (o0, cO 8 (mo A th su (nI sz) bl (nI ci) (nI ma) pa en wr)))] (lay_cons e0 lay_nil) ?_
  refine x_run C 0 2 (pc' := 2) (lv' := [(0, .ref o0), (1, .int x), (2, .int v)]) (st' := [.int 0, .ref o0]) rfl ?_
  refine x_put C 2 rfl pX8_117 N 0 rfl rfl rfl (Nat.le_of_ble_eq_true rfl) (os' := [(qm, (o0, cO 8 (mo A (nI 0) su (nI sz) bl (nI ci) (nI ma) pa en wr)))]) rfl ?_
  refine x_run C 3 2 (pc' := 7) (lv' := [(0, .ref o0), (1, .int x), (2, .int v)]) (st' := [.int x, .ref o0]) rfl ?_
  refine x_cv C 5 (As := [.int x]) (rest := []) rfl vX8_196 N 0 rfl rfl (c_X8_isCircuitF Y _ o0 A (nI 0) su sz bl ci ma pa en wr x qm (ovl_at 0 N rfl) (N.ov [0] (by decide) rfl) hx (by first | assumption | omega)) rfl rfl (Nat.le_of_ble_eq_true rfl) ⟨Nat.le_of_ble_eq_true rfl, Nat.le_of_ble_eq_true rfl⟩ ⟨Nat.zero_le _, Nat.zero_le _⟩ [0] ⟨rfl, trivial⟩ (os' := [(qm, (o0, cO 8 (mo A (nI 0) su (nI sz) bl (nI ci) (nI ma) pa en wr)))]) rfl (st' := [.int 0]) rfl ?_
  refine x_st (st' := [.int (nI 0)]) (by simp only [nlit, nI_add, pk_mul]) ?_
  refine x_ifN_eq C 6 (by omega) rfl (tgt := 22) rfl (fun hc1 => ?_) (fun hc1 => absurd hc1 (by omega))
  refine x_run C 12 1 (pc' := 23) (lv' := [(0, .ref o0), (1, .int x), (2, .int v)]) (st' := [.int (-1)]) rfl ?_
  exact x_iret C B rfl 13 rfl (Nat.zero_le _) (Nat.zero_le _) ⟨by first | rfl | (simp only [nlit, nI_add, pk_mul]; done), by first | rfl | (simp only [nlit, nI_add, pk_mul]; done)⟩
theorem in_0 {x a b : Int32} (h : inR x a b = 0) : x < a ∨ b < x := by
  unfold inR at h
  by_cases h1 : x < a
  · exact Or.inl h1
  · rw [if_neg h1] at h
    by_cases h2 : b < x
    · exact Or.inr h2
    · rw [if_neg h2] at h
      exact absurd h (by decide)
theorem in_k {x : Int32} {m : Nat} (hm : m < 2 ^ 31) (h : ¬ (x < 0 ∨ nI m < x)) : ∃ k, k ≤ m ∧ x = nI k := by
  have h1 : ¬ x < 0 := fun z => h (Or.inl z)
  have h2 : ¬ nI m < x := fun z => h (Or.inr z)
  rw [Int32.lt_iff_toInt_lt] at h1 h2
  rw [nI_toInt hm] at h2
  rw [show (0 : Int32).toInt = 0 by decide] at h1
  refine ⟨x.toInt.toNat, by omega, ?_⟩
  apply Int32.toInt_inj.mp
  rw [nI_toInt (by omega)]
  omega
theorem ov_0 {x : Int32} {m k : Nat} (hm : m < 2 ^ 31) (hk : k ≤ m) (h : x < 0 ∨ nI m < x) : ¬ x = nI k := by
  intro z
  subst z
  rw [Int32.lt_iff_toInt_lt, Int32.lt_iff_toInt_lt, nI_toInt hm, nI_toInt (by omega), show (0 : Int32).toInt = 0 by decide] at h
  omega
set_option maxHeartbeats 4000000 in
set_option maxRecDepth 100000 in
theorem c_X8_aboutV (Y : xD) (w : va_W) (o0 : Nat) (A : Nat → Nat) (th : Int32) (su : Int32) (sz : Nat) (bl : Int32) (ci : Nat) (ma : Nat) (pa : Int32) (en : Int32) (wr : Int32) (i1 : Nat → Int32) (g1 : Nat → Int32) (o1 : Nat → Int32) (t1 : Nat → Int32) (c : Nat) (n : Nat) (g : Nat) (o : Nat) (tb : Nat) (x : Int32) (qm q_inputs q_gates q_outputs q_tabled : Nat) (e0 : w[qm]? = some (o0, cO 8 (mo A th su (nI sz) bl (nI ci) (nI ma) pa en wr))) (e1 : w[q_inputs]? = some (A 6, cI Y 6 i1)) (e2 : w[q_gates]? = some (A 7, cI Y 6 g1)) (e3 : w[q_outputs]? = some (A 8, cI Y 6 o1)) (e4 : w[q_tabled]? = some (A 9, cI Y 6 t1)) (N : xN w.length [qm, q_inputs, q_gates, q_outputs, q_tabled]) (hci : c < ci) (h6 : ci ≤ 6) (hin : i1 c = nI n) (hga : g1 c = nI g) (hoc : o1 c = nI o) (htb : t1 c = nI tb) (hx : x < 0 ∨ nI 4 < x) : Cf Y mX8_about 2 [.ref o0, .int (nI c), .int x] w (some (.int (-1))) [(qm, (o0, cO 8 (mo A (nI 0) su (nI sz) bl (nI ci) (nI ma) pa en wr))), (q_inputs, (A 6, cI Y 6 i1)), (q_gates, (A 7, cI Y 6 g1)), (q_outputs, (A 8, cI Y 6 o1)), (q_tabled, (A 9, cI Y 6 t1))] := by
  refine Ct.intro (T := tX8_about) (by decide) oX8_about (Nat.le_of_ble_eq_true rfl) (fun G C B => ?_)
  refine x_lay [(qm, (o0, cO 8 (mo A th su (nI sz) bl (nI ci) (nI ma) pa en wr))), (q_inputs, (A 6, cI Y 6 i1)), (q_gates, (A 7, cI Y 6 g1)), (q_outputs, (A 8, cI Y 6 o1)), (q_tabled, (A 9, cI Y 6 t1))] (lay_cons e0 (lay_cons e1 (lay_cons e2 (lay_cons e3 (lay_cons e4 lay_nil))))) ?_
  refine x_run C 0 2 (pc' := 2) (lv' := [(0, .ref o0), (1, .int (nI c)), (2, .int x)]) (st' := [.int 0, .ref o0]) rfl ?_
  refine x_put C 2 rfl pX8_117 N 0 rfl rfl rfl (Nat.le_of_ble_eq_true rfl) (os' := [(qm, (o0, cO 8 (mo A (nI 0) su (nI sz) bl (nI ci) (nI ma) pa en wr))), (q_inputs, (A 6, cI Y 6 i1)), (q_gates, (A 7, cI Y 6 g1)), (q_outputs, (A 8, cI Y 6 o1)), (q_tabled, (A 9, cI Y 6 t1))]) rfl ?_
  refine x_run C 3 2 (pc' := 7) (lv' := [(0, .ref o0), (1, .int (nI c)), (2, .int x)]) (st' := [.int (nI c), .ref o0]) rfl ?_
  refine x_cv C 5 (As := [.int (nI c)]) (rest := []) rfl vX8_196 N 0 rfl rfl (c_X8_isCircuit Y _ o0 A (nI 0) su sz bl ci ma pa en wr c qm (ovl_at 0 N rfl) (N.ov [0] (by decide) rfl) (by first | assumption | omega) (by first | assumption | omega)) rfl rfl (Nat.le_of_ble_eq_true rfl) ⟨Nat.le_of_ble_eq_true rfl, Nat.le_of_ble_eq_true rfl⟩ ⟨Nat.zero_le _, Nat.zero_le _⟩ [0] ⟨rfl, trivial⟩ (os' := [(qm, (o0, cO 8 (mo A (nI 0) su (nI sz) bl (nI ci) (nI ma) pa en wr))), (q_inputs, (A 6, cI Y 6 i1)), (q_gates, (A 7, cI Y 6 g1)), (q_outputs, (A 8, cI Y 6 o1)), (q_tabled, (A 9, cI Y 6 t1))]) rfl (st' := [.int 1]) rfl ?_
  refine x_st (st' := [.int (nI 1)]) (by simp only [nlit, nI_add, pk_mul]) ?_
  refine x_ifN_eq C 6 (by omega) rfl (tgt := 22) rfl (fun hc1 => absurd hc1 (by omega)) (fun hc1 => ?_)
  refine x_run C 7 3 (pc' := 16) (lv' := [(0, .ref o0), (1, .int (nI c)), (2, .int x)]) (st' := [.int 4, .int 0, .int x]) rfl ?_
  refine x_cs C 10 (As := [.int x, .int 0, .int 4]) (rest := []) rfl vX8_135 N (c_X8_inF Y _ x 0 4    hx) rfl rfl (Nat.le_of_ble_eq_true rfl) ⟨Nat.le_of_ble_eq_true rfl, Nat.le_of_ble_eq_true rfl⟩ ⟨Nat.zero_le _, Nat.zero_le _⟩ [] trivial (os' := [(qm, (o0, cO 8 (mo A (nI 0) su (nI sz) bl (nI ci) (nI ma) pa en wr))), (q_inputs, (A 6, cI Y 6 i1)), (q_gates, (A 7, cI Y 6 g1)), (q_outputs, (A 8, cI Y 6 o1)), (q_tabled, (A 9, cI Y 6 t1))]) rfl (st' := [.int 0]) rfl ?_
  refine x_st (st' := [.int (nI 0)]) (by simp only [nlit, nI_add, pk_mul]) ?_
  refine x_ifN_ne C 11 (by omega) rfl (tgt := 24) rfl (fun hc2 => absurd hc2 (by omega)) (fun hc2 => ?_)
  refine x_run C 12 1 (pc' := 23) (lv' := [(0, .ref o0), (1, .int (nI c)), (2, .int x)]) (st' := [.int (-1)]) rfl ?_
  exact x_iret C B rfl 13 rfl (Nat.zero_le _) (Nat.zero_le _) ⟨by first | rfl | (simp only [nlit, nI_add, pk_mul]; done), by first | rfl | (simp only [nlit, nI_add, pk_mul]; done)⟩
set_option maxHeartbeats 4000000 in
set_option maxRecDepth 100000 in
theorem c_X8_aboutV0 (Y : xD) (w : va_W) (o0 : Nat) (A : Nat → Nat) (th : Int32) (su : Int32) (sz : Nat) (bl : Int32) (ci : Nat) (ma : Nat) (pa : Int32) (en : Int32) (wr : Int32) (i1 : Nat → Int32) (g1 : Nat → Int32) (o1 : Nat → Int32) (t1 : Nat → Int32) (c : Nat) (n : Nat) (g : Nat) (o : Nat) (tb : Nat) (qm q_inputs q_gates q_outputs q_tabled : Nat) (e0 : w[qm]? = some (o0, cO 8 (mo A th su (nI sz) bl (nI ci) (nI ma) pa en wr))) (e1 : w[q_inputs]? = some (A 6, cI Y 6 i1)) (e2 : w[q_gates]? = some (A 7, cI Y 6 g1)) (e3 : w[q_outputs]? = some (A 8, cI Y 6 o1)) (e4 : w[q_tabled]? = some (A 9, cI Y 6 t1)) (N : xN w.length [qm, q_inputs, q_gates, q_outputs, q_tabled]) (hci : c < ci) (h6 : ci ≤ 6) (hin : i1 c = nI n) (hga : g1 c = nI g) (hoc : o1 c = nI o) (htb : t1 c = nI tb) : Cf Y mX8_about 2 [.ref o0, .int (nI c), .int 0] w (some (.int (abR 0 n g o tb))) [(qm, (o0, cO 8 (mo A (nI 0) su (nI sz) bl (nI ci) (nI ma) pa en wr))), (q_inputs, (A 6, cI Y 6 i1)), (q_gates, (A 7, cI Y 6 g1)), (q_outputs, (A 8, cI Y 6 o1)), (q_tabled, (A 9, cI Y 6 t1))] := by
  refine Ct.intro (T := tX8_about) (by decide) oX8_about (Nat.le_of_ble_eq_true rfl) (fun G C B => ?_)
  refine x_lay [(qm, (o0, cO 8 (mo A th su (nI sz) bl (nI ci) (nI ma) pa en wr))), (q_inputs, (A 6, cI Y 6 i1)), (q_gates, (A 7, cI Y 6 g1)), (q_outputs, (A 8, cI Y 6 o1)), (q_tabled, (A 9, cI Y 6 t1))] (lay_cons e0 (lay_cons e1 (lay_cons e2 (lay_cons e3 (lay_cons e4 lay_nil))))) ?_
  refine x_run C 0 2 (pc' := 2) (lv' := [(0, .ref o0), (1, .int (nI c)), (2, .int 0)]) (st' := [.int 0, .ref o0]) rfl ?_
  refine x_put C 2 rfl pX8_117 N 0 rfl rfl rfl (Nat.le_of_ble_eq_true rfl) (os' := [(qm, (o0, cO 8 (mo A (nI 0) su (nI sz) bl (nI ci) (nI ma) pa en wr))), (q_inputs, (A 6, cI Y 6 i1)), (q_gates, (A 7, cI Y 6 g1)), (q_outputs, (A 8, cI Y 6 o1)), (q_tabled, (A 9, cI Y 6 t1))]) rfl ?_
  refine x_run C 3 2 (pc' := 7) (lv' := [(0, .ref o0), (1, .int (nI c)), (2, .int 0)]) (st' := [.int (nI c), .ref o0]) rfl ?_
  refine x_cv C 5 (As := [.int (nI c)]) (rest := []) rfl vX8_196 N 0 rfl rfl (c_X8_isCircuit Y _ o0 A (nI 0) su sz bl ci ma pa en wr c qm (ovl_at 0 N rfl) (N.ov [0] (by decide) rfl) (by first | assumption | omega) (by first | assumption | omega)) rfl rfl (Nat.le_of_ble_eq_true rfl) ⟨Nat.le_of_ble_eq_true rfl, Nat.le_of_ble_eq_true rfl⟩ ⟨Nat.zero_le _, Nat.zero_le _⟩ [0] ⟨rfl, trivial⟩ (os' := [(qm, (o0, cO 8 (mo A (nI 0) su (nI sz) bl (nI ci) (nI ma) pa en wr))), (q_inputs, (A 6, cI Y 6 i1)), (q_gates, (A 7, cI Y 6 g1)), (q_outputs, (A 8, cI Y 6 o1)), (q_tabled, (A 9, cI Y 6 t1))]) rfl (st' := [.int 1]) rfl ?_
  refine x_st (st' := [.int (nI 1)]) (by simp only [nlit, nI_add, pk_mul]) ?_
  refine x_ifN_eq C 6 (by omega) rfl (tgt := 22) rfl (fun hc1 => absurd hc1 (by omega)) (fun hc1 => ?_)
  refine x_run C 7 3 (pc' := 16) (lv' := [(0, .ref o0), (1, .int (nI c)), (2, .int 0)]) (st' := [.int 4, .int 0, .int 0]) rfl ?_
  refine x_st (st' := [.int (nI 4), .int (nI 0), .int (nI 0)]) (by simp only [nlit, nI_add, pk_mul]) ?_
  refine x_cs C 10 (As := [.int (nI 0), .int (nI 0), .int (nI 4)]) (rest := []) rfl vX8_135 N (c_X8_in Y _ 0 0 4    (by first | assumption | omega) (by first | assumption | omega) (by first | assumption | omega)) rfl rfl (Nat.le_of_ble_eq_true rfl) ⟨Nat.le_of_ble_eq_true rfl, Nat.le_of_ble_eq_true rfl⟩ ⟨Nat.zero_le _, Nat.zero_le _⟩ [] trivial (os' := [(qm, (o0, cO 8 (mo A (nI 0) su (nI sz) bl (nI ci) (nI ma) pa en wr))), (q_inputs, (A 6, cI Y 6 i1)), (q_gates, (A 7, cI Y 6 g1)), (q_outputs, (A 8, cI Y 6 o1)), (q_tabled, (A 9, cI Y 6 t1))]) rfl (st' := [.int 1]) rfl ?_
  refine x_st (st' := [.int (nI 1)]) (by simp only [nlit, nI_add, pk_mul]) ?_
  refine x_ifN_ne C 11 (by omega) rfl (tgt := 24) rfl (fun hc2 => ?_) (fun hc2 => absurd hc2 (by omega))
  refine x_run C 14 1 (pc' := 25) (lv' := [(0, .ref o0), (1, .int (nI c)), (2, .int 0)]) (st' := [.int 0]) rfl ?_
  refine x_st (st' := [.int (nI 0)]) (by simp only [nlit, nI_add, pk_mul]) ?_
  refine x_ifN_ne C 15 (by omega) rfl (tgt := 37) rfl (fun hc3 => absurd hc3 (by omega)) (fun hc3 => ?_)
  refine x_run C 16 1 (pc' := 29) (lv' := [(0, .ref o0), (1, .int (nI c)), (2, .int 0)]) (st' := [.ref o0]) rfl ?_
  refine x_get C 17 rfl fX8_28 N 0 rfl (v := .ref (A 6)) rfl ?_
  refine x_run C 18 1 (pc' := 33) (lv' := [(0, .ref o0), (1, .int (nI c)), (2, .int 0)]) (st' := [.int (nI c), .ref (A 6)]) rfl ?_
  refine x_ialdN C 19 rfl N 1 rfl (by omega) (by omega) ?_
  refine x_st (st' := [.int (nI n)]) (by rw [hin]) ?_
  refine x_run C 20 1 (pc' := 84) (lv' := [(0, .ref o0), (1, .int (nI c)), (2, .int 0)]) (st' := [.int (nI n)]) rfl ?_
  exact x_iret C B rfl 48 rfl (Nat.zero_le _) (Nat.zero_le _) ⟨by rfl, rfl⟩
set_option maxHeartbeats 4000000 in
set_option maxRecDepth 100000 in
theorem c_X8_aboutV1 (Y : xD) (w : va_W) (o0 : Nat) (A : Nat → Nat) (th : Int32) (su : Int32) (sz : Nat) (bl : Int32) (ci : Nat) (ma : Nat) (pa : Int32) (en : Int32) (wr : Int32) (i1 : Nat → Int32) (g1 : Nat → Int32) (o1 : Nat → Int32) (t1 : Nat → Int32) (c : Nat) (n : Nat) (g : Nat) (o : Nat) (tb : Nat) (qm q_inputs q_gates q_outputs q_tabled : Nat) (e0 : w[qm]? = some (o0, cO 8 (mo A th su (nI sz) bl (nI ci) (nI ma) pa en wr))) (e1 : w[q_inputs]? = some (A 6, cI Y 6 i1)) (e2 : w[q_gates]? = some (A 7, cI Y 6 g1)) (e3 : w[q_outputs]? = some (A 8, cI Y 6 o1)) (e4 : w[q_tabled]? = some (A 9, cI Y 6 t1)) (N : xN w.length [qm, q_inputs, q_gates, q_outputs, q_tabled]) (hci : c < ci) (h6 : ci ≤ 6) (hin : i1 c = nI n) (hga : g1 c = nI g) (hoc : o1 c = nI o) (htb : t1 c = nI tb) : Cf Y mX8_about 2 [.ref o0, .int (nI c), .int 1] w (some (.int (abR 1 n g o tb))) [(qm, (o0, cO 8 (mo A (nI 0) su (nI sz) bl (nI ci) (nI ma) pa en wr))), (q_inputs, (A 6, cI Y 6 i1)), (q_gates, (A 7, cI Y 6 g1)), (q_outputs, (A 8, cI Y 6 o1)), (q_tabled, (A 9, cI Y 6 t1))] := by
  refine Ct.intro (T := tX8_about) (by decide) oX8_about (Nat.le_of_ble_eq_true rfl) (fun G C B => ?_)
  refine x_lay [(qm, (o0, cO 8 (mo A th su (nI sz) bl (nI ci) (nI ma) pa en wr))), (q_inputs, (A 6, cI Y 6 i1)), (q_gates, (A 7, cI Y 6 g1)), (q_outputs, (A 8, cI Y 6 o1)), (q_tabled, (A 9, cI Y 6 t1))] (lay_cons e0 (lay_cons e1 (lay_cons e2 (lay_cons e3 (lay_cons e4 lay_nil))))) ?_
  refine x_run C 0 2 (pc' := 2) (lv' := [(0, .ref o0), (1, .int (nI c)), (2, .int 1)]) (st' := [.int 0, .ref o0]) rfl ?_
  refine x_put C 2 rfl pX8_117 N 0 rfl rfl rfl (Nat.le_of_ble_eq_true rfl) (os' := [(qm, (o0, cO 8 (mo A (nI 0) su (nI sz) bl (nI ci) (nI ma) pa en wr))), (q_inputs, (A 6, cI Y 6 i1)), (q_gates, (A 7, cI Y 6 g1)), (q_outputs, (A 8, cI Y 6 o1)), (q_tabled, (A 9, cI Y 6 t1))]) rfl ?_
  refine x_run C 3 2 (pc' := 7) (lv' := [(0, .ref o0), (1, .int (nI c)), (2, .int 1)]) (st' := [.int (nI c), .ref o0]) rfl ?_
  refine x_cv C 5 (As := [.int (nI c)]) (rest := []) rfl vX8_196 N 0 rfl rfl (c_X8_isCircuit Y _ o0 A (nI 0) su sz bl ci ma pa en wr c qm (ovl_at 0 N rfl) (N.ov [0] (by decide) rfl) (by first | assumption | omega) (by first | assumption | omega)) rfl rfl (Nat.le_of_ble_eq_true rfl) ⟨Nat.le_of_ble_eq_true rfl, Nat.le_of_ble_eq_true rfl⟩ ⟨Nat.zero_le _, Nat.zero_le _⟩ [0] ⟨rfl, trivial⟩ (os' := [(qm, (o0, cO 8 (mo A (nI 0) su (nI sz) bl (nI ci) (nI ma) pa en wr))), (q_inputs, (A 6, cI Y 6 i1)), (q_gates, (A 7, cI Y 6 g1)), (q_outputs, (A 8, cI Y 6 o1)), (q_tabled, (A 9, cI Y 6 t1))]) rfl (st' := [.int 1]) rfl ?_
  refine x_st (st' := [.int (nI 1)]) (by simp only [nlit, nI_add, pk_mul]) ?_
  refine x_ifN_eq C 6 (by omega) rfl (tgt := 22) rfl (fun hc1 => absurd hc1 (by omega)) (fun hc1 => ?_)
  refine x_run C 7 3 (pc' := 16) (lv' := [(0, .ref o0), (1, .int (nI c)), (2, .int 1)]) (st' := [.int 4, .int 0, .int 1]) rfl ?_
  refine x_st (st' := [.int (nI 4), .int (nI 0), .int (nI 1)]) (by simp only [nlit, nI_add, pk_mul]) ?_
  refine x_cs C 10 (As := [.int (nI 1), .int (nI 0), .int (nI 4)]) (rest := []) rfl vX8_135 N (c_X8_in Y _ 1 0 4    (by first | assumption | omega) (by first | assumption | omega) (by first | assumption | omega)) rfl rfl (Nat.le_of_ble_eq_true rfl) ⟨Nat.le_of_ble_eq_true rfl, Nat.le_of_ble_eq_true rfl⟩ ⟨Nat.zero_le _, Nat.zero_le _⟩ [] trivial (os' := [(qm, (o0, cO 8 (mo A (nI 0) su (nI sz) bl (nI ci) (nI ma) pa en wr))), (q_inputs, (A 6, cI Y 6 i1)), (q_gates, (A 7, cI Y 6 g1)), (q_outputs, (A 8, cI Y 6 o1)), (q_tabled, (A 9, cI Y 6 t1))]) rfl (st' := [.int 1]) rfl ?_
  refine x_st (st' := [.int (nI 1)]) (by simp only [nlit, nI_add, pk_mul]) ?_
  refine x_ifN_ne C 11 (by omega) rfl (tgt := 24) rfl (fun hc2 => ?_) (fun hc2 => absurd hc2 (by omega))
  refine x_run C 14 1 (pc' := 25) (lv' := [(0, .ref o0), (1, .int (nI c)), (2, .int 1)]) (st' := [.int 1]) rfl ?_
  refine x_st (st' := [.int (nI 1)]) (by simp only [nlit, nI_add, pk_mul]) ?_
  refine x_ifN_ne C 15 (by omega) rfl (tgt := 37) rfl (fun hc3 => ?_) (fun hc3 => absurd hc3 (by omega))
  refine x_run C 21 2 (pc' := 39) (lv' := [(0, .ref o0), (1, .int (nI c)), (2, .int 1)]) (st' := [.int 1, .int 1]) rfl ?_
  refine x_st (st' := [.int (nI 1), .int 1]) (by simp only [nlit, nI_add, pk_mul]) ?_
  refine x_st (st' := [.int (nI 1), .int (nI 1)]) (by simp only [nlit, nI_add, pk_mul]) ?_
  refine x_icmpN_ne C 23 (by omega) (by omega) rfl (tgt := 51) rfl (fun hc4 => absurd hc4 (by omega)) (fun hc4 => ?_)
  refine x_run C 24 1 (pc' := 43) (lv' := [(0, .ref o0), (1, .int (nI c)), (2, .int 1)]) (st' := [.ref o0]) rfl ?_
  refine x_get C 25 rfl fX8_31 N 0 rfl (v := .ref (A 7)) rfl ?_
  refine x_run C 26 1 (pc' := 47) (lv' := [(0, .ref o0), (1, .int (nI c)), (2, .int 1)]) (st' := [.int (nI c), .ref (A 7)]) rfl ?_
  refine x_ialdN C 27 rfl N 2 rfl (by omega) (by omega) ?_
  refine x_st (st' := [.int (nI g)]) (by rw [hga]) ?_
  refine x_run C 28 1 (pc' := 84) (lv' := [(0, .ref o0), (1, .int (nI c)), (2, .int 1)]) (st' := [.int (nI g)]) rfl ?_
  exact x_iret C B rfl 48 rfl (Nat.zero_le _) (Nat.zero_le _) ⟨by rfl, rfl⟩
set_option maxHeartbeats 4000000 in
set_option maxRecDepth 100000 in
theorem c_X8_aboutV2 (Y : xD) (w : va_W) (o0 : Nat) (A : Nat → Nat) (th : Int32) (su : Int32) (sz : Nat) (bl : Int32) (ci : Nat) (ma : Nat) (pa : Int32) (en : Int32) (wr : Int32) (i1 : Nat → Int32) (g1 : Nat → Int32) (o1 : Nat → Int32) (t1 : Nat → Int32) (c : Nat) (n : Nat) (g : Nat) (o : Nat) (tb : Nat) (qm q_inputs q_gates q_outputs q_tabled : Nat) (e0 : w[qm]? = some (o0, cO 8 (mo A th su (nI sz) bl (nI ci) (nI ma) pa en wr))) (e1 : w[q_inputs]? = some (A 6, cI Y 6 i1)) (e2 : w[q_gates]? = some (A 7, cI Y 6 g1)) (e3 : w[q_outputs]? = some (A 8, cI Y 6 o1)) (e4 : w[q_tabled]? = some (A 9, cI Y 6 t1)) (N : xN w.length [qm, q_inputs, q_gates, q_outputs, q_tabled]) (hci : c < ci) (h6 : ci ≤ 6) (hin : i1 c = nI n) (hga : g1 c = nI g) (hoc : o1 c = nI o) (htb : t1 c = nI tb) : Cf Y mX8_about 2 [.ref o0, .int (nI c), .int 2] w (some (.int (abR 2 n g o tb))) [(qm, (o0, cO 8 (mo A (nI 0) su (nI sz) bl (nI ci) (nI ma) pa en wr))), (q_inputs, (A 6, cI Y 6 i1)), (q_gates, (A 7, cI Y 6 g1)), (q_outputs, (A 8, cI Y 6 o1)), (q_tabled, (A 9, cI Y 6 t1))] := by
  refine Ct.intro (T := tX8_about) (by decide) oX8_about (Nat.le_of_ble_eq_true rfl) (fun G C B => ?_)
  refine x_lay [(qm, (o0, cO 8 (mo A th su (nI sz) bl (nI ci) (nI ma) pa en wr))), (q_inputs, (A 6, cI Y 6 i1)), (q_gates, (A 7, cI Y 6 g1)), (q_outputs, (A 8, cI Y 6 o1)), (q_tabled, (A 9, cI Y 6 t1))] (lay_cons e0 (lay_cons e1 (lay_cons e2 (lay_cons e3 (lay_cons e4 lay_nil))))) ?_
  refine x_run C 0 2 (pc' := 2) (lv' := [(0, .ref o0), (1, .int (nI c)), (2, .int 2)]) (st' := [.int 0, .ref o0]) rfl ?_
  refine x_put C 2 rfl pX8_117 N 0 rfl rfl rfl (Nat.le_of_ble_eq_true rfl) (os' := [(qm, (o0, cO 8 (mo A (nI 0) su (nI sz) bl (nI ci) (nI ma) pa en wr))), (q_inputs, (A 6, cI Y 6 i1)), (q_gates, (A 7, cI Y 6 g1)), (q_outputs, (A 8, cI Y 6 o1)), (q_tabled, (A 9, cI Y 6 t1))]) rfl ?_
  refine x_run C 3 2 (pc' := 7) (lv' := [(0, .ref o0), (1, .int (nI c)), (2, .int 2)]) (st' := [.int (nI c), .ref o0]) rfl ?_
  refine x_cv C 5 (As := [.int (nI c)]) (rest := []) rfl vX8_196 N 0 rfl rfl (c_X8_isCircuit Y _ o0 A (nI 0) su sz bl ci ma pa en wr c qm (ovl_at 0 N rfl) (N.ov [0] (by decide) rfl) (by first | assumption | omega) (by first | assumption | omega)) rfl rfl (Nat.le_of_ble_eq_true rfl) ⟨Nat.le_of_ble_eq_true rfl, Nat.le_of_ble_eq_true rfl⟩ ⟨Nat.zero_le _, Nat.zero_le _⟩ [0] ⟨rfl, trivial⟩ (os' := [(qm, (o0, cO 8 (mo A (nI 0) su (nI sz) bl (nI ci) (nI ma) pa en wr))), (q_inputs, (A 6, cI Y 6 i1)), (q_gates, (A 7, cI Y 6 g1)), (q_outputs, (A 8, cI Y 6 o1)), (q_tabled, (A 9, cI Y 6 t1))]) rfl (st' := [.int 1]) rfl ?_
  refine x_st (st' := [.int (nI 1)]) (by simp only [nlit, nI_add, pk_mul]) ?_
  refine x_ifN_eq C 6 (by omega) rfl (tgt := 22) rfl (fun hc1 => absurd hc1 (by omega)) (fun hc1 => ?_)
  refine x_run C 7 3 (pc' := 16) (lv' := [(0, .ref o0), (1, .int (nI c)), (2, .int 2)]) (st' := [.int 4, .int 0, .int 2]) rfl ?_
  refine x_st (st' := [.int (nI 4), .int (nI 0), .int (nI 2)]) (by simp only [nlit, nI_add, pk_mul]) ?_
  refine x_cs C 10 (As := [.int (nI 2), .int (nI 0), .int (nI 4)]) (rest := []) rfl vX8_135 N (c_X8_in Y _ 2 0 4    (by first | assumption | omega) (by first | assumption | omega) (by first | assumption | omega)) rfl rfl (Nat.le_of_ble_eq_true rfl) ⟨Nat.le_of_ble_eq_true rfl, Nat.le_of_ble_eq_true rfl⟩ ⟨Nat.zero_le _, Nat.zero_le _⟩ [] trivial (os' := [(qm, (o0, cO 8 (mo A (nI 0) su (nI sz) bl (nI ci) (nI ma) pa en wr))), (q_inputs, (A 6, cI Y 6 i1)), (q_gates, (A 7, cI Y 6 g1)), (q_outputs, (A 8, cI Y 6 o1)), (q_tabled, (A 9, cI Y 6 t1))]) rfl (st' := [.int 1]) rfl ?_
  refine x_st (st' := [.int (nI 1)]) (by simp only [nlit, nI_add, pk_mul]) ?_
  refine x_ifN_ne C 11 (by omega) rfl (tgt := 24) rfl (fun hc2 => ?_) (fun hc2 => absurd hc2 (by omega))
  refine x_run C 14 1 (pc' := 25) (lv' := [(0, .ref o0), (1, .int (nI c)), (2, .int 2)]) (st' := [.int 2]) rfl ?_
  refine x_st (st' := [.int (nI 2)]) (by simp only [nlit, nI_add, pk_mul]) ?_
  refine x_ifN_ne C 15 (by omega) rfl (tgt := 37) rfl (fun hc3 => ?_) (fun hc3 => absurd hc3 (by omega))
  refine x_run C 21 2 (pc' := 39) (lv' := [(0, .ref o0), (1, .int (nI c)), (2, .int 2)]) (st' := [.int 1, .int 2]) rfl ?_
  refine x_st (st' := [.int (nI 1), .int 2]) (by simp only [nlit, nI_add, pk_mul]) ?_
  refine x_st (st' := [.int (nI 1), .int (nI 2)]) (by simp only [nlit, nI_add, pk_mul]) ?_
  refine x_icmpN_ne C 23 (by omega) (by omega) rfl (tgt := 51) rfl (fun hc4 => ?_) (fun hc4 => absurd hc4 (by omega))
  refine x_run C 29 2 (pc' := 53) (lv' := [(0, .ref o0), (1, .int (nI c)), (2, .int 2)]) (st' := [.int 2, .int 2]) rfl ?_
  refine x_st (st' := [.int (nI 2), .int 2]) (by simp only [nlit, nI_add, pk_mul]) ?_
  refine x_st (st' := [.int (nI 2), .int (nI 2)]) (by simp only [nlit, nI_add, pk_mul]) ?_
  refine x_icmpN_ne C 31 (by omega) (by omega) rfl (tgt := 65) rfl (fun hc5 => absurd hc5 (by omega)) (fun hc5 => ?_)
  refine x_run C 32 1 (pc' := 57) (lv' := [(0, .ref o0), (1, .int (nI c)), (2, .int 2)]) (st' := [.ref o0]) rfl ?_
  refine x_get C 33 rfl fX8_34 N 0 rfl (v := .ref (A 8)) rfl ?_
  refine x_run C 34 1 (pc' := 61) (lv' := [(0, .ref o0), (1, .int (nI c)), (2, .int 2)]) (st' := [.int (nI c), .ref (A 8)]) rfl ?_
  refine x_ialdN C 35 rfl N 3 rfl (by omega) (by omega) ?_
  refine x_st (st' := [.int (nI o)]) (by rw [hoc]) ?_
  refine x_run C 36 1 (pc' := 84) (lv' := [(0, .ref o0), (1, .int (nI c)), (2, .int 2)]) (st' := [.int (nI o)]) rfl ?_
  exact x_iret C B rfl 48 rfl (Nat.zero_le _) (Nat.zero_le _) ⟨by rfl, rfl⟩
set_option maxHeartbeats 4000000 in
set_option maxRecDepth 100000 in
theorem c_X8_aboutV3 (Y : xD) (w : va_W) (o0 : Nat) (A : Nat → Nat) (th : Int32) (su : Int32) (sz : Nat) (bl : Int32) (ci : Nat) (ma : Nat) (pa : Int32) (en : Int32) (wr : Int32) (i1 : Nat → Int32) (g1 : Nat → Int32) (o1 : Nat → Int32) (t1 : Nat → Int32) (c : Nat) (n : Nat) (g : Nat) (o : Nat) (tb : Nat) (qm q_inputs q_gates q_outputs q_tabled : Nat) (e0 : w[qm]? = some (o0, cO 8 (mo A th su (nI sz) bl (nI ci) (nI ma) pa en wr))) (e1 : w[q_inputs]? = some (A 6, cI Y 6 i1)) (e2 : w[q_gates]? = some (A 7, cI Y 6 g1)) (e3 : w[q_outputs]? = some (A 8, cI Y 6 o1)) (e4 : w[q_tabled]? = some (A 9, cI Y 6 t1)) (N : xN w.length [qm, q_inputs, q_gates, q_outputs, q_tabled]) (hci : c < ci) (h6 : ci ≤ 6) (hin : i1 c = nI n) (hga : g1 c = nI g) (hoc : o1 c = nI o) (htb : t1 c = nI tb) : Cf Y mX8_about 2 [.ref o0, .int (nI c), .int 3] w (some (.int (abR 3 n g o tb))) [(qm, (o0, cO 8 (mo A (nI 0) su (nI sz) bl (nI ci) (nI ma) pa en wr))), (q_inputs, (A 6, cI Y 6 i1)), (q_gates, (A 7, cI Y 6 g1)), (q_outputs, (A 8, cI Y 6 o1)), (q_tabled, (A 9, cI Y 6 t1))] := by
  refine Ct.intro (T := tX8_about) (by decide) oX8_about (Nat.le_of_ble_eq_true rfl) (fun G C B => ?_)
  refine x_lay [(qm, (o0, cO 8 (mo A th su (nI sz) bl (nI ci) (nI ma) pa en wr))), (q_inputs, (A 6, cI Y 6 i1)), (q_gates, (A 7, cI Y 6 g1)), (q_outputs, (A 8, cI Y 6 o1)), (q_tabled, (A 9, cI Y 6 t1))] (lay_cons e0 (lay_cons e1 (lay_cons e2 (lay_cons e3 (lay_cons e4 lay_nil))))) ?_
  refine x_run C 0 2 (pc' := 2) (lv' := [(0, .ref o0), (1, .int (nI c)), (2, .int 3)]) (st' := [.int 0, .ref o0]) rfl ?_
  refine x_put C 2 rfl pX8_117 N 0 rfl rfl rfl (Nat.le_of_ble_eq_true rfl) (os' := [(qm, (o0, cO 8 (mo A (nI 0) su (nI sz) bl (nI ci) (nI ma) pa en wr))), (q_inputs, (A 6, cI Y 6 i1)), (q_gates, (A 7, cI Y 6 g1)), (q_outputs, (A 8, cI Y 6 o1)), (q_tabled, (A 9, cI Y 6 t1))]) rfl ?_
  refine x_run C 3 2 (pc' := 7) (lv' := [(0, .ref o0), (1, .int (nI c)), (2, .int 3)]) (st' := [.int (nI c), .ref o0]) rfl ?_
  refine x_cv C 5 (As := [.int (nI c)]) (rest := []) rfl vX8_196 N 0 rfl rfl (c_X8_isCircuit Y _ o0 A (nI 0) su sz bl ci ma pa en wr c qm (ovl_at 0 N rfl) (N.ov [0] (by decide) rfl) (by first | assumption | omega) (by first | assumption | omega)) rfl rfl (Nat.le_of_ble_eq_true rfl) ⟨Nat.le_of_ble_eq_true rfl, Nat.le_of_ble_eq_true rfl⟩ ⟨Nat.zero_le _, Nat.zero_le _⟩ [0] ⟨rfl, trivial⟩ (os' := [(qm, (o0, cO 8 (mo A (nI 0) su (nI sz) bl (nI ci) (nI ma) pa en wr))), (q_inputs, (A 6, cI Y 6 i1)), (q_gates, (A 7, cI Y 6 g1)), (q_outputs, (A 8, cI Y 6 o1)), (q_tabled, (A 9, cI Y 6 t1))]) rfl (st' := [.int 1]) rfl ?_
  refine x_st (st' := [.int (nI 1)]) (by simp only [nlit, nI_add, pk_mul]) ?_
  refine x_ifN_eq C 6 (by omega) rfl (tgt := 22) rfl (fun hc1 => absurd hc1 (by omega)) (fun hc1 => ?_)
  refine x_run C 7 3 (pc' := 16) (lv' := [(0, .ref o0), (1, .int (nI c)), (2, .int 3)]) (st' := [.int 4, .int 0, .int 3]) rfl ?_
  refine x_st (st' := [.int (nI 4), .int (nI 0), .int (nI 3)]) (by simp only [nlit, nI_add, pk_mul]) ?_
  refine x_cs C 10 (As := [.int (nI 3), .int (nI 0), .int (nI 4)]) (rest := []) rfl vX8_135 N (c_X8_in Y _ 3 0 4    (by first | assumption | omega) (by first | assumption | omega) (by first | assumption | omega)) rfl rfl (Nat.le_of_ble_eq_true rfl) ⟨Nat.le_of_ble_eq_true rfl, Nat.le_of_ble_eq_true rfl⟩ ⟨Nat.zero_le _, Nat.zero_le _⟩ [] trivial (os' := [(qm, (o0, cO 8 (mo A (nI 0) su (nI sz) bl (nI ci) (nI ma) pa en wr))), (q_inputs, (A 6, cI Y 6 i1)), (q_gates, (A 7, cI Y 6 g1)), (q_outputs, (A 8, cI Y 6 o1)), (q_tabled, (A 9, cI Y 6 t1))]) rfl (st' := [.int 1]) rfl ?_
  refine x_st (st' := [.int (nI 1)]) (by simp only [nlit, nI_add, pk_mul]) ?_
  refine x_ifN_ne C 11 (by omega) rfl (tgt := 24) rfl (fun hc2 => ?_) (fun hc2 => absurd hc2 (by omega))
  refine x_run C 14 1 (pc' := 25) (lv' := [(0, .ref o0), (1, .int (nI c)), (2, .int 3)]) (st' := [.int 3]) rfl ?_
  refine x_st (st' := [.int (nI 3)]) (by simp only [nlit, nI_add, pk_mul]) ?_
  refine x_ifN_ne C 15 (by omega) rfl (tgt := 37) rfl (fun hc3 => ?_) (fun hc3 => absurd hc3 (by omega))
  refine x_run C 21 2 (pc' := 39) (lv' := [(0, .ref o0), (1, .int (nI c)), (2, .int 3)]) (st' := [.int 1, .int 3]) rfl ?_
  refine x_st (st' := [.int (nI 1), .int 3]) (by simp only [nlit, nI_add, pk_mul]) ?_
  refine x_st (st' := [.int (nI 1), .int (nI 3)]) (by simp only [nlit, nI_add, pk_mul]) ?_
  refine x_icmpN_ne C 23 (by omega) (by omega) rfl (tgt := 51) rfl (fun hc4 => ?_) (fun hc4 => absurd hc4 (by omega))
  refine x_run C 29 2 (pc' := 53) (lv' := [(0, .ref o0), (1, .int (nI c)), (2, .int 3)]) (st' := [.int 2, .int 3]) rfl ?_
  refine x_st (st' := [.int (nI 2), .int 3]) (by simp only [nlit, nI_add, pk_mul]) ?_
  refine x_st (st' := [.int (nI 2), .int (nI 3)]) (by simp only [nlit, nI_add, pk_mul]) ?_
  refine x_icmpN_ne C 31 (by omega) (by omega) rfl (tgt := 65) rfl (fun hc5 => ?_) (fun hc5 => absurd hc5 (by omega))
  refine x_run C 37 2 (pc' := 67) (lv' := [(0, .ref o0), (1, .int (nI c)), (2, .int 3)]) (st' := [.int 3, .int 3]) rfl ?_
  refine x_st (st' := [.int (nI 3), .int 3]) (by simp only [nlit, nI_add, pk_mul]) ?_
  refine x_st (st' := [.int (nI 3), .int (nI 3)]) (by simp only [nlit, nI_add, pk_mul]) ?_
  refine x_icmpN_ne C 39 (by omega) (by omega) rfl (tgt := 79) rfl (fun hc6 => absurd hc6 (by omega)) (fun hc6 => ?_)
  refine x_run C 40 1 (pc' := 71) (lv' := [(0, .ref o0), (1, .int (nI c)), (2, .int 3)]) (st' := [.ref o0]) rfl ?_
  refine x_get C 41 rfl fX8_37 N 0 rfl (v := .ref (A 9)) rfl ?_
  refine x_run C 42 1 (pc' := 75) (lv' := [(0, .ref o0), (1, .int (nI c)), (2, .int 3)]) (st' := [.int (nI c), .ref (A 9)]) rfl ?_
  refine x_ialdN C 43 rfl N 4 rfl (by omega) (by omega) ?_
  refine x_st (st' := [.int (nI tb)]) (by rw [htb]) ?_
  refine x_run C 44 1 (pc' := 84) (lv' := [(0, .ref o0), (1, .int (nI c)), (2, .int 3)]) (st' := [.int (nI tb)]) rfl ?_
  exact x_iret C B rfl 48 rfl (Nat.zero_le _) (Nat.zero_le _) ⟨by rfl, rfl⟩
set_option maxHeartbeats 4000000 in
set_option maxRecDepth 100000 in
theorem c_X8_aboutV4 (Y : xD) (w : va_W) (o0 : Nat) (A : Nat → Nat) (th : Int32) (su : Int32) (sz : Nat) (bl : Int32) (ci : Nat) (ma : Nat) (pa : Int32) (en : Int32) (wr : Int32) (i1 : Nat → Int32) (g1 : Nat → Int32) (o1 : Nat → Int32) (t1 : Nat → Int32) (c : Nat) (n : Nat) (g : Nat) (o : Nat) (tb : Nat) (qm q_inputs q_gates q_outputs q_tabled : Nat) (e0 : w[qm]? = some (o0, cO 8 (mo A th su (nI sz) bl (nI ci) (nI ma) pa en wr))) (e1 : w[q_inputs]? = some (A 6, cI Y 6 i1)) (e2 : w[q_gates]? = some (A 7, cI Y 6 g1)) (e3 : w[q_outputs]? = some (A 8, cI Y 6 o1)) (e4 : w[q_tabled]? = some (A 9, cI Y 6 t1)) (N : xN w.length [qm, q_inputs, q_gates, q_outputs, q_tabled]) (hci : c < ci) (h6 : ci ≤ 6) (hin : i1 c = nI n) (hga : g1 c = nI g) (hoc : o1 c = nI o) (htb : t1 c = nI tb) : Cf Y mX8_about 2 [.ref o0, .int (nI c), .int 4] w (some (.int (abR 4 n g o tb))) [(qm, (o0, cO 8 (mo A (nI 0) su (nI sz) bl (nI ci) (nI ma) pa en wr))), (q_inputs, (A 6, cI Y 6 i1)), (q_gates, (A 7, cI Y 6 g1)), (q_outputs, (A 8, cI Y 6 o1)), (q_tabled, (A 9, cI Y 6 t1))] := by
  refine Ct.intro (T := tX8_about) (by decide) oX8_about (Nat.le_of_ble_eq_true rfl) (fun G C B => ?_)
  refine x_lay [(qm, (o0, cO 8 (mo A th su (nI sz) bl (nI ci) (nI ma) pa en wr))), (q_inputs, (A 6, cI Y 6 i1)), (q_gates, (A 7, cI Y 6 g1)), (q_outputs, (A 8, cI Y 6 o1)), (q_tabled, (A 9, cI Y 6 t1))] (lay_cons e0 (lay_cons e1 (lay_cons e2 (lay_cons e3 (lay_cons e4 lay_nil))))) ?_
  refine x_run C 0 2 (pc' := 2) (lv' := [(0, .ref o0), (1, .int (nI c)), (2, .int 4)]) (st' := [.int 0, .ref o0]) rfl ?_
  refine x_put C 2 rfl pX8_117 N 0 rfl rfl rfl (Nat.le_of_ble_eq_true rfl) (os' := [(qm, (o0, cO 8 (mo A (nI 0) su (nI sz) bl (nI ci) (nI ma) pa en wr))), (q_inputs, (A 6, cI Y 6 i1)), (q_gates, (A 7, cI Y 6 g1)), (q_outputs, (A 8, cI Y 6 o1)), (q_tabled, (A 9, cI Y 6 t1))]) rfl ?_
  refine x_run C 3 2 (pc' := 7) (lv' := [(0, .ref o0), (1, .int (nI c)), (2, .int 4)]) (st' := [.int (nI c), .ref o0]) rfl ?_
  refine x_cv C 5 (As := [.int (nI c)]) (rest := []) rfl vX8_196 N 0 rfl rfl (c_X8_isCircuit Y _ o0 A (nI 0) su sz bl ci ma pa en wr c qm (ovl_at 0 N rfl) (N.ov [0] (by decide) rfl) (by first | assumption | omega) (by first | assumption | omega)) rfl rfl (Nat.le_of_ble_eq_true rfl) ⟨Nat.le_of_ble_eq_true rfl, Nat.le_of_ble_eq_true rfl⟩ ⟨Nat.zero_le _, Nat.zero_le _⟩ [0] ⟨rfl, trivial⟩ (os' := [(qm, (o0, cO 8 (mo A (nI 0) su (nI sz) bl (nI ci) (nI ma) pa en wr))), (q_inputs, (A 6, cI Y 6 i1)), (q_gates, (A 7, cI Y 6 g1)), (q_outputs, (A 8, cI Y 6 o1)), (q_tabled, (A 9, cI Y 6 t1))]) rfl (st' := [.int 1]) rfl ?_
  refine x_st (st' := [.int (nI 1)]) (by simp only [nlit, nI_add, pk_mul]) ?_
  refine x_ifN_eq C 6 (by omega) rfl (tgt := 22) rfl (fun hc1 => absurd hc1 (by omega)) (fun hc1 => ?_)
  refine x_run C 7 3 (pc' := 16) (lv' := [(0, .ref o0), (1, .int (nI c)), (2, .int 4)]) (st' := [.int 4, .int 0, .int 4]) rfl ?_
  refine x_st (st' := [.int (nI 4), .int (nI 0), .int (nI 4)]) (by simp only [nlit, nI_add, pk_mul]) ?_
  refine x_cs C 10 (As := [.int (nI 4), .int (nI 0), .int (nI 4)]) (rest := []) rfl vX8_135 N (c_X8_in Y _ 4 0 4    (by first | assumption | omega) (by first | assumption | omega) (by first | assumption | omega)) rfl rfl (Nat.le_of_ble_eq_true rfl) ⟨Nat.le_of_ble_eq_true rfl, Nat.le_of_ble_eq_true rfl⟩ ⟨Nat.zero_le _, Nat.zero_le _⟩ [] trivial (os' := [(qm, (o0, cO 8 (mo A (nI 0) su (nI sz) bl (nI ci) (nI ma) pa en wr))), (q_inputs, (A 6, cI Y 6 i1)), (q_gates, (A 7, cI Y 6 g1)), (q_outputs, (A 8, cI Y 6 o1)), (q_tabled, (A 9, cI Y 6 t1))]) rfl (st' := [.int 1]) rfl ?_
  refine x_st (st' := [.int (nI 1)]) (by simp only [nlit, nI_add, pk_mul]) ?_
  refine x_ifN_ne C 11 (by omega) rfl (tgt := 24) rfl (fun hc2 => ?_) (fun hc2 => absurd hc2 (by omega))
  refine x_run C 14 1 (pc' := 25) (lv' := [(0, .ref o0), (1, .int (nI c)), (2, .int 4)]) (st' := [.int 4]) rfl ?_
  refine x_st (st' := [.int (nI 4)]) (by simp only [nlit, nI_add, pk_mul]) ?_
  refine x_ifN_ne C 15 (by omega) rfl (tgt := 37) rfl (fun hc3 => ?_) (fun hc3 => absurd hc3 (by omega))
  refine x_run C 21 2 (pc' := 39) (lv' := [(0, .ref o0), (1, .int (nI c)), (2, .int 4)]) (st' := [.int 1, .int 4]) rfl ?_
  refine x_st (st' := [.int (nI 1), .int 4]) (by simp only [nlit, nI_add, pk_mul]) ?_
  refine x_st (st' := [.int (nI 1), .int (nI 4)]) (by simp only [nlit, nI_add, pk_mul]) ?_
  refine x_icmpN_ne C 23 (by omega) (by omega) rfl (tgt := 51) rfl (fun hc4 => ?_) (fun hc4 => absurd hc4 (by omega))
  refine x_run C 29 2 (pc' := 53) (lv' := [(0, .ref o0), (1, .int (nI c)), (2, .int 4)]) (st' := [.int 2, .int 4]) rfl ?_
  refine x_st (st' := [.int (nI 2), .int 4]) (by simp only [nlit, nI_add, pk_mul]) ?_
  refine x_st (st' := [.int (nI 2), .int (nI 4)]) (by simp only [nlit, nI_add, pk_mul]) ?_
  refine x_icmpN_ne C 31 (by omega) (by omega) rfl (tgt := 65) rfl (fun hc5 => ?_) (fun hc5 => absurd hc5 (by omega))
  refine x_run C 37 2 (pc' := 67) (lv' := [(0, .ref o0), (1, .int (nI c)), (2, .int 4)]) (st' := [.int 3, .int 4]) rfl ?_
  refine x_st (st' := [.int (nI 3), .int 4]) (by simp only [nlit, nI_add, pk_mul]) ?_
  refine x_st (st' := [.int (nI 3), .int (nI 4)]) (by simp only [nlit, nI_add, pk_mul]) ?_
  refine x_icmpN_ne C 39 (by omega) (by omega) rfl (tgt := 79) rfl (fun hc6 => ?_) (fun hc6 => absurd hc6 (by omega))
  refine x_run C 45 2 (pc' := 81) (lv' := [(0, .ref o0), (1, .int (nI c)), (2, .int 4)]) (st' := [.int (nI c), .ref o0]) rfl ?_
  refine x_cv C 47 (As := [.int (nI c)]) (rest := []) rfl vX8_199 N 0 rfl rfl (c_X8_wiresOf Y _ o0 A (nI 0) su sz bl ci ma pa en wr i1 g1 c n g qm q_inputs q_gates (ovl_at 0 N rfl) (ovl_at 1 N rfl) (ovl_at 2 N rfl) (N.ov [0, 1, 2] (by decide) rfl) (by first | assumption | omega) (by first | assumption | omega) (by first | assumption | omega)) rfl rfl (Nat.le_of_ble_eq_true rfl) ⟨Nat.le_of_ble_eq_true rfl, Nat.le_of_ble_eq_true rfl⟩ ⟨Nat.zero_le _, Nat.zero_le _⟩ [0, 1, 2] ⟨rfl, rfl, rfl, trivial⟩ (os' := [(qm, (o0, cO 8 (mo A (nI 0) su (nI sz) bl (nI ci) (nI ma) pa en wr))), (q_inputs, (A 6, cI Y 6 i1)), (q_gates, (A 7, cI Y 6 g1)), (q_outputs, (A 8, cI Y 6 o1)), (q_tabled, (A 9, cI Y 6 t1))]) rfl (st' := [.int (nI (n + g))]) rfl ?_
  exact x_iret C B rfl 48 rfl (Nat.zero_le _) (Nat.zero_le _) ⟨by rfl, rfl⟩
set_option maxHeartbeats 4000000 in
theorem c_X8_about (Y : xD) (w : va_W) (o0 : Nat) (A : Nat → Nat) (th : Int32) (su : Int32) (sz : Nat) (bl : Int32) (ci : Nat) (ma : Nat) (pa : Int32) (en : Int32) (wr : Int32) (i1 : Nat → Int32) (g1 : Nat → Int32) (o1 : Nat → Int32) (t1 : Nat → Int32) (c : Nat) (n : Nat) (g : Nat) (o : Nat) (tb : Nat) (x : Int32) (qm q_inputs q_gates q_outputs q_tabled : Nat) (e0 : w[qm]? = some (o0, cO 8 (mo A th su (nI sz) bl (nI ci) (nI ma) pa en wr))) (e1 : w[q_inputs]? = some (A 6, cI Y 6 i1)) (e2 : w[q_gates]? = some (A 7, cI Y 6 g1)) (e3 : w[q_outputs]? = some (A 8, cI Y 6 o1)) (e4 : w[q_tabled]? = some (A 9, cI Y 6 t1)) (N : xN w.length [qm, q_inputs, q_gates, q_outputs, q_tabled]) (hci : c < ci) (h6 : ci ≤ 6) (hin : i1 c = nI n) (hga : g1 c = nI g) (hoc : o1 c = nI o) (htb : t1 c = nI tb) : Cf Y mX8_about 2 [.ref o0, .int (nI c), .int x] w (some (.int (abR x n g o tb))) [(qm, (o0, cO 8 (mo A (nI 0) su (nI sz) bl (nI ci) (nI ma) pa en wr))), (q_inputs, (A 6, cI Y 6 i1)), (q_gates, (A 7, cI Y 6 g1)), (q_outputs, (A 8, cI Y 6 o1)), (q_tabled, (A 9, cI Y 6 t1))] := by
  by_cases hx : x < 0 ∨ nI 4 < x
  · have h := c_X8_aboutV Y w o0 A th su sz bl ci ma pa en wr i1 g1 o1 t1 c n g o tb x qm q_inputs q_gates q_outputs q_tabled e0 e1 e2 e3 e4 N hci h6 hin hga hoc htb hx
    have e : (abR x n g o tb) = -1 := by
      unfold abR
      rw [if_neg (show ¬ x = 0 from ov_0 (m := 4) (k := 0) (by decide) (by decide) hx), if_neg (show ¬ x = 1 from ov_0 (m := 4) (k := 1) (by decide) (by decide) hx), if_neg (show ¬ x = 2 from ov_0 (m := 4) (k := 2) (by decide) (by decide) hx), if_neg (show ¬ x = 3 from ov_0 (m := 4) (k := 3) (by decide) (by decide) hx), if_neg (show ¬ x = 4 from ov_0 (m := 4) (k := 4) (by decide) (by decide) hx)]
    rw [e]
    exact h
  · obtain ⟨k, hk, rfl⟩ := in_k (by decide) hx
    match k, hk with
    | 0, _ => exact c_X8_aboutV0 Y w o0 A th su sz bl ci ma pa en wr i1 g1 o1 t1 c n g o tb qm q_inputs q_gates q_outputs q_tabled e0 e1 e2 e3 e4 N hci h6 hin hga hoc htb
    | 1, _ => exact c_X8_aboutV1 Y w o0 A th su sz bl ci ma pa en wr i1 g1 o1 t1 c n g o tb qm q_inputs q_gates q_outputs q_tabled e0 e1 e2 e3 e4 N hci h6 hin hga hoc htb
    | 2, _ => exact c_X8_aboutV2 Y w o0 A th su sz bl ci ma pa en wr i1 g1 o1 t1 c n g o tb qm q_inputs q_gates q_outputs q_tabled e0 e1 e2 e3 e4 N hci h6 hin hga hoc htb
    | 3, _ => exact c_X8_aboutV3 Y w o0 A th su sz bl ci ma pa en wr i1 g1 o1 t1 c n g o tb qm q_inputs q_gates q_outputs q_tabled e0 e1 e2 e3 e4 N hci h6 hin hga hoc htb
    | 4, _ => exact c_X8_aboutV4 Y w o0 A th su sz bl ci ma pa en wr i1 g1 o1 t1 c n g o tb qm q_inputs q_gates q_outputs q_tabled e0 e1 e2 e3 e4 N hci h6 hin hga hoc htb
    | k + 5, h => exact absurd h (by omega)
set_option maxHeartbeats 4000000 in
set_option maxRecDepth 100000 in
theorem c_X8_gateF (Y : xD) (w : va_W) (o0 : Nat) (A : Nat → Nat) (th : Int32) (su : Int32) (sz : Nat) (bl : Int32) (ci : Nat) (ma : Nat) (pa : Int32) (en : Int32) (wr : Int32) (x : Int32) (v : Int32) (u : Int32) (qm : Nat) (e0 : w[qm]? = some (o0, cO 8 (mo A th su (nI sz) bl (nI ci) (nI ma) pa en wr))) (N : xN w.length [qm]) (hx : x < 0 ∨ nI ci ≤ x) (h6 : ci ≤ 6) : Cf Y mX8_gate 2 [.ref o0, .int x, .int v, .int u] w (some (.int (-1))) [(qm, (o0, cO 8 (mo A (nI 0) su (nI sz) bl (nI ci) (nI ma) pa en wr)))] := by
  refine Ct.intro (T := tX8_gate) (by decide) oX8_gate (Nat.le_of_ble_eq_true rfl) (fun G C B => ?_)
  refine x_lay [(qm, (o0, cO 8 (mo A th su (nI sz) bl (nI ci) (nI ma) pa en wr)))] (lay_cons e0 lay_nil) ?_
  refine x_run C 0 2 (pc' := 2) (lv' := [(0, .ref o0), (1, .int x), (2, .int v), (3, .int u)]) (st' := [.int 0, .ref o0]) rfl ?_
  refine x_put C 2 rfl pX8_117 N 0 rfl rfl rfl (Nat.le_of_ble_eq_true rfl) (os' := [(qm, (o0, cO 8 (mo A (nI 0) su (nI sz) bl (nI ci) (nI ma) pa en wr)))]) rfl ?_
  refine x_run C 3 2 (pc' := 7) (lv' := [(0, .ref o0), (1, .int x), (2, .int v), (3, .int u)]) (st' := [.int x, .ref o0]) rfl ?_
  refine x_cv C 5 (As := [.int x]) (rest := []) rfl vX8_196 N 0 rfl rfl (c_X8_isCircuitF Y _ o0 A (nI 0) su sz bl ci ma pa en wr x qm (ovl_at 0 N rfl) (N.ov [0] (by decide) rfl) hx (by first | assumption | omega)) rfl rfl (Nat.le_of_ble_eq_true rfl) ⟨Nat.le_of_ble_eq_true rfl, Nat.le_of_ble_eq_true rfl⟩ ⟨Nat.zero_le _, Nat.zero_le _⟩ [0] ⟨rfl, trivial⟩ (os' := [(qm, (o0, cO 8 (mo A (nI 0) su (nI sz) bl (nI ci) (nI ma) pa en wr)))]) rfl (st' := [.int 0]) rfl ?_
  refine x_st (st' := [.int (nI 0)]) (by simp only [nlit, nI_add, pk_mul]) ?_
  refine x_ifN_eq C 6 (by omega) rfl (tgt := 38) rfl (fun hc1 => ?_) (fun hc1 => absurd hc1 (by omega))
  refine x_run C 22 1 (pc' := 39) (lv' := [(0, .ref o0), (1, .int x), (2, .int v), (3, .int u)]) (st' := [.int (-1)]) rfl ?_
  exact x_iret C B rfl 23 rfl (Nat.zero_le _) (Nat.zero_le _) ⟨by first | rfl | (simp only [nlit, nI_add, pk_mul]; done), by first | rfl | (simp only [nlit, nI_add, pk_mul]; done)⟩
set_option maxHeartbeats 4000000 in
set_option maxRecDepth 100000 in
theorem c_X8_gateB (Y : xD) (w : va_W) (o0 : Nat) (A : Nat → Nat) (th : Int32) (su : Int32) (sz : Nat) (bl : Int32) (ci : Nat) (ma : Nat) (pa : Int32) (en : Int32) (wr : Int32) (g1 : Nat → Int32) (c : Nat) (g : Nat) (v : Int32) (u : Int32) (qm q_gates : Nat) (e0 : w[qm]? = some (o0, cO 8 (mo A th su (nI sz) bl (nI ci) (nI ma) pa en wr))) (e1 : w[q_gates]? = some (A 7, cI Y 6 g1)) (N : xN w.length [qm, q_gates]) (hci : c < ci) (h6 : ci ≤ 6) (hga : g1 c = nI g) (hg40 : g ≤ 40) (hv : v < 0 ∨ nI g ≤ v) : Cf Y mX8_gate 2 [.ref o0, .int (nI c), .int v, .int u] w (some (.int (-1))) [(qm, (o0, cO 8 (mo A (nI 0) su (nI sz) bl (nI ci) (nI ma) pa en wr))), (q_gates, (A 7, cI Y 6 g1))] := by
  refine Ct.intro (T := tX8_gate) (by decide) oX8_gate (Nat.le_of_ble_eq_true rfl) (fun G C B => ?_)
  refine x_lay [(qm, (o0, cO 8 (mo A th su (nI sz) bl (nI ci) (nI ma) pa en wr))), (q_gates, (A 7, cI Y 6 g1))] (lay_cons e0 (lay_cons e1 lay_nil)) ?_
  refine x_run C 0 2 (pc' := 2) (lv' := [(0, .ref o0), (1, .int (nI c)), (2, .int v), (3, .int u)]) (st' := [.int 0, .ref o0]) rfl ?_
  refine x_put C 2 rfl pX8_117 N 0 rfl rfl rfl (Nat.le_of_ble_eq_true rfl) (os' := [(qm, (o0, cO 8 (mo A (nI 0) su (nI sz) bl (nI ci) (nI ma) pa en wr))), (q_gates, (A 7, cI Y 6 g1))]) rfl ?_
  refine x_run C 3 2 (pc' := 7) (lv' := [(0, .ref o0), (1, .int (nI c)), (2, .int v), (3, .int u)]) (st' := [.int (nI c), .ref o0]) rfl ?_
  refine x_cv C 5 (As := [.int (nI c)]) (rest := []) rfl vX8_196 N 0 rfl rfl (c_X8_isCircuit Y _ o0 A (nI 0) su sz bl ci ma pa en wr c qm (ovl_at 0 N rfl) (N.ov [0] (by decide) rfl) (by first | assumption | omega) (by first | assumption | omega)) rfl rfl (Nat.le_of_ble_eq_true rfl) ⟨Nat.le_of_ble_eq_true rfl, Nat.le_of_ble_eq_true rfl⟩ ⟨Nat.zero_le _, Nat.zero_le _⟩ [0] ⟨rfl, trivial⟩ (os' := [(qm, (o0, cO 8 (mo A (nI 0) su (nI sz) bl (nI ci) (nI ma) pa en wr))), (q_gates, (A 7, cI Y 6 g1))]) rfl (st' := [.int 1]) rfl ?_
  refine x_st (st' := [.int (nI 1)]) (by simp only [nlit, nI_add, pk_mul]) ?_
  refine x_ifN_eq C 6 (by omega) rfl (tgt := 38) rfl (fun hc1 => absurd hc1 (by omega)) (fun hc1 => ?_)
  refine x_run C 7 3 (pc' := 16) (lv' := [(0, .ref o0), (1, .int (nI c)), (2, .int v), (3, .int u)]) (st' := [.ref o0, .int 0, .int v]) rfl ?_
  refine x_get C 10 rfl fX8_31 N 0 rfl (v := .ref (A 7)) rfl ?_
  refine x_run C 11 1 (pc' := 20) (lv' := [(0, .ref o0), (1, .int (nI c)), (2, .int v), (3, .int u)]) (st' := [.int (nI c), .ref (A 7), .int 0, .int v]) rfl ?_
  refine x_ialdN C 12 rfl N 1 rfl (by omega) (by omega) ?_
  refine x_st (st' := [.int (nI g), .int 0, .int v]) (by rw [hga]) ?_
  refine x_run C 13 2 (pc' := 23) (lv' := [(0, .ref o0), (1, .int (nI c)), (2, .int v), (3, .int u)]) (st' := [.int ((nI g) - 1), .int 0, .int v]) rfl ?_
  refine x_cs C 15 (As := [.int v, .int 0, .int ((nI g) - 1)]) (rest := []) rfl vX8_135 N (c_X8_inF Y _ v 0 ((nI g) - 1)    (hv.imp id (le_pred (by omega)))) rfl rfl (Nat.le_of_ble_eq_true rfl) ⟨Nat.le_of_ble_eq_true rfl, Nat.le_of_ble_eq_true rfl⟩ ⟨Nat.zero_le _, Nat.zero_le _⟩ [] trivial (os' := [(qm, (o0, cO 8 (mo A (nI 0) su (nI sz) bl (nI ci) (nI ma) pa en wr))), (q_gates, (A 7, cI Y 6 g1))]) rfl (st' := [.int 0]) rfl ?_
  refine x_st (st' := [.int (nI 0)]) (by simp only [nlit, nI_add, pk_mul]) ?_
  refine x_ifN_eq C 16 (by omega) rfl (tgt := 38) rfl (fun hc2 => ?_) (fun hc2 => absurd hc2 (by omega))
  refine x_run C 22 1 (pc' := 39) (lv' := [(0, .ref o0), (1, .int (nI c)), (2, .int v), (3, .int u)]) (st' := [.int (-1)]) rfl ?_
  exact x_iret C B rfl 23 rfl (Nat.zero_le _) (Nat.zero_le _) ⟨by first | rfl | (simp only [nlit, nI_add, pk_mul]; done), by first | rfl | (simp only [nlit, nI_add, pk_mul]; done)⟩
set_option maxHeartbeats 4000000 in
set_option maxRecDepth 100000 in
theorem c_X8_gateV (Y : xD) (w : va_W) (o0 : Nat) (A : Nat → Nat) (th : Int32) (su : Int32) (sz : Nat) (bl : Int32) (ci : Nat) (ma : Nat) (pa : Int32) (en : Int32) (wr : Int32) (g1 : Nat → Int32) (s1 : Nat → Int32) (l1 : Nat → Int32) (r1 : Nat → Int32) (n1 : Nat → Int32) (c : Nat) (g : Nat) (i : Nat) (x : Int32) (qm q_gates q_sign q_left q_right q_tableOf : Nat) (e0 : w[qm]? = some (o0, cO 8 (mo A th su (nI sz) bl (nI ci) (nI ma) pa en wr))) (e1 : w[q_gates]? = some (A 7, cI Y 6 g1)) (e2 : w[q_sign]? = some (A 10, cI Y 240 s1)) (e3 : w[q_left]? = some (A 11, cI Y 240 l1)) (e4 : w[q_right]? = some (A 12, cI Y 240 r1)) (e5 : w[q_tableOf]? = some (A 13, cI Y 240 n1)) (N : xN w.length [qm, q_gates, q_sign, q_left, q_right, q_tableOf]) (hci : c < ci) (h6 : ci ≤ 6) (hga : g1 c = nI g) (hg40 : g ≤ 40) (hi : i < g) (hx : x < 0 ∨ nI 3 < x) : Cf Y mX8_gate 2 [.ref o0, .int (nI c), .int (nI i), .int x] w (some (.int (-1))) [(qm, (o0, cO 8 (mo A (nI 0) su (nI sz) bl (nI ci) (nI ma) pa en wr))), (q_gates, (A 7, cI Y 6 g1)), (q_sign, (A 10, cI Y 240 s1)), (q_left, (A 11, cI Y 240 l1)), (q_right, (A 12, cI Y 240 r1)), (q_tableOf, (A 13, cI Y 240 n1))] := by
  refine Ct.intro (T := tX8_gate) (by decide) oX8_gate (Nat.le_of_ble_eq_true rfl) (fun G C B => ?_)
  refine x_lay [(qm, (o0, cO 8 (mo A th su (nI sz) bl (nI ci) (nI ma) pa en wr))), (q_gates, (A 7, cI Y 6 g1)), (q_sign, (A 10, cI Y 240 s1)), (q_left, (A 11, cI Y 240 l1)), (q_right, (A 12, cI Y 240 r1)), (q_tableOf, (A 13, cI Y 240 n1))] (lay_cons e0 (lay_cons e1 (lay_cons e2 (lay_cons e3 (lay_cons e4 (lay_cons e5 lay_nil)))))) ?_
  refine x_run C 0 2 (pc' := 2) (lv' := [(0, .ref o0), (1, .int (nI c)), (2, .int (nI i)), (3, .int x)]) (st' := [.int 0, .ref o0]) rfl ?_
  refine x_put C 2 rfl pX8_117 N 0 rfl rfl rfl (Nat.le_of_ble_eq_true rfl) (os' := [(qm, (o0, cO 8 (mo A (nI 0) su (nI sz) bl (nI ci) (nI ma) pa en wr))), (q_gates, (A 7, cI Y 6 g1)), (q_sign, (A 10, cI Y 240 s1)), (q_left, (A 11, cI Y 240 l1)), (q_right, (A 12, cI Y 240 r1)), (q_tableOf, (A 13, cI Y 240 n1))]) rfl ?_
  refine x_run C 3 2 (pc' := 7) (lv' := [(0, .ref o0), (1, .int (nI c)), (2, .int (nI i)), (3, .int x)]) (st' := [.int (nI c), .ref o0]) rfl ?_
  refine x_cv C 5 (As := [.int (nI c)]) (rest := []) rfl vX8_196 N 0 rfl rfl (c_X8_isCircuit Y _ o0 A (nI 0) su sz bl ci ma pa en wr c qm (ovl_at 0 N rfl) (N.ov [0] (by decide) rfl) (by first | assumption | omega) (by first | assumption | omega)) rfl rfl (Nat.le_of_ble_eq_true rfl) ⟨Nat.le_of_ble_eq_true rfl, Nat.le_of_ble_eq_true rfl⟩ ⟨Nat.zero_le _, Nat.zero_le _⟩ [0] ⟨rfl, trivial⟩ (os' := [(qm, (o0, cO 8 (mo A (nI 0) su (nI sz) bl (nI ci) (nI ma) pa en wr))), (q_gates, (A 7, cI Y 6 g1)), (q_sign, (A 10, cI Y 240 s1)), (q_left, (A 11, cI Y 240 l1)), (q_right, (A 12, cI Y 240 r1)), (q_tableOf, (A 13, cI Y 240 n1))]) rfl (st' := [.int 1]) rfl ?_
  refine x_st (st' := [.int (nI 1)]) (by simp only [nlit, nI_add, pk_mul]) ?_
  refine x_ifN_eq C 6 (by omega) rfl (tgt := 38) rfl (fun hc1 => absurd hc1 (by omega)) (fun hc1 => ?_)
  refine x_run C 7 3 (pc' := 16) (lv' := [(0, .ref o0), (1, .int (nI c)), (2, .int (nI i)), (3, .int x)]) (st' := [.ref o0, .int 0, .int (nI i)]) rfl ?_
  refine x_get C 10 rfl fX8_31 N 0 rfl (v := .ref (A 7)) rfl ?_
  refine x_run C 11 1 (pc' := 20) (lv' := [(0, .ref o0), (1, .int (nI c)), (2, .int (nI i)), (3, .int x)]) (st' := [.int (nI c), .ref (A 7), .int 0, .int (nI i)]) rfl ?_
  refine x_ialdN C 12 rfl N 1 rfl (by omega) (by omega) ?_
  refine x_st (st' := [.int (nI g), .int 0, .int (nI i)]) (by rw [hga]) ?_
  refine x_run C 13 2 (pc' := 23) (lv' := [(0, .ref o0), (1, .int (nI c)), (2, .int (nI i)), (3, .int x)]) (st' := [.int ((nI g) - 1), .int 0, .int (nI i)]) rfl ?_
  refine x_st (st' := [.int (nI (g - 1)), .int 0, .int (nI i)]) (by simp only [nlit, nI_add, pk_mul, pk_sub (show 1 ≤ g by omega)]) ?_
  refine x_st (st' := [.int (nI (g - 1)), .int (nI 0), .int (nI i)]) (by simp only [nlit, nI_add, pk_mul]) ?_
  refine x_cs C 15 (As := [.int (nI i), .int (nI 0), .int (nI (g - 1))]) (rest := []) rfl vX8_135 N (c_X8_in Y _ i 0 (g - 1)    (by first | assumption | omega) (by first | assumption | omega) (by first | assumption | omega)) rfl rfl (Nat.le_of_ble_eq_true rfl) ⟨Nat.le_of_ble_eq_true rfl, Nat.le_of_ble_eq_true rfl⟩ ⟨Nat.zero_le _, Nat.zero_le _⟩ [] trivial (os' := [(qm, (o0, cO 8 (mo A (nI 0) su (nI sz) bl (nI ci) (nI ma) pa en wr))), (q_gates, (A 7, cI Y 6 g1)), (q_sign, (A 10, cI Y 240 s1)), (q_left, (A 11, cI Y 240 l1)), (q_right, (A 12, cI Y 240 r1)), (q_tableOf, (A 13, cI Y 240 n1))]) rfl (st' := [.int 1]) rfl ?_
  refine x_st (st' := [.int (nI 1)]) (by simp only [nlit, nI_add, pk_mul]) ?_
  refine x_ifN_eq C 16 (by omega) rfl (tgt := 38) rfl (fun hc2 => absurd hc2 (by omega)) (fun hc2 => ?_)
  refine x_run C 17 3 (pc' := 32) (lv' := [(0, .ref o0), (1, .int (nI c)), (2, .int (nI i)), (3, .int x)]) (st' := [.int 3, .int 0, .int x]) rfl ?_
  refine x_cs C 20 (As := [.int x, .int 0, .int 3]) (rest := []) rfl vX8_135 N (c_X8_inF Y _ x 0 3    hx) rfl rfl (Nat.le_of_ble_eq_true rfl) ⟨Nat.le_of_ble_eq_true rfl, Nat.le_of_ble_eq_true rfl⟩ ⟨Nat.zero_le _, Nat.zero_le _⟩ [] trivial (os' := [(qm, (o0, cO 8 (mo A (nI 0) su (nI sz) bl (nI ci) (nI ma) pa en wr))), (q_gates, (A 7, cI Y 6 g1)), (q_sign, (A 10, cI Y 240 s1)), (q_left, (A 11, cI Y 240 l1)), (q_right, (A 12, cI Y 240 r1)), (q_tableOf, (A 13, cI Y 240 n1))]) rfl (st' := [.int 0]) rfl ?_
  refine x_st (st' := [.int (nI 0)]) (by simp only [nlit, nI_add, pk_mul]) ?_
  refine x_ifN_ne C 21 (by omega) rfl (tgt := 40) rfl (fun hc3 => absurd hc3 (by omega)) (fun hc3 => ?_)
  refine x_run C 22 1 (pc' := 39) (lv' := [(0, .ref o0), (1, .int (nI c)), (2, .int (nI i)), (3, .int x)]) (st' := [.int (-1)]) rfl ?_
  exact x_iret C B rfl 23 rfl (Nat.zero_le _) (Nat.zero_le _) ⟨by first | rfl | (simp only [nlit, nI_add, pk_mul]; done), by first | rfl | (simp only [nlit, nI_add, pk_mul]; done)⟩
set_option maxHeartbeats 4000000 in
set_option maxRecDepth 100000 in
theorem c_X8_gateV0 (Y : xD) (w : va_W) (o0 : Nat) (A : Nat → Nat) (th : Int32) (su : Int32) (sz : Nat) (bl : Int32) (ci : Nat) (ma : Nat) (pa : Int32) (en : Int32) (wr : Int32) (g1 : Nat → Int32) (s1 : Nat → Int32) (l1 : Nat → Int32) (r1 : Nat → Int32) (n1 : Nat → Int32) (c : Nat) (g : Nat) (i : Nat) (qm q_gates q_sign q_left q_right q_tableOf : Nat) (e0 : w[qm]? = some (o0, cO 8 (mo A th su (nI sz) bl (nI ci) (nI ma) pa en wr))) (e1 : w[q_gates]? = some (A 7, cI Y 6 g1)) (e2 : w[q_sign]? = some (A 10, cI Y 240 s1)) (e3 : w[q_left]? = some (A 11, cI Y 240 l1)) (e4 : w[q_right]? = some (A 12, cI Y 240 r1)) (e5 : w[q_tableOf]? = some (A 13, cI Y 240 n1)) (N : xN w.length [qm, q_gates, q_sign, q_left, q_right, q_tableOf]) (hci : c < ci) (h6 : ci ≤ 6) (hga : g1 c = nI g) (hg40 : g ≤ 40) (hi : i < g) : Cf Y mX8_gate 2 [.ref o0, .int (nI c), .int (nI i), .int 0] w (some (.int (gtR 0 (s1 (40 * c + i)) (l1 (40 * c + i)) (r1 (40 * c + i)) (n1 (40 * c + i))))) [(qm, (o0, cO 8 (mo A (nI 0) su (nI sz) bl (nI ci) (nI ma) pa en wr))), (q_gates, (A 7, cI Y 6 g1)), (q_sign, (A 10, cI Y 240 s1)), (q_left, (A 11, cI Y 240 l1)), (q_right, (A 12, cI Y 240 r1)), (q_tableOf, (A 13, cI Y 240 n1))] := by
  refine Ct.intro (T := tX8_gate) (by decide) oX8_gate (Nat.le_of_ble_eq_true rfl) (fun G C B => ?_)
  refine x_lay [(qm, (o0, cO 8 (mo A th su (nI sz) bl (nI ci) (nI ma) pa en wr))), (q_gates, (A 7, cI Y 6 g1)), (q_sign, (A 10, cI Y 240 s1)), (q_left, (A 11, cI Y 240 l1)), (q_right, (A 12, cI Y 240 r1)), (q_tableOf, (A 13, cI Y 240 n1))] (lay_cons e0 (lay_cons e1 (lay_cons e2 (lay_cons e3 (lay_cons e4 (lay_cons e5 lay_nil)))))) ?_
  refine x_run C 0 2 (pc' := 2) (lv' := [(0, .ref o0), (1, .int (nI c)), (2, .int (nI i)), (3, .int 0)]) (st' := [.int 0, .ref o0]) rfl ?_
  refine x_put C 2 rfl pX8_117 N 0 rfl rfl rfl (Nat.le_of_ble_eq_true rfl) (os' := [(qm, (o0, cO 8 (mo A (nI 0) su (nI sz) bl (nI ci) (nI ma) pa en wr))), (q_gates, (A 7, cI Y 6 g1)), (q_sign, (A 10, cI Y 240 s1)), (q_left, (A 11, cI Y 240 l1)), (q_right, (A 12, cI Y 240 r1)), (q_tableOf, (A 13, cI Y 240 n1))]) rfl ?_
  refine x_run C 3 2 (pc' := 7) (lv' := [(0, .ref o0), (1, .int (nI c)), (2, .int (nI i)), (3, .int 0)]) (st' := [.int (nI c), .ref o0]) rfl ?_
  refine x_cv C 5 (As := [.int (nI c)]) (rest := []) rfl vX8_196 N 0 rfl rfl (c_X8_isCircuit Y _ o0 A (nI 0) su sz bl ci ma pa en wr c qm (ovl_at 0 N rfl) (N.ov [0] (by decide) rfl) (by first | assumption | omega) (by first | assumption | omega)) rfl rfl (Nat.le_of_ble_eq_true rfl) ⟨Nat.le_of_ble_eq_true rfl, Nat.le_of_ble_eq_true rfl⟩ ⟨Nat.zero_le _, Nat.zero_le _⟩ [0] ⟨rfl, trivial⟩ (os' := [(qm, (o0, cO 8 (mo A (nI 0) su (nI sz) bl (nI ci) (nI ma) pa en wr))), (q_gates, (A 7, cI Y 6 g1)), (q_sign, (A 10, cI Y 240 s1)), (q_left, (A 11, cI Y 240 l1)), (q_right, (A 12, cI Y 240 r1)), (q_tableOf, (A 13, cI Y 240 n1))]) rfl (st' := [.int 1]) rfl ?_
  refine x_st (st' := [.int (nI 1)]) (by simp only [nlit, nI_add, pk_mul]) ?_
  refine x_ifN_eq C 6 (by omega) rfl (tgt := 38) rfl (fun hc1 => absurd hc1 (by omega)) (fun hc1 => ?_)
  refine x_run C 7 3 (pc' := 16) (lv' := [(0, .ref o0), (1, .int (nI c)), (2, .int (nI i)), (3, .int 0)]) (st' := [.ref o0, .int 0, .int (nI i)]) rfl ?_
  refine x_get C 10 rfl fX8_31 N 0 rfl (v := .ref (A 7)) rfl ?_
  refine x_run C 11 1 (pc' := 20) (lv' := [(0, .ref o0), (1, .int (nI c)), (2, .int (nI i)), (3, .int 0)]) (st' := [.int (nI c), .ref (A 7), .int 0, .int (nI i)]) rfl ?_
  refine x_ialdN C 12 rfl N 1 rfl (by omega) (by omega) ?_
  refine x_st (st' := [.int (nI g), .int 0, .int (nI i)]) (by rw [hga]) ?_
  refine x_run C 13 2 (pc' := 23) (lv' := [(0, .ref o0), (1, .int (nI c)), (2, .int (nI i)), (3, .int 0)]) (st' := [.int ((nI g) - 1), .int 0, .int (nI i)]) rfl ?_
  refine x_st (st' := [.int (nI (g - 1)), .int 0, .int (nI i)]) (by simp only [nlit, nI_add, pk_mul, pk_sub (show 1 ≤ g by omega)]) ?_
  refine x_st (st' := [.int (nI (g - 1)), .int (nI 0), .int (nI i)]) (by simp only [nlit, nI_add, pk_mul]) ?_
  refine x_cs C 15 (As := [.int (nI i), .int (nI 0), .int (nI (g - 1))]) (rest := []) rfl vX8_135 N (c_X8_in Y _ i 0 (g - 1)    (by first | assumption | omega) (by first | assumption | omega) (by first | assumption | omega)) rfl rfl (Nat.le_of_ble_eq_true rfl) ⟨Nat.le_of_ble_eq_true rfl, Nat.le_of_ble_eq_true rfl⟩ ⟨Nat.zero_le _, Nat.zero_le _⟩ [] trivial (os' := [(qm, (o0, cO 8 (mo A (nI 0) su (nI sz) bl (nI ci) (nI ma) pa en wr))), (q_gates, (A 7, cI Y 6 g1)), (q_sign, (A 10, cI Y 240 s1)), (q_left, (A 11, cI Y 240 l1)), (q_right, (A 12, cI Y 240 r1)), (q_tableOf, (A 13, cI Y 240 n1))]) rfl (st' := [.int 1]) rfl ?_
  refine x_st (st' := [.int (nI 1)]) (by simp only [nlit, nI_add, pk_mul]) ?_
  refine x_ifN_eq C 16 (by omega) rfl (tgt := 38) rfl (fun hc2 => absurd hc2 (by omega)) (fun hc2 => ?_)
  refine x_run C 17 3 (pc' := 32) (lv' := [(0, .ref o0), (1, .int (nI c)), (2, .int (nI i)), (3, .int 0)]) (st' := [.int 3, .int 0, .int 0]) rfl ?_
  refine x_st (st' := [.int (nI 3), .int (nI 0), .int (nI 0)]) (by simp only [nlit, nI_add, pk_mul]) ?_
  refine x_cs C 20 (As := [.int (nI 0), .int (nI 0), .int (nI 3)]) (rest := []) rfl vX8_135 N (c_X8_in Y _ 0 0 3    (by first | assumption | omega) (by first | assumption | omega) (by first | assumption | omega)) rfl rfl (Nat.le_of_ble_eq_true rfl) ⟨Nat.le_of_ble_eq_true rfl, Nat.le_of_ble_eq_true rfl⟩ ⟨Nat.zero_le _, Nat.zero_le _⟩ [] trivial (os' := [(qm, (o0, cO 8 (mo A (nI 0) su (nI sz) bl (nI ci) (nI ma) pa en wr))), (q_gates, (A 7, cI Y 6 g1)), (q_sign, (A 10, cI Y 240 s1)), (q_left, (A 11, cI Y 240 l1)), (q_right, (A 12, cI Y 240 r1)), (q_tableOf, (A 13, cI Y 240 n1))]) rfl (st' := [.int 1]) rfl ?_
  refine x_st (st' := [.int (nI 1)]) (by simp only [nlit, nI_add, pk_mul]) ?_
  refine x_ifN_ne C 21 (by omega) rfl (tgt := 40) rfl (fun hc3 => ?_) (fun hc3 => absurd hc3 (by omega))
  refine x_run C 24 7 (pc' := 49) (lv' := [(4, .int ((40 * (nI c)) + (nI i))), (0, .ref o0), (1, .int (nI c)), (2, .int (nI i)), (3, .int 0)]) (st' := [.int 0]) rfl ?_
  refine x_st (st' := [.int (nI 0)]) (by simp only [nlit, nI_add, pk_mul]) ?_
  refine x_ifN_ne C 31 (by omega) rfl (tgt := 62) rfl (fun hc4 => absurd hc4 (by omega)) (fun hc4 => ?_)
  refine x_run C 32 1 (pc' := 53) (lv' := [(4, .int ((40 * (nI c)) + (nI i))), (0, .ref o0), (1, .int (nI c)), (2, .int (nI i)), (3, .int 0)]) (st' := [.ref o0]) rfl ?_
  refine x_get C 33 rfl fX8_40 N 0 rfl (v := .ref (A 10)) rfl ?_
  refine x_run C 34 1 (pc' := 58) (lv' := [(4, .int ((40 * (nI c)) + (nI i))), (0, .ref o0), (1, .int (nI c)), (2, .int (nI i)), (3, .int 0)]) (st' := [.int ((40 * (nI c)) + (nI i)), .ref (A 10)]) rfl ?_
  refine x_st (st' := [.int (nI ((40 * c) + i)), .ref (A 10)]) (by simp only [nlit, nI_add, pk_mul]) ?_
  refine x_ialdN C 35 rfl N 2 rfl (by omega) (by omega) ?_
  refine x_run C 36 1 (pc' := 99) (lv' := [(4, .int ((40 * (nI c)) + (nI i))), (0, .ref o0), (1, .int (nI c)), (2, .int (nI i)), (3, .int 0)]) (st' := [.int (s1 ((40 * c) + i))]) rfl ?_
  exact x_iret C B rfl 57 rfl (Nat.zero_le _) (Nat.zero_le _) ⟨by rfl, rfl⟩
set_option maxHeartbeats 4000000 in
set_option maxRecDepth 100000 in
theorem c_X8_gateV1 (Y : xD) (w : va_W) (o0 : Nat) (A : Nat → Nat) (th : Int32) (su : Int32) (sz : Nat) (bl : Int32) (ci : Nat) (ma : Nat) (pa : Int32) (en : Int32) (wr : Int32) (g1 : Nat → Int32) (s1 : Nat → Int32) (l1 : Nat → Int32) (r1 : Nat → Int32) (n1 : Nat → Int32) (c : Nat) (g : Nat) (i : Nat) (qm q_gates q_sign q_left q_right q_tableOf : Nat) (e0 : w[qm]? = some (o0, cO 8 (mo A th su (nI sz) bl (nI ci) (nI ma) pa en wr))) (e1 : w[q_gates]? = some (A 7, cI Y 6 g1)) (e2 : w[q_sign]? = some (A 10, cI Y 240 s1)) (e3 : w[q_left]? = some (A 11, cI Y 240 l1)) (e4 : w[q_right]? = some (A 12, cI Y 240 r1)) (e5 : w[q_tableOf]? = some (A 13, cI Y 240 n1)) (N : xN w.length [qm, q_gates, q_sign, q_left, q_right, q_tableOf]) (hci : c < ci) (h6 : ci ≤ 6) (hga : g1 c = nI g) (hg40 : g ≤ 40) (hi : i < g) : Cf Y mX8_gate 2 [.ref o0, .int (nI c), .int (nI i), .int 1] w (some (.int (gtR 1 (s1 (40 * c + i)) (l1 (40 * c + i)) (r1 (40 * c + i)) (n1 (40 * c + i))))) [(qm, (o0, cO 8 (mo A (nI 0) su (nI sz) bl (nI ci) (nI ma) pa en wr))), (q_gates, (A 7, cI Y 6 g1)), (q_sign, (A 10, cI Y 240 s1)), (q_left, (A 11, cI Y 240 l1)), (q_right, (A 12, cI Y 240 r1)), (q_tableOf, (A 13, cI Y 240 n1))] := by
  refine Ct.intro (T := tX8_gate) (by decide) oX8_gate (Nat.le_of_ble_eq_true rfl) (fun G C B => ?_)
  refine x_lay [(qm, (o0, cO 8 (mo A th su (nI sz) bl (nI ci) (nI ma) pa en wr))), (q_gates, (A 7, cI Y 6 g1)), (q_sign, (A 10, cI Y 240 s1)), (q_left, (A 11, cI Y 240 l1)), (q_right, (A 12, cI Y 240 r1)), (q_tableOf, (A 13, cI Y 240 n1))] (lay_cons e0 (lay_cons e1 (lay_cons e2 (lay_cons e3 (lay_cons e4 (lay_cons e5 lay_nil)))))) ?_
  refine x_run C 0 2 (pc' := 2) (lv' := [(0, .ref o0), (1, .int (nI c)), (2, .int (nI i)), (3, .int 1)]) (st' := [.int 0, .ref o0]) rfl ?_
  refine x_put C 2 rfl pX8_117 N 0 rfl rfl rfl (Nat.le_of_ble_eq_true rfl) (os' := [(qm, (o0, cO 8 (mo A (nI 0) su (nI sz) bl (nI ci) (nI ma) pa en wr))), (q_gates, (A 7, cI Y 6 g1)), (q_sign, (A 10, cI Y 240 s1)), (q_left, (A 11, cI Y 240 l1)), (q_right, (A 12, cI Y 240 r1)), (q_tableOf, (A 13, cI Y 240 n1))]) rfl ?_
  refine x_run C 3 2 (pc' := 7) (lv' := [(0, .ref o0), (1, .int (nI c)), (2, .int (nI i)), (3, .int 1)]) (st' := [.int (nI c), .ref o0]) rfl ?_
  refine x_cv C 5 (As := [.int (nI c)]) (rest := []) rfl vX8_196 N 0 rfl rfl (c_X8_isCircuit Y _ o0 A (nI 0) su sz bl ci ma pa en wr c qm (ovl_at 0 N rfl) (N.ov [0] (by decide) rfl) (by first | assumption | omega) (by first | assumption | omega)) rfl rfl (Nat.le_of_ble_eq_true rfl) ⟨Nat.le_of_ble_eq_true rfl, Nat.le_of_ble_eq_true rfl⟩ ⟨Nat.zero_le _, Nat.zero_le _⟩ [0] ⟨rfl, trivial⟩ (os' := [(qm, (o0, cO 8 (mo A (nI 0) su (nI sz) bl (nI ci) (nI ma) pa en wr))), (q_gates, (A 7, cI Y 6 g1)), (q_sign, (A 10, cI Y 240 s1)), (q_left, (A 11, cI Y 240 l1)), (q_right, (A 12, cI Y 240 r1)), (q_tableOf, (A 13, cI Y 240 n1))]) rfl (st' := [.int 1]) rfl ?_
  refine x_st (st' := [.int (nI 1)]) (by simp only [nlit, nI_add, pk_mul]) ?_
  refine x_ifN_eq C 6 (by omega) rfl (tgt := 38) rfl (fun hc1 => absurd hc1 (by omega)) (fun hc1 => ?_)
  refine x_run C 7 3 (pc' := 16) (lv' := [(0, .ref o0), (1, .int (nI c)), (2, .int (nI i)), (3, .int 1)]) (st' := [.ref o0, .int 0, .int (nI i)]) rfl ?_
  refine x_get C 10 rfl fX8_31 N 0 rfl (v := .ref (A 7)) rfl ?_
  refine x_run C 11 1 (pc' := 20) (lv' := [(0, .ref o0), (1, .int (nI c)), (2, .int (nI i)), (3, .int 1)]) (st' := [.int (nI c), .ref (A 7), .int 0, .int (nI i)]) rfl ?_
  refine x_ialdN C 12 rfl N 1 rfl (by omega) (by omega) ?_
  refine x_st (st' := [.int (nI g), .int 0, .int (nI i)]) (by rw [hga]) ?_
  refine x_run C 13 2 (pc' := 23) (lv' := [(0, .ref o0), (1, .int (nI c)), (2, .int (nI i)), (3, .int 1)]) (st' := [.int ((nI g) - 1), .int 0, .int (nI i)]) rfl ?_
  refine x_st (st' := [.int (nI (g - 1)), .int 0, .int (nI i)]) (by simp only [nlit, nI_add, pk_mul, pk_sub (show 1 ≤ g by omega)]) ?_
  refine x_st (st' := [.int (nI (g - 1)), .int (nI 0), .int (nI i)]) (by simp only [nlit, nI_add, pk_mul]) ?_
  refine x_cs C 15 (As := [.int (nI i), .int (nI 0), .int (nI (g - 1))]) (rest := []) rfl vX8_135 N (c_X8_in Y _ i 0 (g - 1)    (by first | assumption | omega) (by first | assumption | omega) (by first | assumption | omega)) rfl rfl (Nat.le_of_ble_eq_true rfl) ⟨Nat.le_of_ble_eq_true rfl, Nat.le_of_ble_eq_true rfl⟩ ⟨Nat.zero_le _, Nat.zero_le _⟩ [] trivial (os' := [(qm, (o0, cO 8 (mo A (nI 0) su (nI sz) bl (nI ci) (nI ma) pa en wr))), (q_gates, (A 7, cI Y 6 g1)), (q_sign, (A 10, cI Y 240 s1)), (q_left, (A 11, cI Y 240 l1)), (q_right, (A 12, cI Y 240 r1)), (q_tableOf, (A 13, cI Y 240 n1))]) rfl (st' := [.int 1]) rfl ?_
  refine x_st (st' := [.int (nI 1)]) (by simp only [nlit, nI_add, pk_mul]) ?_
  refine x_ifN_eq C 16 (by omega) rfl (tgt := 38) rfl (fun hc2 => absurd hc2 (by omega)) (fun hc2 => ?_)
  refine x_run C 17 3 (pc' := 32) (lv' := [(0, .ref o0), (1, .int (nI c)), (2, .int (nI i)), (3, .int 1)]) (st' := [.int 3, .int 0, .int 1]) rfl ?_
  refine x_st (st' := [.int (nI 3), .int (nI 0), .int (nI 1)]) (by simp only [nlit, nI_add, pk_mul]) ?_
  refine x_cs C 20 (As := [.int (nI 1), .int (nI 0), .int (nI 3)]) (rest := []) rfl vX8_135 N (c_X8_in Y _ 1 0 3    (by first | assumption | omega) (by first | assumption | omega) (by first | assumption | omega)) rfl rfl (Nat.le_of_ble_eq_true rfl) ⟨Nat.le_of_ble_eq_true rfl, Nat.le_of_ble_eq_true rfl⟩ ⟨Nat.zero_le _, Nat.zero_le _⟩ [] trivial (os' := [(qm, (o0, cO 8 (mo A (nI 0) su (nI sz) bl (nI ci) (nI ma) pa en wr))), (q_gates, (A 7, cI Y 6 g1)), (q_sign, (A 10, cI Y 240 s1)), (q_left, (A 11, cI Y 240 l1)), (q_right, (A 12, cI Y 240 r1)), (q_tableOf, (A 13, cI Y 240 n1))]) rfl (st' := [.int 1]) rfl ?_
  refine x_st (st' := [.int (nI 1)]) (by simp only [nlit, nI_add, pk_mul]) ?_
  refine x_ifN_ne C 21 (by omega) rfl (tgt := 40) rfl (fun hc3 => ?_) (fun hc3 => absurd hc3 (by omega))
  refine x_run C 24 7 (pc' := 49) (lv' := [(4, .int ((40 * (nI c)) + (nI i))), (0, .ref o0), (1, .int (nI c)), (2, .int (nI i)), (3, .int 1)]) (st' := [.int 1]) rfl ?_
  refine x_st (st' := [.int (nI 1)]) (by simp only [nlit, nI_add, pk_mul]) ?_
  refine x_ifN_ne C 31 (by omega) rfl (tgt := 62) rfl (fun hc4 => ?_) (fun hc4 => absurd hc4 (by omega))
  refine x_run C 37 2 (pc' := 64) (lv' := [(4, .int ((40 * (nI c)) + (nI i))), (0, .ref o0), (1, .int (nI c)), (2, .int (nI i)), (3, .int 1)]) (st' := [.int 1, .int 1]) rfl ?_
  refine x_st (st' := [.int (nI 1), .int 1]) (by simp only [nlit, nI_add, pk_mul]) ?_
  refine x_st (st' := [.int (nI 1), .int (nI 1)]) (by simp only [nlit, nI_add, pk_mul]) ?_
  refine x_icmpN_ne C 39 (by omega) (by omega) rfl (tgt := 77) rfl (fun hc5 => absurd hc5 (by omega)) (fun hc5 => ?_)
  refine x_run C 40 1 (pc' := 68) (lv' := [(4, .int ((40 * (nI c)) + (nI i))), (0, .ref o0), (1, .int (nI c)), (2, .int (nI i)), (3, .int 1)]) (st' := [.ref o0]) rfl ?_
  refine x_get C 41 rfl fX8_43 N 0 rfl (v := .ref (A 11)) rfl ?_
  refine x_run C 42 1 (pc' := 73) (lv' := [(4, .int ((40 * (nI c)) + (nI i))), (0, .ref o0), (1, .int (nI c)), (2, .int (nI i)), (3, .int 1)]) (st' := [.int ((40 * (nI c)) + (nI i)), .ref (A 11)]) rfl ?_
  refine x_st (st' := [.int (nI ((40 * c) + i)), .ref (A 11)]) (by simp only [nlit, nI_add, pk_mul]) ?_
  refine x_ialdN C 43 rfl N 3 rfl (by omega) (by omega) ?_
  refine x_run C 44 1 (pc' := 99) (lv' := [(4, .int ((40 * (nI c)) + (nI i))), (0, .ref o0), (1, .int (nI c)), (2, .int (nI i)), (3, .int 1)]) (st' := [.int (l1 ((40 * c) + i))]) rfl ?_
  exact x_iret C B rfl 57 rfl (Nat.zero_le _) (Nat.zero_le _) ⟨by rfl, rfl⟩
set_option maxHeartbeats 4000000 in
set_option maxRecDepth 100000 in
theorem c_X8_gateV2 (Y : xD) (w : va_W) (o0 : Nat) (A : Nat → Nat) (th : Int32) (su : Int32) (sz : Nat) (bl : Int32) (ci : Nat) (ma : Nat) (pa : Int32) (en : Int32) (wr : Int32) (g1 : Nat → Int32) (s1 : Nat → Int32) (l1 : Nat → Int32) (r1 : Nat → Int32) (n1 : Nat → Int32) (c : Nat) (g : Nat) (i : Nat) (qm q_gates q_sign q_left q_right q_tableOf : Nat) (e0 : w[qm]? = some (o0, cO 8 (mo A th su (nI sz) bl (nI ci) (nI ma) pa en wr))) (e1 : w[q_gates]? = some (A 7, cI Y 6 g1)) (e2 : w[q_sign]? = some (A 10, cI Y 240 s1)) (e3 : w[q_left]? = some (A 11, cI Y 240 l1)) (e4 : w[q_right]? = some (A 12, cI Y 240 r1)) (e5 : w[q_tableOf]? = some (A 13, cI Y 240 n1)) (N : xN w.length [qm, q_gates, q_sign, q_left, q_right, q_tableOf]) (hci : c < ci) (h6 : ci ≤ 6) (hga : g1 c = nI g) (hg40 : g ≤ 40) (hi : i < g) : Cf Y mX8_gate 2 [.ref o0, .int (nI c), .int (nI i), .int 2] w (some (.int (gtR 2 (s1 (40 * c + i)) (l1 (40 * c + i)) (r1 (40 * c + i)) (n1 (40 * c + i))))) [(qm, (o0, cO 8 (mo A (nI 0) su (nI sz) bl (nI ci) (nI ma) pa en wr))), (q_gates, (A 7, cI Y 6 g1)), (q_sign, (A 10, cI Y 240 s1)), (q_left, (A 11, cI Y 240 l1)), (q_right, (A 12, cI Y 240 r1)), (q_tableOf, (A 13, cI Y 240 n1))] := by
  refine Ct.intro (T := tX8_gate) (by decide) oX8_gate (Nat.le_of_ble_eq_true rfl) (fun G C B => ?_)
  refine x_lay [(qm, (o0, cO 8 (mo A th su (nI sz) bl (nI ci) (nI ma) pa en wr))), (q_gates, (A 7, cI Y 6 g1)), (q_sign, (A 10, cI Y 240 s1)), (q_left, (A 11, cI Y 240 l1)), (q_right, (A 12, cI Y 240 r1)), (q_tableOf, (A 13, cI Y 240 n1))] (lay_cons e0 (lay_cons e1 (lay_cons e2 (lay_cons e3 (lay_cons e4 (lay_cons e5 lay_nil)))))) ?_
  refine x_run C 0 2 (pc' := 2) (lv' := [(0, .ref o0), (1, .int (nI c)), (2, .int (nI i)), (3, .int 2)]) (st' := [.int 0, .ref o0]) rfl ?_
  refine x_put C 2 rfl pX8_117 N 0 rfl rfl rfl (Nat.le_of_ble_eq_true rfl) (os' := [(qm, (o0, cO 8 (mo A (nI 0) su (nI sz) bl (nI ci) (nI ma) pa en wr))), (q_gates, (A 7, cI Y 6 g1)), (q_sign, (A 10, cI Y 240 s1)), (q_left, (A 11, cI Y 240 l1)), (q_right, (A 12, cI Y 240 r1)), (q_tableOf, (A 13, cI Y 240 n1))]) rfl ?_
  refine x_run C 3 2 (pc' := 7) (lv' := [(0, .ref o0), (1, .int (nI c)), (2, .int (nI i)), (3, .int 2)]) (st' := [.int (nI c), .ref o0]) rfl ?_
  refine x_cv C 5 (As := [.int (nI c)]) (rest := []) rfl vX8_196 N 0 rfl rfl (c_X8_isCircuit Y _ o0 A (nI 0) su sz bl ci ma pa en wr c qm (ovl_at 0 N rfl) (N.ov [0] (by decide) rfl) (by first | assumption | omega) (by first | assumption | omega)) rfl rfl (Nat.le_of_ble_eq_true rfl) ⟨Nat.le_of_ble_eq_true rfl, Nat.le_of_ble_eq_true rfl⟩ ⟨Nat.zero_le _, Nat.zero_le _⟩ [0] ⟨rfl, trivial⟩ (os' := [(qm, (o0, cO 8 (mo A (nI 0) su (nI sz) bl (nI ci) (nI ma) pa en wr))), (q_gates, (A 7, cI Y 6 g1)), (q_sign, (A 10, cI Y 240 s1)), (q_left, (A 11, cI Y 240 l1)), (q_right, (A 12, cI Y 240 r1)), (q_tableOf, (A 13, cI Y 240 n1))]) rfl (st' := [.int 1]) rfl ?_
  refine x_st (st' := [.int (nI 1)]) (by simp only [nlit, nI_add, pk_mul]) ?_
  refine x_ifN_eq C 6 (by omega) rfl (tgt := 38) rfl (fun hc1 => absurd hc1 (by omega)) (fun hc1 => ?_)
  refine x_run C 7 3 (pc' := 16) (lv' := [(0, .ref o0), (1, .int (nI c)), (2, .int (nI i)), (3, .int 2)]) (st' := [.ref o0, .int 0, .int (nI i)]) rfl ?_
  refine x_get C 10 rfl fX8_31 N 0 rfl (v := .ref (A 7)) rfl ?_
  refine x_run C 11 1 (pc' := 20) (lv' := [(0, .ref o0), (1, .int (nI c)), (2, .int (nI i)), (3, .int 2)]) (st' := [.int (nI c), .ref (A 7), .int 0, .int (nI i)]) rfl ?_
  refine x_ialdN C 12 rfl N 1 rfl (by omega) (by omega) ?_
  refine x_st (st' := [.int (nI g), .int 0, .int (nI i)]) (by rw [hga]) ?_
  refine x_run C 13 2 (pc' := 23) (lv' := [(0, .ref o0), (1, .int (nI c)), (2, .int (nI i)), (3, .int 2)]) (st' := [.int ((nI g) - 1), .int 0, .int (nI i)]) rfl ?_
  refine x_st (st' := [.int (nI (g - 1)), .int 0, .int (nI i)]) (by simp only [nlit, nI_add, pk_mul, pk_sub (show 1 ≤ g by omega)]) ?_
  refine x_st (st' := [.int (nI (g - 1)), .int (nI 0), .int (nI i)]) (by simp only [nlit, nI_add, pk_mul]) ?_
  refine x_cs C 15 (As := [.int (nI i), .int (nI 0), .int (nI (g - 1))]) (rest := []) rfl vX8_135 N (c_X8_in Y _ i 0 (g - 1)    (by first | assumption | omega) (by first | assumption | omega) (by first | assumption | omega)) rfl rfl (Nat.le_of_ble_eq_true rfl) ⟨Nat.le_of_ble_eq_true rfl, Nat.le_of_ble_eq_true rfl⟩ ⟨Nat.zero_le _, Nat.zero_le _⟩ [] trivial (os' := [(qm, (o0, cO 8 (mo A (nI 0) su (nI sz) bl (nI ci) (nI ma) pa en wr))), (q_gates, (A 7, cI Y 6 g1)), (q_sign, (A 10, cI Y 240 s1)), (q_left, (A 11, cI Y 240 l1)), (q_right, (A 12, cI Y 240 r1)), (q_tableOf, (A 13, cI Y 240 n1))]) rfl (st' := [.int 1]) rfl ?_
  refine x_st (st' := [.int (nI 1)]) (by simp only [nlit, nI_add, pk_mul]) ?_
  refine x_ifN_eq C 16 (by omega) rfl (tgt := 38) rfl (fun hc2 => absurd hc2 (by omega)) (fun hc2 => ?_)
  refine x_run C 17 3 (pc' := 32) (lv' := [(0, .ref o0), (1, .int (nI c)), (2, .int (nI i)), (3, .int 2)]) (st' := [.int 3, .int 0, .int 2]) rfl ?_
  refine x_st (st' := [.int (nI 3), .int (nI 0), .int (nI 2)]) (by simp only [nlit, nI_add, pk_mul]) ?_
  refine x_cs C 20 (As := [.int (nI 2), .int (nI 0), .int (nI 3)]) (rest := []) rfl vX8_135 N (c_X8_in Y _ 2 0 3    (by first | assumption | omega) (by first | assumption | omega) (by first | assumption | omega)) rfl rfl (Nat.le_of_ble_eq_true rfl) ⟨Nat.le_of_ble_eq_true rfl, Nat.le_of_ble_eq_true rfl⟩ ⟨Nat.zero_le _, Nat.zero_le _⟩ [] trivial (os' := [(qm, (o0, cO 8 (mo A (nI 0) su (nI sz) bl (nI ci) (nI ma) pa en wr))), (q_gates, (A 7, cI Y 6 g1)), (q_sign, (A 10, cI Y 240 s1)), (q_left, (A 11, cI Y 240 l1)), (q_right, (A 12, cI Y 240 r1)), (q_tableOf, (A 13, cI Y 240 n1))]) rfl (st' := [.int 1]) rfl ?_
  refine x_st (st' := [.int (nI 1)]) (by simp only [nlit, nI_add, pk_mul]) ?_
  refine x_ifN_ne C 21 (by omega) rfl (tgt := 40) rfl (fun hc3 => ?_) (fun hc3 => absurd hc3 (by omega))
  refine x_run C 24 7 (pc' := 49) (lv' := [(4, .int ((40 * (nI c)) + (nI i))), (0, .ref o0), (1, .int (nI c)), (2, .int (nI i)), (3, .int 2)]) (st' := [.int 2]) rfl ?_
  refine x_st (st' := [.int (nI 2)]) (by simp only [nlit, nI_add, pk_mul]) ?_
  refine x_ifN_ne C 31 (by omega) rfl (tgt := 62) rfl (fun hc4 => ?_) (fun hc4 => absurd hc4 (by omega))
  refine x_run C 37 2 (pc' := 64) (lv' := [(4, .int ((40 * (nI c)) + (nI i))), (0, .ref o0), (1, .int (nI c)), (2, .int (nI i)), (3, .int 2)]) (st' := [.int 1, .int 2]) rfl ?_
  refine x_st (st' := [.int (nI 1), .int 2]) (by simp only [nlit, nI_add, pk_mul]) ?_
  refine x_st (st' := [.int (nI 1), .int (nI 2)]) (by simp only [nlit, nI_add, pk_mul]) ?_
  refine x_icmpN_ne C 39 (by omega) (by omega) rfl (tgt := 77) rfl (fun hc5 => ?_) (fun hc5 => absurd hc5 (by omega))
  refine x_run C 45 2 (pc' := 79) (lv' := [(4, .int ((40 * (nI c)) + (nI i))), (0, .ref o0), (1, .int (nI c)), (2, .int (nI i)), (3, .int 2)]) (st' := [.int 2, .int 2]) rfl ?_
  refine x_st (st' := [.int (nI 2), .int 2]) (by simp only [nlit, nI_add, pk_mul]) ?_
  refine x_st (st' := [.int (nI 2), .int (nI 2)]) (by simp only [nlit, nI_add, pk_mul]) ?_
  refine x_icmpN_ne C 47 (by omega) (by omega) rfl (tgt := 92) rfl (fun hc6 => absurd hc6 (by omega)) (fun hc6 => ?_)
  refine x_run C 48 1 (pc' := 83) (lv' := [(4, .int ((40 * (nI c)) + (nI i))), (0, .ref o0), (1, .int (nI c)), (2, .int (nI i)), (3, .int 2)]) (st' := [.ref o0]) rfl ?_
  refine x_get C 49 rfl fX8_46 N 0 rfl (v := .ref (A 12)) rfl ?_
  refine x_run C 50 1 (pc' := 88) (lv' := [(4, .int ((40 * (nI c)) + (nI i))), (0, .ref o0), (1, .int (nI c)), (2, .int (nI i)), (3, .int 2)]) (st' := [.int ((40 * (nI c)) + (nI i)), .ref (A 12)]) rfl ?_
  refine x_st (st' := [.int (nI ((40 * c) + i)), .ref (A 12)]) (by simp only [nlit, nI_add, pk_mul]) ?_
  refine x_ialdN C 51 rfl N 4 rfl (by omega) (by omega) ?_
  refine x_run C 52 1 (pc' := 99) (lv' := [(4, .int ((40 * (nI c)) + (nI i))), (0, .ref o0), (1, .int (nI c)), (2, .int (nI i)), (3, .int 2)]) (st' := [.int (r1 ((40 * c) + i))]) rfl ?_
  exact x_iret C B rfl 57 rfl (Nat.zero_le _) (Nat.zero_le _) ⟨by rfl, rfl⟩
set_option maxHeartbeats 4000000 in
set_option maxRecDepth 100000 in
theorem c_X8_gateV3 (Y : xD) (w : va_W) (o0 : Nat) (A : Nat → Nat) (th : Int32) (su : Int32) (sz : Nat) (bl : Int32) (ci : Nat) (ma : Nat) (pa : Int32) (en : Int32) (wr : Int32) (g1 : Nat → Int32) (s1 : Nat → Int32) (l1 : Nat → Int32) (r1 : Nat → Int32) (n1 : Nat → Int32) (c : Nat) (g : Nat) (i : Nat) (qm q_gates q_sign q_left q_right q_tableOf : Nat) (e0 : w[qm]? = some (o0, cO 8 (mo A th su (nI sz) bl (nI ci) (nI ma) pa en wr))) (e1 : w[q_gates]? = some (A 7, cI Y 6 g1)) (e2 : w[q_sign]? = some (A 10, cI Y 240 s1)) (e3 : w[q_left]? = some (A 11, cI Y 240 l1)) (e4 : w[q_right]? = some (A 12, cI Y 240 r1)) (e5 : w[q_tableOf]? = some (A 13, cI Y 240 n1)) (N : xN w.length [qm, q_gates, q_sign, q_left, q_right, q_tableOf]) (hci : c < ci) (h6 : ci ≤ 6) (hga : g1 c = nI g) (hg40 : g ≤ 40) (hi : i < g) : Cf Y mX8_gate 2 [.ref o0, .int (nI c), .int (nI i), .int 3] w (some (.int (gtR 3 (s1 (40 * c + i)) (l1 (40 * c + i)) (r1 (40 * c + i)) (n1 (40 * c + i))))) [(qm, (o0, cO 8 (mo A (nI 0) su (nI sz) bl (nI ci) (nI ma) pa en wr))), (q_gates, (A 7, cI Y 6 g1)), (q_sign, (A 10, cI Y 240 s1)), (q_left, (A 11, cI Y 240 l1)), (q_right, (A 12, cI Y 240 r1)), (q_tableOf, (A 13, cI Y 240 n1))] := by
  refine Ct.intro (T := tX8_gate) (by decide) oX8_gate (Nat.le_of_ble_eq_true rfl) (fun G C B => ?_)
  refine x_lay [(qm, (o0, cO 8 (mo A th su (nI sz) bl (nI ci) (nI ma) pa en wr))), (q_gates, (A 7, cI Y 6 g1)), (q_sign, (A 10, cI Y 240 s1)), (q_left, (A 11, cI Y 240 l1)), (q_right, (A 12, cI Y 240 r1)), (q_tableOf, (A 13, cI Y 240 n1))] (lay_cons e0 (lay_cons e1 (lay_cons e2 (lay_cons e3 (lay_cons e4 (lay_cons e5 lay_nil)))))) ?_
  refine x_run C 0 2 (pc' := 2) (lv' := [(0, .ref o0), (1, .int (nI c)), (2, .int (nI i)), (3, .int 3)]) (st' := [.int 0, .ref o0]) rfl ?_
  refine x_put C 2 rfl pX8_117 N 0 rfl rfl rfl (Nat.le_of_ble_eq_true rfl) (os' := [(qm, (o0, cO 8 (mo A (nI 0) su (nI sz) bl (nI ci) (nI ma) pa en wr))), (q_gates, (A 7, cI Y 6 g1)), (q_sign, (A 10, cI Y 240 s1)), (q_left, (A 11, cI Y 240 l1)), (q_right, (A 12, cI Y 240 r1)), (q_tableOf, (A 13, cI Y 240 n1))]) rfl ?_
  refine x_run C 3 2 (pc' := 7) (lv' := [(0, .ref o0), (1, .int (nI c)), (2, .int (nI i)), (3, .int 3)]) (st' := [.int (nI c), .ref o0]) rfl ?_
  refine x_cv C 5 (As := [.int (nI c)]) (rest := []) rfl vX8_196 N 0 rfl rfl (c_X8_isCircuit Y _ o0 A (nI 0) su sz bl ci ma pa en wr c qm (ovl_at 0 N rfl) (N.ov [0] (by decide) rfl) (by first | assumption | omega) (by first | assumption | omega)) rfl rfl (Nat.le_of_ble_eq_true rfl) ⟨Nat.le_of_ble_eq_true rfl, Nat.le_of_ble_eq_true rfl⟩ ⟨Nat.zero_le _, Nat.zero_le _⟩ [0] ⟨rfl, trivial⟩ (os' := [(qm, (o0, cO 8 (mo A (nI 0) su (nI sz) bl (nI ci) (nI ma) pa en wr))), (q_gates, (A 7, cI Y 6 g1)), (q_sign, (A 10, cI Y 240 s1)), (q_left, (A 11, cI Y 240 l1)), (q_right, (A 12, cI Y 240 r1)), (q_tableOf, (A 13, cI Y 240 n1))]) rfl (st' := [.int 1]) rfl ?_
  refine x_st (st' := [.int (nI 1)]) (by simp only [nlit, nI_add, pk_mul]) ?_
  refine x_ifN_eq C 6 (by omega) rfl (tgt := 38) rfl (fun hc1 => absurd hc1 (by omega)) (fun hc1 => ?_)
  refine x_run C 7 3 (pc' := 16) (lv' := [(0, .ref o0), (1, .int (nI c)), (2, .int (nI i)), (3, .int 3)]) (st' := [.ref o0, .int 0, .int (nI i)]) rfl ?_
  refine x_get C 10 rfl fX8_31 N 0 rfl (v := .ref (A 7)) rfl ?_
  refine x_run C 11 1 (pc' := 20) (lv' := [(0, .ref o0), (1, .int (nI c)), (2, .int (nI i)), (3, .int 3)]) (st' := [.int (nI c), .ref (A 7), .int 0, .int (nI i)]) rfl ?_
  refine x_ialdN C 12 rfl N 1 rfl (by omega) (by omega) ?_
  refine x_st (st' := [.int (nI g), .int 0, .int (nI i)]) (by rw [hga]) ?_
  refine x_run C 13 2 (pc' := 23) (lv' := [(0, .ref o0), (1, .int (nI c)), (2, .int (nI i)), (3, .int 3)]) (st' := [.int ((nI g) - 1), .int 0, .int (nI i)]) rfl ?_
  refine x_st (st' := [.int (nI (g - 1)), .int 0, .int (nI i)]) (by simp only [nlit, nI_add, pk_mul, pk_sub (show 1 ≤ g by omega)]) ?_
  refine x_st (st' := [.int (nI (g - 1)), .int (nI 0), .int (nI i)]) (by simp only [nlit, nI_add, pk_mul]) ?_
  refine x_cs C 15 (As := [.int (nI i), .int (nI 0), .int (nI (g - 1))]) (rest := []) rfl vX8_135 N (c_X8_in Y _ i 0 (g - 1)    (by first | assumption | omega) (by first | assumption | omega) (by first | assumption | omega)) rfl rfl (Nat.le_of_ble_eq_true rfl) ⟨Nat.le_of_ble_eq_true rfl, Nat.le_of_ble_eq_true rfl⟩ ⟨Nat.zero_le _, Nat.zero_le _⟩ [] trivial (os' := [(qm, (o0, cO 8 (mo A (nI 0) su (nI sz) bl (nI ci) (nI ma) pa en wr))), (q_gates, (A 7, cI Y 6 g1)), (q_sign, (A 10, cI Y 240 s1)), (q_left, (A 11, cI Y 240 l1)), (q_right, (A 12, cI Y 240 r1)), (q_tableOf, (A 13, cI Y 240 n1))]) rfl (st' := [.int 1]) rfl ?_
  refine x_st (st' := [.int (nI 1)]) (by simp only [nlit, nI_add, pk_mul]) ?_
  refine x_ifN_eq C 16 (by omega) rfl (tgt := 38) rfl (fun hc2 => absurd hc2 (by omega)) (fun hc2 => ?_)
  refine x_run C 17 3 (pc' := 32) (lv' := [(0, .ref o0), (1, .int (nI c)), (2, .int (nI i)), (3, .int 3)]) (st' := [.int 3, .int 0, .int 3]) rfl ?_
  refine x_st (st' := [.int (nI 3), .int (nI 0), .int (nI 3)]) (by simp only [nlit, nI_add, pk_mul]) ?_
  refine x_cs C 20 (As := [.int (nI 3), .int (nI 0), .int (nI 3)]) (rest := []) rfl vX8_135 N (c_X8_in Y _ 3 0 3    (by first | assumption | omega) (by first | assumption | omega) (by first | assumption | omega)) rfl rfl (Nat.le_of_ble_eq_true rfl) ⟨Nat.le_of_ble_eq_true rfl, Nat.le_of_ble_eq_true rfl⟩ ⟨Nat.zero_le _, Nat.zero_le _⟩ [] trivial (os' := [(qm, (o0, cO 8 (mo A (nI 0) su (nI sz) bl (nI ci) (nI ma) pa en wr))), (q_gates, (A 7, cI Y 6 g1)), (q_sign, (A 10, cI Y 240 s1)), (q_left, (A 11, cI Y 240 l1)), (q_right, (A 12, cI Y 240 r1)), (q_tableOf, (A 13, cI Y 240 n1))]) rfl (st' := [.int 1]) rfl ?_
  refine x_st (st' := [.int (nI 1)]) (by simp only [nlit, nI_add, pk_mul]) ?_
  refine x_ifN_ne C 21 (by omega) rfl (tgt := 40) rfl (fun hc3 => ?_) (fun hc3 => absurd hc3 (by omega))
  refine x_run C 24 7 (pc' := 49) (lv' := [(4, .int ((40 * (nI c)) + (nI i))), (0, .ref o0), (1, .int (nI c)), (2, .int (nI i)), (3, .int 3)]) (st' := [.int 3]) rfl ?_
  refine x_st (st' := [.int (nI 3)]) (by simp only [nlit, nI_add, pk_mul]) ?_
  refine x_ifN_ne C 31 (by omega) rfl (tgt := 62) rfl (fun hc4 => ?_) (fun hc4 => absurd hc4 (by omega))
  refine x_run C 37 2 (pc' := 64) (lv' := [(4, .int ((40 * (nI c)) + (nI i))), (0, .ref o0), (1, .int (nI c)), (2, .int (nI i)), (3, .int 3)]) (st' := [.int 1, .int 3]) rfl ?_
  refine x_st (st' := [.int (nI 1), .int 3]) (by simp only [nlit, nI_add, pk_mul]) ?_
  refine x_st (st' := [.int (nI 1), .int (nI 3)]) (by simp only [nlit, nI_add, pk_mul]) ?_
  refine x_icmpN_ne C 39 (by omega) (by omega) rfl (tgt := 77) rfl (fun hc5 => ?_) (fun hc5 => absurd hc5 (by omega))
  refine x_run C 45 2 (pc' := 79) (lv' := [(4, .int ((40 * (nI c)) + (nI i))), (0, .ref o0), (1, .int (nI c)), (2, .int (nI i)), (3, .int 3)]) (st' := [.int 2, .int 3]) rfl ?_
  refine x_st (st' := [.int (nI 2), .int 3]) (by simp only [nlit, nI_add, pk_mul]) ?_
  refine x_st (st' := [.int (nI 2), .int (nI 3)]) (by simp only [nlit, nI_add, pk_mul]) ?_
  refine x_icmpN_ne C 47 (by omega) (by omega) rfl (tgt := 92) rfl (fun hc6 => ?_) (fun hc6 => absurd hc6 (by omega))
  refine x_run C 53 1 (pc' := 93) (lv' := [(4, .int ((40 * (nI c)) + (nI i))), (0, .ref o0), (1, .int (nI c)), (2, .int (nI i)), (3, .int 3)]) (st' := [.ref o0]) rfl ?_
  refine x_get C 54 rfl fX8_49 N 0 rfl (v := .ref (A 13)) rfl ?_
  refine x_run C 55 1 (pc' := 98) (lv' := [(4, .int ((40 * (nI c)) + (nI i))), (0, .ref o0), (1, .int (nI c)), (2, .int (nI i)), (3, .int 3)]) (st' := [.int ((40 * (nI c)) + (nI i)), .ref (A 13)]) rfl ?_
  refine x_st (st' := [.int (nI ((40 * c) + i)), .ref (A 13)]) (by simp only [nlit, nI_add, pk_mul]) ?_
  refine x_ialdN C 56 rfl N 5 rfl (by omega) (by omega) ?_
  exact x_iret C B rfl 57 rfl (Nat.zero_le _) (Nat.zero_le _) ⟨by rfl, rfl⟩
set_option maxHeartbeats 4000000 in
theorem c_X8_gate (Y : xD) (w : va_W) (o0 : Nat) (A : Nat → Nat) (th : Int32) (su : Int32) (sz : Nat) (bl : Int32) (ci : Nat) (ma : Nat) (pa : Int32) (en : Int32) (wr : Int32) (g1 : Nat → Int32) (s1 : Nat → Int32) (l1 : Nat → Int32) (r1 : Nat → Int32) (n1 : Nat → Int32) (c : Nat) (g : Nat) (i : Nat) (x : Int32) (qm q_gates q_sign q_left q_right q_tableOf : Nat) (e0 : w[qm]? = some (o0, cO 8 (mo A th su (nI sz) bl (nI ci) (nI ma) pa en wr))) (e1 : w[q_gates]? = some (A 7, cI Y 6 g1)) (e2 : w[q_sign]? = some (A 10, cI Y 240 s1)) (e3 : w[q_left]? = some (A 11, cI Y 240 l1)) (e4 : w[q_right]? = some (A 12, cI Y 240 r1)) (e5 : w[q_tableOf]? = some (A 13, cI Y 240 n1)) (N : xN w.length [qm, q_gates, q_sign, q_left, q_right, q_tableOf]) (hci : c < ci) (h6 : ci ≤ 6) (hga : g1 c = nI g) (hg40 : g ≤ 40) (hi : i < g) : Cf Y mX8_gate 2 [.ref o0, .int (nI c), .int (nI i), .int x] w (some (.int (gtR x (s1 (40 * c + i)) (l1 (40 * c + i)) (r1 (40 * c + i)) (n1 (40 * c + i))))) [(qm, (o0, cO 8 (mo A (nI 0) su (nI sz) bl (nI ci) (nI ma) pa en wr))), (q_gates, (A 7, cI Y 6 g1)), (q_sign, (A 10, cI Y 240 s1)), (q_left, (A 11, cI Y 240 l1)), (q_right, (A 12, cI Y 240 r1)), (q_tableOf, (A 13, cI Y 240 n1))] := by
  by_cases hx : x < 0 ∨ nI 3 < x
  · have h := c_X8_gateV Y w o0 A th su sz bl ci ma pa en wr g1 s1 l1 r1 n1 c g i x qm q_gates q_sign q_left q_right q_tableOf e0 e1 e2 e3 e4 e5 N hci h6 hga hg40 hi hx
    have e : (gtR x (s1 (40 * c + i)) (l1 (40 * c + i)) (r1 (40 * c + i)) (n1 (40 * c + i))) = -1 := by
      unfold gtR
      rw [if_neg (show ¬ x = 0 from ov_0 (m := 3) (k := 0) (by decide) (by decide) hx), if_neg (show ¬ x = 1 from ov_0 (m := 3) (k := 1) (by decide) (by decide) hx), if_neg (show ¬ x = 2 from ov_0 (m := 3) (k := 2) (by decide) (by decide) hx), if_neg (show ¬ x = 3 from ov_0 (m := 3) (k := 3) (by decide) (by decide) hx)]
    rw [e]
    exact h
  · obtain ⟨k, hk, rfl⟩ := in_k (by decide) hx
    match k, hk with
    | 0, _ => exact c_X8_gateV0 Y w o0 A th su sz bl ci ma pa en wr g1 s1 l1 r1 n1 c g i qm q_gates q_sign q_left q_right q_tableOf e0 e1 e2 e3 e4 e5 N hci h6 hga hg40 hi
    | 1, _ => exact c_X8_gateV1 Y w o0 A th su sz bl ci ma pa en wr g1 s1 l1 r1 n1 c g i qm q_gates q_sign q_left q_right q_tableOf e0 e1 e2 e3 e4 e5 N hci h6 hga hg40 hi
    | 2, _ => exact c_X8_gateV2 Y w o0 A th su sz bl ci ma pa en wr g1 s1 l1 r1 n1 c g i qm q_gates q_sign q_left q_right q_tableOf e0 e1 e2 e3 e4 e5 N hci h6 hga hg40 hi
    | 3, _ => exact c_X8_gateV3 Y w o0 A th su sz bl ci ma pa en wr g1 s1 l1 r1 n1 c g i qm q_gates q_sign q_left q_right q_tableOf e0 e1 e2 e3 e4 e5 N hci h6 hga hg40 hi
    | k + 4, h => exact absurd h (by omega)
set_option maxHeartbeats 4000000 in
set_option maxRecDepth 100000 in
theorem c_X8_outputF (Y : xD) (w : va_W) (o0 : Nat) (A : Nat → Nat) (th : Int32) (su : Int32) (sz : Nat) (bl : Int32) (ci : Nat) (ma : Nat) (pa : Int32) (en : Int32) (wr : Int32) (x : Int32) (v : Int32) (qm : Nat) (e0 : w[qm]? = some (o0, cO 8 (mo A th su (nI sz) bl (nI ci) (nI ma) pa en wr))) (N : xN w.length [qm]) (hx : x < 0 ∨ nI ci ≤ x) (h6 : ci ≤ 6) : Cf Y mX8_output 2 [.ref o0, .int x, .int v] w (some (.int (-1))) [(qm, (o0, cO 8 (mo A (nI 0) su (nI sz) bl (nI ci) (nI ma) pa en wr)))] := by
  refine Ct.intro (T := tX8_output) (by decide) oX8_output (Nat.le_of_ble_eq_true rfl) (fun G C B => ?_)
  refine x_lay [(qm, (o0, cO 8 (mo A th su (nI sz) bl (nI ci) (nI ma) pa en wr)))] (lay_cons e0 lay_nil) ?_
  refine x_run C 0 2 (pc' := 2) (lv' := [(0, .ref o0), (1, .int x), (2, .int v)]) (st' := [.int 0, .ref o0]) rfl ?_
  refine x_put C 2 rfl pX8_117 N 0 rfl rfl rfl (Nat.le_of_ble_eq_true rfl) (os' := [(qm, (o0, cO 8 (mo A (nI 0) su (nI sz) bl (nI ci) (nI ma) pa en wr)))]) rfl ?_
  refine x_run C 3 2 (pc' := 7) (lv' := [(0, .ref o0), (1, .int x), (2, .int v)]) (st' := [.int x, .ref o0]) rfl ?_
  refine x_cv C 5 (As := [.int x]) (rest := []) rfl vX8_196 N 0 rfl rfl (c_X8_isCircuitF Y _ o0 A (nI 0) su sz bl ci ma pa en wr x qm (ovl_at 0 N rfl) (N.ov [0] (by decide) rfl) hx (by first | assumption | omega)) rfl rfl (Nat.le_of_ble_eq_true rfl) ⟨Nat.le_of_ble_eq_true rfl, Nat.le_of_ble_eq_true rfl⟩ ⟨Nat.zero_le _, Nat.zero_le _⟩ [0] ⟨rfl, trivial⟩ (os' := [(qm, (o0, cO 8 (mo A (nI 0) su (nI sz) bl (nI ci) (nI ma) pa en wr)))]) rfl (st' := [.int 0]) rfl ?_
  refine x_st (st' := [.int (nI 0)]) (by simp only [nlit, nI_add, pk_mul]) ?_
  refine x_ifN_eq C 6 (by omega) rfl (tgt := 43) rfl (fun hc1 => ?_) (fun hc1 => absurd hc1 (by omega))
  refine x_run C 26 1 (pc' := 44) (lv' := [(0, .ref o0), (1, .int x), (2, .int v)]) (st' := [.int (-1)]) rfl ?_
  exact x_iret C B rfl 27 rfl (Nat.zero_le _) (Nat.zero_le _) ⟨by first | rfl | (simp only [nlit, nI_add, pk_mul]; done), by first | rfl | (simp only [nlit, nI_add, pk_mul]; done)⟩
set_option maxHeartbeats 4000000 in
set_option maxRecDepth 100000 in
theorem c_X8_outputB (Y : xD) (w : va_W) (o0 : Nat) (A : Nat → Nat) (th : Int32) (su : Int32) (sz : Nat) (bl : Int32) (ci : Nat) (ma : Nat) (pa : Int32) (en : Int32) (wr : Int32) (o1 : Nat → Int32) (c : Nat) (o : Nat) (v : Int32) (qm q_outputs : Nat) (e0 : w[qm]? = some (o0, cO 8 (mo A th su (nI sz) bl (nI ci) (nI ma) pa en wr))) (e1 : w[q_outputs]? = some (A 8, cI Y 6 o1)) (N : xN w.length [qm, q_outputs]) (hci : c < ci) (h6 : ci ≤ 6) (hoc : o1 c = nI o) (ho8 : o ≤ 8) (hv : v < 0 ∨ nI o ≤ v) : Cf Y mX8_output 2 [.ref o0, .int (nI c), .int v] w (some (.int (-1))) [(qm, (o0, cO 8 (mo A (nI 0) su (nI sz) bl (nI ci) (nI ma) pa en wr))), (q_outputs, (A 8, cI Y 6 o1))] := by
  refine Ct.intro (T := tX8_output) (by decide) oX8_output (Nat.le_of_ble_eq_true rfl) (fun G C B => ?_)
  refine x_lay [(qm, (o0, cO 8 (mo A th su (nI sz) bl (nI ci) (nI ma) pa en wr))), (q_outputs, (A 8, cI Y 6 o1))] (lay_cons e0 (lay_cons e1 lay_nil)) ?_
  refine x_run C 0 2 (pc' := 2) (lv' := [(0, .ref o0), (1, .int (nI c)), (2, .int v)]) (st' := [.int 0, .ref o0]) rfl ?_
  refine x_put C 2 rfl pX8_117 N 0 rfl rfl rfl (Nat.le_of_ble_eq_true rfl) (os' := [(qm, (o0, cO 8 (mo A (nI 0) su (nI sz) bl (nI ci) (nI ma) pa en wr))), (q_outputs, (A 8, cI Y 6 o1))]) rfl ?_
  refine x_run C 3 2 (pc' := 7) (lv' := [(0, .ref o0), (1, .int (nI c)), (2, .int v)]) (st' := [.int (nI c), .ref o0]) rfl ?_
  refine x_cv C 5 (As := [.int (nI c)]) (rest := []) rfl vX8_196 N 0 rfl rfl (c_X8_isCircuit Y _ o0 A (nI 0) su sz bl ci ma pa en wr c qm (ovl_at 0 N rfl) (N.ov [0] (by decide) rfl) (by first | assumption | omega) (by first | assumption | omega)) rfl rfl (Nat.le_of_ble_eq_true rfl) ⟨Nat.le_of_ble_eq_true rfl, Nat.le_of_ble_eq_true rfl⟩ ⟨Nat.zero_le _, Nat.zero_le _⟩ [0] ⟨rfl, trivial⟩ (os' := [(qm, (o0, cO 8 (mo A (nI 0) su (nI sz) bl (nI ci) (nI ma) pa en wr))), (q_outputs, (A 8, cI Y 6 o1))]) rfl (st' := [.int 1]) rfl ?_
  refine x_st (st' := [.int (nI 1)]) (by simp only [nlit, nI_add, pk_mul]) ?_
  refine x_ifN_eq C 6 (by omega) rfl (tgt := 43) rfl (fun hc1 => absurd hc1 (by omega)) (fun hc1 => ?_)
  refine x_run C 7 3 (pc' := 16) (lv' := [(0, .ref o0), (1, .int (nI c)), (2, .int v)]) (st' := [.ref o0, .int 0, .int v]) rfl ?_
  refine x_get C 10 rfl fX8_34 N 0 rfl (v := .ref (A 8)) rfl ?_
  refine x_run C 11 1 (pc' := 20) (lv' := [(0, .ref o0), (1, .int (nI c)), (2, .int v)]) (st' := [.int (nI c), .ref (A 8), .int 0, .int v]) rfl ?_
  refine x_ialdN C 12 rfl N 1 rfl (by omega) (by omega) ?_
  refine x_st (st' := [.int (nI o), .int 0, .int v]) (by rw [hoc]) ?_
  refine x_run C 13 2 (pc' := 23) (lv' := [(0, .ref o0), (1, .int (nI c)), (2, .int v)]) (st' := [.int ((nI o) - 1), .int 0, .int v]) rfl ?_
  refine x_cs C 15 (As := [.int v, .int 0, .int ((nI o) - 1)]) (rest := []) rfl vX8_135 N (c_X8_inF Y _ v 0 ((nI o) - 1)    (hv.imp id (le_pred (by omega)))) rfl rfl (Nat.le_of_ble_eq_true rfl) ⟨Nat.le_of_ble_eq_true rfl, Nat.le_of_ble_eq_true rfl⟩ ⟨Nat.zero_le _, Nat.zero_le _⟩ [] trivial (os' := [(qm, (o0, cO 8 (mo A (nI 0) su (nI sz) bl (nI ci) (nI ma) pa en wr))), (q_outputs, (A 8, cI Y 6 o1))]) rfl (st' := [.int 0]) rfl ?_
  refine x_st (st' := [.int (nI 0)]) (by simp only [nlit, nI_add, pk_mul]) ?_
  refine x_ifN_eq C 16 (by omega) rfl (tgt := 43) rfl (fun hc2 => ?_) (fun hc2 => absurd hc2 (by omega))
  refine x_run C 26 1 (pc' := 44) (lv' := [(0, .ref o0), (1, .int (nI c)), (2, .int v)]) (st' := [.int (-1)]) rfl ?_
  exact x_iret C B rfl 27 rfl (Nat.zero_le _) (Nat.zero_le _) ⟨by first | rfl | (simp only [nlit, nI_add, pk_mul]; done), by first | rfl | (simp only [nlit, nI_add, pk_mul]; done)⟩
set_option maxHeartbeats 4000000 in
set_option maxRecDepth 100000 in
theorem c_X8_output (Y : xD) (w : va_W) (o0 : Nat) (A : Nat → Nat) (th : Int32) (su : Int32) (sz : Nat) (bl : Int32) (ci : Nat) (ma : Nat) (pa : Int32) (en : Int32) (wr : Int32) (o1 : Nat → Int32) (p1 : Nat → Int32) (c : Nat) (o : Nat) (i : Nat) (qm q_outputs q_outputOf : Nat) (e0 : w[qm]? = some (o0, cO 8 (mo A th su (nI sz) bl (nI ci) (nI ma) pa en wr))) (e1 : w[q_outputs]? = some (A 8, cI Y 6 o1)) (e2 : w[q_outputOf]? = some (A 14, cI Y 48 p1)) (N : xN w.length [qm, q_outputs, q_outputOf]) (hci : c < ci) (h6 : ci ≤ 6) (hoc : o1 c = nI o) (ho8 : o ≤ 8) (hi : i < o) : Cf Y mX8_output 2 [.ref o0, .int (nI c), .int (nI i)] w (some (.int (p1 (8 * c + i)))) [(qm, (o0, cO 8 (mo A (nI 0) su (nI sz) bl (nI ci) (nI ma) pa en wr))), (q_outputs, (A 8, cI Y 6 o1)), (q_outputOf, (A 14, cI Y 48 p1))] := by
  refine Ct.intro (T := tX8_output) (by decide) oX8_output (Nat.le_of_ble_eq_true rfl) (fun G C B => ?_)
  refine x_lay [(qm, (o0, cO 8 (mo A th su (nI sz) bl (nI ci) (nI ma) pa en wr))), (q_outputs, (A 8, cI Y 6 o1)), (q_outputOf, (A 14, cI Y 48 p1))] (lay_cons e0 (lay_cons e1 (lay_cons e2 lay_nil))) ?_
  refine x_run C 0 2 (pc' := 2) (lv' := [(0, .ref o0), (1, .int (nI c)), (2, .int (nI i))]) (st' := [.int 0, .ref o0]) rfl ?_
  refine x_put C 2 rfl pX8_117 N 0 rfl rfl rfl (Nat.le_of_ble_eq_true rfl) (os' := [(qm, (o0, cO 8 (mo A (nI 0) su (nI sz) bl (nI ci) (nI ma) pa en wr))), (q_outputs, (A 8, cI Y 6 o1)), (q_outputOf, (A 14, cI Y 48 p1))]) rfl ?_
  refine x_run C 3 2 (pc' := 7) (lv' := [(0, .ref o0), (1, .int (nI c)), (2, .int (nI i))]) (st' := [.int (nI c), .ref o0]) rfl ?_
  refine x_cv C 5 (As := [.int (nI c)]) (rest := []) rfl vX8_196 N 0 rfl rfl (c_X8_isCircuit Y _ o0 A (nI 0) su sz bl ci ma pa en wr c qm (ovl_at 0 N rfl) (N.ov [0] (by decide) rfl) (by first | assumption | omega) (by first | assumption | omega)) rfl rfl (Nat.le_of_ble_eq_true rfl) ⟨Nat.le_of_ble_eq_true rfl, Nat.le_of_ble_eq_true rfl⟩ ⟨Nat.zero_le _, Nat.zero_le _⟩ [0] ⟨rfl, trivial⟩ (os' := [(qm, (o0, cO 8 (mo A (nI 0) su (nI sz) bl (nI ci) (nI ma) pa en wr))), (q_outputs, (A 8, cI Y 6 o1)), (q_outputOf, (A 14, cI Y 48 p1))]) rfl (st' := [.int 1]) rfl ?_
  refine x_st (st' := [.int (nI 1)]) (by simp only [nlit, nI_add, pk_mul]) ?_
  refine x_ifN_eq C 6 (by omega) rfl (tgt := 43) rfl (fun hc1 => absurd hc1 (by omega)) (fun hc1 => ?_)
  refine x_run C 7 3 (pc' := 16) (lv' := [(0, .ref o0), (1, .int (nI c)), (2, .int (nI i))]) (st' := [.ref o0, .int 0, .int (nI i)]) rfl ?_
  refine x_get C 10 rfl fX8_34 N 0 rfl (v := .ref (A 8)) rfl ?_
  refine x_run C 11 1 (pc' := 20) (lv' := [(0, .ref o0), (1, .int (nI c)), (2, .int (nI i))]) (st' := [.int (nI c), .ref (A 8), .int 0, .int (nI i)]) rfl ?_
  refine x_ialdN C 12 rfl N 1 rfl (by omega) (by omega) ?_
  refine x_st (st' := [.int (nI o), .int 0, .int (nI i)]) (by rw [hoc]) ?_
  refine x_run C 13 2 (pc' := 23) (lv' := [(0, .ref o0), (1, .int (nI c)), (2, .int (nI i))]) (st' := [.int ((nI o) - 1), .int 0, .int (nI i)]) rfl ?_
  refine x_st (st' := [.int (nI (o - 1)), .int 0, .int (nI i)]) (by simp only [nlit, nI_add, pk_mul, pk_sub (show 1 ≤ o by omega)]) ?_
  refine x_st (st' := [.int (nI (o - 1)), .int (nI 0), .int (nI i)]) (by simp only [nlit, nI_add, pk_mul]) ?_
  refine x_cs C 15 (As := [.int (nI i), .int (nI 0), .int (nI (o - 1))]) (rest := []) rfl vX8_135 N (c_X8_in Y _ i 0 (o - 1)    (by first | assumption | omega) (by first | assumption | omega) (by first | assumption | omega)) rfl rfl (Nat.le_of_ble_eq_true rfl) ⟨Nat.le_of_ble_eq_true rfl, Nat.le_of_ble_eq_true rfl⟩ ⟨Nat.zero_le _, Nat.zero_le _⟩ [] trivial (os' := [(qm, (o0, cO 8 (mo A (nI 0) su (nI sz) bl (nI ci) (nI ma) pa en wr))), (q_outputs, (A 8, cI Y 6 o1)), (q_outputOf, (A 14, cI Y 48 p1))]) rfl (st' := [.int 1]) rfl ?_
  refine x_st (st' := [.int (nI 1)]) (by simp only [nlit, nI_add, pk_mul]) ?_
  refine x_ifN_eq C 16 (by omega) rfl (tgt := 43) rfl (fun hc2 => absurd hc2 (by omega)) (fun hc2 => ?_)
  refine x_run C 17 1 (pc' := 30) (lv' := [(0, .ref o0), (1, .int (nI c)), (2, .int (nI i))]) (st' := [.ref o0]) rfl ?_
  refine x_get C 18 rfl fX8_52 N 0 rfl (v := .ref (A 14)) rfl ?_
  refine x_run C 19 5 (pc' := 39) (lv' := [(0, .ref o0), (1, .int (nI c)), (2, .int (nI i))]) (st' := [.int ((8 * (nI c)) + (nI i)), .ref (A 14)]) rfl ?_
  refine x_st (st' := [.int (nI ((8 * c) + i)), .ref (A 14)]) (by simp only [nlit, nI_add, pk_mul]) ?_
  refine x_ialdN C 24 rfl N 2 rfl (by omega) (by omega) ?_
  refine x_run C 25 1 (pc' := 44) (lv' := [(0, .ref o0), (1, .int (nI c)), (2, .int (nI i))]) (st' := [.int (p1 ((8 * c) + i))]) rfl ?_
  exact x_iret C B rfl 27 rfl (Nat.zero_le _) (Nat.zero_le _) ⟨by first | rfl | (simp only [nlit, nI_add, pk_mul]; done), by first | rfl | (simp only [nlit, nI_add, pk_mul]; done)⟩
set_option maxHeartbeats 4000000 in
set_option maxRecDepth 100000 in
theorem c_X8_truth (Y : xD) (w : va_W) (s : Int32) (x : Nat) (y : Nat)    (hx : x ≤ 1) (hy : y ≤ 1) : Cf Y mX8_truth 0 [.int s, .int (nI x), .int (nI y)] w (some (.int (trO s (nI x) (nI y)))) [] := by
  refine Ct.intro (T := tX8_truth) (by decide) oX8_truth (Nat.le_of_ble_eq_true rfl) (fun G C B => ?_)
  have N : xN w.length (keys []) := xN_nil _
  refine x_lay [] lay_nil ?_
  refine x_run C 0 2 (pc' := 3) (lv' := [(0, .int s), (1, .int (nI x)), (2, .int (nI y))]) (st' := [.int 38, .int s]) rfl ?_
  have J3 : X G Y 0 0 65 [(0, .int s), (1, .int (nI x)), (2, .int (nI y))] [.int (if s = 38 then (8 : Int32) else (if s = 124 then (14 : Int32) else (if s = 47 then (4 : Int32) else (if s = 37 then (7 : Int32) else (if s = 35 then (1 : Int32) else (if s = 94 then (6 : Int32) else 3))))))] (ovl w []) := by
    refine x_run C 31 10 (pc' := 75) (lv' := [(3, .int (if s = 38 then (8 : Int32) else (if s = 124 then (14 : Int32) else (if s = 47 then (4 : Int32) else (if s = 37 then (7 : Int32) else (if s = 35 then (1 : Int32) else (if s = 94 then (6 : Int32) else 3))))))), (0, .int s), (1, .int (nI x)), (2, .int (nI y))]) (st' := [.int ((jshr (if s = 38 then (8 : Int32) else (if s = 124 then (14 : Int32) else (if s = 47 then (4 : Int32) else (if s = 37 then (7 : Int32) else (if s = 35 then (1 : Int32) else (if s = 94 then (6 : Int32) else 3)))))) ((2 * (nI x)) + (nI y))) &&& 1)]) rfl ?_
    exact x_iret C B rfl 41 rfl (Nat.zero_le _) (Nat.zero_le _) ⟨by rw [← trM s hx hy], rfl⟩
  refine x_icmp_ne C 2 rfl (tgt := 11) rfl (fun hc1 => ?_) (fun hc1 => ?_)
  · refine x_run C 5 2 (pc' := 14) (lv' := [(0, .int s), (1, .int (nI x)), (2, .int (nI y))]) (st' := [.int 124, .int s]) rfl ?_
    refine x_icmp_ne C 7 rfl (tgt := 22) rfl (fun hc2 => ?_) (fun hc2 => ?_)
    · refine x_run C 10 2 (pc' := 25) (lv' := [(0, .int s), (1, .int (nI x)), (2, .int (nI y))]) (st' := [.int 47, .int s]) rfl ?_
      refine x_icmp_ne C 12 rfl (tgt := 32) rfl (fun hc3 => ?_) (fun hc3 => ?_)
      · refine x_run C 15 2 (pc' := 35) (lv' := [(0, .int s), (1, .int (nI x)), (2, .int (nI y))]) (st' := [.int 37, .int s]) rfl ?_
        refine x_icmp_ne C 17 rfl (tgt := 43) rfl (fun hc4 => ?_) (fun hc4 => ?_)
        · refine x_run C 20 2 (pc' := 46) (lv' := [(0, .int s), (1, .int (nI x)), (2, .int (nI y))]) (st' := [.int 35, .int s]) rfl ?_
          refine x_icmp_ne C 22 rfl (tgt := 53) rfl (fun hc5 => ?_) (fun hc5 => ?_)
          · refine x_run C 25 2 (pc' := 56) (lv' := [(0, .int s), (1, .int (nI x)), (2, .int (nI y))]) (st' := [.int 94, .int s]) rfl ?_
            refine x_icmp_ne C 27 rfl (tgt := 64) rfl (fun hc6 => ?_) (fun hc6 => ?_)
            · refine x_run C 30 1 (pc' := 65) (lv' := [(0, .int s), (1, .int (nI x)), (2, .int (nI y))]) (st' := [.int 3]) rfl ?_
              refine x_st (st' := [.int (if s = 38 then (8 : Int32) else (if s = 124 then (14 : Int32) else (if s = 47 then (4 : Int32) else (if s = 37 then (7 : Int32) else (if s = 35 then (1 : Int32) else (if s = 94 then (6 : Int32) else 3))))))]) (by rw [if_neg hc1, if_neg hc2, if_neg hc3, if_neg hc4, if_neg hc5, if_neg hc6]) ?_
              exact J3
            · refine x_run C 28 2 (pc' := 65) (lv' := [(0, .int s), (1, .int (nI x)), (2, .int (nI y))]) (st' := [.int 6]) rfl ?_
              refine x_st (st' := [.int (if s = 38 then (8 : Int32) else (if s = 124 then (14 : Int32) else (if s = 47 then (4 : Int32) else (if s = 37 then (7 : Int32) else (if s = 35 then (1 : Int32) else (if s = 94 then (6 : Int32) else 3))))))]) (by rw [if_neg hc1, if_neg hc2, if_neg hc3, if_neg hc4, if_neg hc5, if_pos hc6]) ?_
              exact J3
          · refine x_run C 23 2 (pc' := 65) (lv' := [(0, .int s), (1, .int (nI x)), (2, .int (nI y))]) (st' := [.int 1]) rfl ?_
            refine x_st (st' := [.int (if s = 38 then (8 : Int32) else (if s = 124 then (14 : Int32) else (if s = 47 then (4 : Int32) else (if s = 37 then (7 : Int32) else (if s = 35 then (1 : Int32) else (if s = 94 then (6 : Int32) else 3))))))]) (by rw [if_neg hc1, if_neg hc2, if_neg hc3, if_neg hc4, if_pos hc5]) ?_
            exact J3
        · refine x_run C 18 2 (pc' := 65) (lv' := [(0, .int s), (1, .int (nI x)), (2, .int (nI y))]) (st' := [.int 7]) rfl ?_
          refine x_st (st' := [.int (if s = 38 then (8 : Int32) else (if s = 124 then (14 : Int32) else (if s = 47 then (4 : Int32) else (if s = 37 then (7 : Int32) else (if s = 35 then (1 : Int32) else (if s = 94 then (6 : Int32) else 3))))))]) (by rw [if_neg hc1, if_neg hc2, if_neg hc3, if_pos hc4]) ?_
          exact J3
      · refine x_run C 13 2 (pc' := 65) (lv' := [(0, .int s), (1, .int (nI x)), (2, .int (nI y))]) (st' := [.int 4]) rfl ?_
        refine x_st (st' := [.int (if s = 38 then (8 : Int32) else (if s = 124 then (14 : Int32) else (if s = 47 then (4 : Int32) else (if s = 37 then (7 : Int32) else (if s = 35 then (1 : Int32) else (if s = 94 then (6 : Int32) else 3))))))]) (by rw [if_neg hc1, if_neg hc2, if_pos hc3]) ?_
        exact J3
    · refine x_run C 8 2 (pc' := 65) (lv' := [(0, .int s), (1, .int (nI x)), (2, .int (nI y))]) (st' := [.int 14]) rfl ?_
      refine x_st (st' := [.int (if s = 38 then (8 : Int32) else (if s = 124 then (14 : Int32) else (if s = 47 then (4 : Int32) else (if s = 37 then (7 : Int32) else (if s = 35 then (1 : Int32) else (if s = 94 then (6 : Int32) else 3))))))]) (by rw [if_neg hc1, if_pos hc2]) ?_
      exact J3
  · refine x_run C 3 2 (pc' := 65) (lv' := [(0, .int s), (1, .int (nI x)), (2, .int (nI y))]) (st' := [.int 8]) rfl ?_
    refine x_st (st' := [.int (if s = 38 then (8 : Int32) else (if s = 124 then (14 : Int32) else (if s = 47 then (4 : Int32) else (if s = 37 then (7 : Int32) else (if s = 35 then (1 : Int32) else (if s = 94 then (6 : Int32) else 3))))))]) (by rw [if_pos hc1]) ?_
    exact J3
theorem rt_n {r1 sg : Nat → Int32} {rg : Nat → Nat} {c n g v : Nat} (hr : ∀ k, k < g → ¬ sg k = 33 → r1 (40 * c + k) = nI (rg k) ∧ rg k < n + k) (hr9 : ∀ k, k < g → sg k = 33 → r1 (40 * c + k) = -9) (h1 : n ≤ v) (h2 : v < n + g) (h : ¬ r1 (40 * c + v - n) = -9) : ¬ sg (v - n) = 33 ∧ r1 (40 * c + v - n) = nI (rg (v - n)) ∧ rg (v - n) < v := by
  rw [show 40 * c + v - n = 40 * c + (v - n) by omega] at h ⊢
  have h3 : ¬ sg (v - n) = 33 := fun z => h (hr9 _ (by omega) z)
  have := hr (v - n) (by omega) h3
  exact ⟨h3, this.1, by omega⟩
theorem rt_9 {r1 sg : Nat → Int32} {rg : Nat → Nat} {c n g v : Nat} (hg : g ≤ 40) (hn : n ≤ 16) (hr : ∀ k, k < g → ¬ sg k = 33 → r1 (40 * c + k) = nI (rg k) ∧ rg k < n + k) (h1 : n ≤ v) (h2 : v < n + g) (h : r1 (40 * c + v - n) = -9) : sg (v - n) = 33 := by
  rw [show 40 * c + v - n = 40 * c + (v - n) by omega] at h
  apply Classical.byContradiction
  intro z
  have := hr (v - n) (by omega) z
  rw [h] at this
  have k : (-9 : Int32).toInt = ((rg (v - n) : Nat) : Int) := by rw [this.1]; exact nI_toInt (by omega)
  rw [show (-9 : Int32).toInt = -9 by decide] at k
  omega
theorem pl_a {s1 sg : Nat → Int32} {tt lf rg : Nat → Nat} {c n g v : Nat} (hs : ∀ k, k < g → s1 (40 * c + k) = sg k) (h1 : n ≤ v) (h2 : v < n + g) (ht2 : ∀ k, k < g → trO (sg k) (nI (tt (lf k))) (if sg k = 33 then 0 else nI (tt (rg k))) = nI (tt (n + k))) (h : sg (v - n) = 33) : trO (s1 (40 * c + v - n)) (nI (tt (lf (v - n)))) (nI 0) = nI (tt v) := by
  have k := ht2 (v - n) (by omega)
  rw [if_pos h, show n + (v - n) = v by omega] at k
  rw [show 40 * c + v - n = 40 * c + (v - n) by omega, hs _ (by omega)]
  exact k
theorem pl_b {s1 sg : Nat → Int32} {tt lf rg : Nat → Nat} {c n g v : Nat} (hs : ∀ k, k < g → s1 (40 * c + k) = sg k) (h1 : n ≤ v) (h2 : v < n + g) (ht2 : ∀ k, k < g → trO (sg k) (nI (tt (lf k))) (if sg k = 33 then 0 else nI (tt (rg k))) = nI (tt (n + k))) (h : ¬ sg (v - n) = 33) : trO (s1 (40 * c + v - n)) (nI (tt (lf (v - n)))) (nI (tt (rg (v - n)))) = nI (tt v) := by
  have k := ht2 (v - n) (by omega)
  rw [if_neg h, show n + (v - n) = v by omega] at k
  rw [show 40 * c + v - n = 40 * c + (v - n) by omega, hs _ (by omega)]
  exact k
theorem lt_v {l1 : Nat → Int32} {lf : Nat → Nat} {c n g v : Nat} (hl : ∀ k, k < g → l1 (40 * c + k) = nI (lf k) ∧ lf k < n + k) (h1 : n ≤ v) (h2 : v < n + g) : l1 (40 * c + v - n) = nI (lf (v - n)) ∧ lf (v - n) < v := by
  rw [show 40 * c + v - n = 40 * c + (v - n) by omega]
  have := hl (v - n) (by omega)
  exact ⟨this.1, by omega⟩
set_option maxHeartbeats 4000000 in
set_option maxRecDepth 100000 in
theorem c_X8_plainOf (Y : xD) (w : va_W) (o0 : Nat) (A : Nat → Nat) (th : Int32) (su : Int32) (sz : Nat) (bl : Int32) (ci : Nat) (ma : Nat) (pa : Int32) (en : Int32) (wr : Int32) (i1 : Nat → Int32) (g1 : Nat → Int32) (o1 : Nat → Int32) (s1 : Nat → Int32) (l1 : Nat → Int32) (r1 : Nat → Int32) (p1 : Nat → Int32) (sg : Nat → Int32) (lf : Nat → Nat) (rg : Nat → Nat) (ou : Nat → Nat) (tv : Nat → Nat) (tt : Nat → Nat) (c : Nat) (n : Nat) (g : Nat) (o : Nat) (x : Int32) (qm q_inputs q_gates q_outputs q_sign q_left q_right q_outputOf q_truths : Nat) (e0 : w[qm]? = some (o0, cO 8 (mo A th su (nI sz) bl (nI ci) (nI ma) pa en wr))) (e1 : w[q_inputs]? = some (A 6, cI Y 6 i1)) (e2 : w[q_gates]? = some (A 7, cI Y 6 g1)) (e3 : w[q_outputs]? = some (A 8, cI Y 6 o1)) (e4 : w[q_sign]? = some (A 10, cI Y 240 s1)) (e5 : w[q_left]? = some (A 11, cI Y 240 l1)) (e6 : w[q_right]? = some (A 12, cI Y 240 r1)) (e7 : w[q_outputOf]? = some (A 14, cI Y 48 p1)) (e8 : w[q_truths]? = some (A 30, cI Y 56 (iF tv))) (N : xN w.length [qm, q_inputs, q_gates, q_outputs, q_sign, q_left, q_right, q_outputOf, q_truths]) (hc6 : c < 6) (hn16 : n ≤ 16) (hg40 : g ≤ 40) (ho8 : o ≤ 8) (hin : i1 c = nI n) (hga : g1 c = nI g) (hoc : o1 c = nI o) (hs : ∀ k, k < g → s1 (40 * c + k) = sg k) (hl : ∀ k, k < g → l1 (40 * c + k) = nI (lf k) ∧ lf k < n + k) (hr : ∀ k, k < g → ¬ sg k = 33 → r1 (40 * c + k) = nI (rg k) ∧ rg k < n + k) (hr9 : ∀ k, k < g → sg k = 33 → r1 (40 * c + k) = -9) (hpo : ∀ k, k < o → p1 (8 * c + k) = nI (ou k) ∧ ou k < n + g) (ht1 : ∀ j, j < n → jshr x (nI j) &&& 1 = nI (tt j)) (ht2 : ∀ k, k < g → trO (sg k) (nI (tt (lf k))) (if sg k = 33 then 0 else nI (tt (rg k))) = nI (tt (n + k))) (ht3 : ∀ j, tt j ≤ 1) : Ct Y mX8_plainOf 1 0 0 [.ref o0, .int (nI c), .int x] w (fun v w' => v = (some (.int (poM tt ou o))) ∧ ∃ (tv' : Nat → Nat), w' = ovl w [(qm, (o0, cO 8 (mo A th su (nI sz) bl (nI ci) (nI ma) pa en wr))), (q_inputs, (A 6, cI Y 6 i1)), (q_gates, (A 7, cI Y 6 g1)), (q_outputs, (A 8, cI Y 6 o1)), (q_sign, (A 10, cI Y 240 s1)), (q_left, (A 11, cI Y 240 l1)), (q_right, (A 12, cI Y 240 r1)), (q_outputOf, (A 14, cI Y 48 p1)), (q_truths, (A 30, cI Y 56 (iF tv')))]) := by
  refine Ct.intro (T := tX8_plainOf) (by decide) oX8_plainOf (Nat.le_of_ble_eq_true rfl) (fun G C B => ?_)
  refine x_lay [(qm, (o0, cO 8 (mo A th su (nI sz) bl (nI ci) (nI ma) pa en wr))), (q_inputs, (A 6, cI Y 6 i1)), (q_gates, (A 7, cI Y 6 g1)), (q_outputs, (A 8, cI Y 6 o1)), (q_sign, (A 10, cI Y 240 s1)), (q_left, (A 11, cI Y 240 l1)), (q_right, (A 12, cI Y 240 r1)), (q_outputOf, (A 14, cI Y 48 p1)), (q_truths, (A 30, cI Y 56 (iF tv)))] (lay_cons e0 (lay_cons e1 (lay_cons e2 (lay_cons e3 (lay_cons e4 (lay_cons e5 (lay_cons e6 (lay_cons e7 (lay_cons e8 lay_nil))))))))) ?_
  refine x_run C 0 2 (pc' := 2) (lv' := [(3, .int 0), (0, .ref o0), (1, .int (nI c)), (2, .int x)]) (st' := []) rfl ?_
  have L2 : ∀ v : Nat, 0 ≤ v → v ≤ (n + g) → ∀ tw : Nat → Nat, (∀ j, j < v → tw j = tt j) → X G Y 0 0 2 [(0, .ref o0), (1, .int (nI c)), (2, .int x), (3, .int (nI v))] [] (ovl w [(qm, (o0, cO 8 (mo A th su (nI sz) bl (nI ci) (nI ma) pa en wr))), (q_inputs, (A 6, cI Y 6 i1)), (q_gates, (A 7, cI Y 6 g1)), (q_outputs, (A 8, cI Y 6 o1)), (q_sign, (A 10, cI Y 240 s1)), (q_left, (A 11, cI Y 240 l1)), (q_right, (A 12, cI Y 240 r1)), (q_outputOf, (A 14, cI Y 48 p1)), (q_truths, (A 30, cI Y 56 (iF tw)))]) := by
    intro v lo2 hi2
    revert lo2
    refine x_up (fun v => 0 ≤ v → ∀ tw : Nat → Nat, (∀ j, j < v → tw j = tt j) → X G Y 0 0 2 [(0, .ref o0), (1, .int (nI c)), (2, .int x), (3, .int (nI v))] [] (ovl w [(qm, (o0, cO 8 (mo A th su (nI sz) bl (nI ci) (nI ma) pa en wr))), (q_inputs, (A 6, cI Y 6 i1)), (q_gates, (A 7, cI Y 6 g1)), (q_outputs, (A 8, cI Y 6 o1)), (q_sign, (A 10, cI Y 240 s1)), (q_left, (A 11, cI Y 240 l1)), (q_right, (A 12, cI Y 240 r1)), (q_outputOf, (A 14, cI Y 48 p1)), (q_truths, (A 30, cI Y 56 (iF tw)))])) (n + g) ?_ ?_ v hi2
    · intro lo2 tw iv2
      refine x_run C 2 3 (pc' := 5) (lv' := [(0, .ref o0), (1, .int (nI c)), (2, .int x), (3, .int (nI (n + g)))]) (st' := [.int (nI c), .ref o0, .int (nI (n + g))]) rfl ?_
      refine x_cv C 5 (As := [.int (nI c)]) (rest := [.int (nI (n + g))]) rfl vX8_199 N 0 rfl rfl (c_X8_wiresOf Y _ o0 A th su sz bl ci ma pa en wr i1 g1 c n g qm q_inputs q_gates (ovl_at 0 N rfl) (ovl_at 1 N rfl) (ovl_at 2 N rfl) (N.ov [0, 1, 2] (by decide) rfl) (by first | assumption | omega) (by first | assumption | omega) (by first | assumption | omega)) rfl rfl (Nat.le_of_ble_eq_true rfl) ⟨Nat.le_of_ble_eq_true rfl, Nat.le_of_ble_eq_true rfl⟩ ⟨Nat.zero_le _, Nat.zero_le _⟩ [0, 1, 2] ⟨rfl, rfl, rfl, trivial⟩ (os' := [(qm, (o0, cO 8 (mo A th su (nI sz) bl (nI ci) (nI ma) pa en wr))), (q_inputs, (A 6, cI Y 6 i1)), (q_gates, (A 7, cI Y 6 g1)), (q_outputs, (A 8, cI Y 6 o1)), (q_sign, (A 10, cI Y 240 s1)), (q_left, (A 11, cI Y 240 l1)), (q_right, (A 12, cI Y 240 r1)), (q_outputOf, (A 14, cI Y 48 p1)), (q_truths, (A 30, cI Y 56 (iF tw)))]) rfl (st' := [.int (nI (n + g)), .int (nI (n + g))]) rfl ?_
      refine x_icmpN_ge C 6 (by omega) (by omega) rfl (tgt := 112) rfl (fun hc1 => ?_) (fun hc1 => ?_)
      · refine x_run C 67 4 (pc' := 117) (lv' := [(4, .int 0), (3, .int 0), (0, .ref o0), (1, .int (nI c)), (2, .int x)]) (st' := []) rfl ?_
        have L117 : ∀ k : Nat, 0 ≤ k → k ≤ o → X G Y 0 0 117 [(0, .ref o0), (1, .int (nI c)), (2, .int x), (3, .int (poM tt ou k)), (4, .int (nI k))] [] (ovl w [(qm, (o0, cO 8 (mo A th su (nI sz) bl (nI ci) (nI ma) pa en wr))), (q_inputs, (A 6, cI Y 6 i1)), (q_gates, (A 7, cI Y 6 g1)), (q_outputs, (A 8, cI Y 6 o1)), (q_sign, (A 10, cI Y 240 s1)), (q_left, (A 11, cI Y 240 l1)), (q_right, (A 12, cI Y 240 r1)), (q_outputOf, (A 14, cI Y 48 p1)), (q_truths, (A 30, cI Y 56 (iF tw)))]) := by
          intro k lo117 hi117
          revert lo117
          refine x_up (fun k => 0 ≤ k → X G Y 0 0 117 [(0, .ref o0), (1, .int (nI c)), (2, .int x), (3, .int (poM tt ou k)), (4, .int (nI k))] [] (ovl w [(qm, (o0, cO 8 (mo A th su (nI sz) bl (nI ci) (nI ma) pa en wr))), (q_inputs, (A 6, cI Y 6 i1)), (q_gates, (A 7, cI Y 6 g1)), (q_outputs, (A 8, cI Y 6 o1)), (q_sign, (A 10, cI Y 240 s1)), (q_left, (A 11, cI Y 240 l1)), (q_right, (A 12, cI Y 240 r1)), (q_outputOf, (A 14, cI Y 48 p1)), (q_truths, (A 30, cI Y 56 (iF tw)))])) o ?_ ?_ k hi117
          · intro lo117
            refine x_run C 71 2 (pc' := 120) (lv' := [(0, .ref o0), (1, .int (nI c)), (2, .int x), (3, .int (poM tt ou o)), (4, .int (nI o))]) (st' := [.ref o0, .int (nI o)]) rfl ?_
            refine x_get C 73 rfl fX8_34 N 0 rfl (v := .ref (A 8)) rfl ?_
            refine x_run C 74 1 (pc' := 124) (lv' := [(0, .ref o0), (1, .int (nI c)), (2, .int x), (3, .int (poM tt ou o)), (4, .int (nI o))]) (st' := [.int (nI c), .ref (A 8), .int (nI o)]) rfl ?_
            refine x_ialdN C 75 rfl N 3 rfl (by omega) (by omega) ?_
            refine x_st (st' := [.int (nI o), .int (nI o)]) (by rw [hoc]) ?_
            refine x_icmpN_ge C 76 (by omega) (by omega) rfl (tgt := 157) rfl (fun hc2 => ?_) (fun hc2 => ?_)
            · refine x_run C 95 1 (pc' := 158) (lv' := [(0, .ref o0), (1, .int (nI c)), (2, .int x), (3, .int (poM tt ou o)), (4, .int (nI o))]) (st' := [.int (poM tt ou o)]) rfl ?_
              exact x_iret C B rfl 96 rfl (Nat.zero_le _) (Nat.zero_le _) ⟨rfl, _, rfl⟩
            · exact absurd hc2 (by omega)
          · intro k hi117 ih117 lo117
            refine x_run C 71 2 (pc' := 120) (lv' := [(0, .ref o0), (1, .int (nI c)), (2, .int x), (3, .int (poM tt ou k)), (4, .int (nI k))]) (st' := [.ref o0, .int (nI k)]) rfl ?_
            refine x_get C 73 rfl fX8_34 N 0 rfl (v := .ref (A 8)) rfl ?_
            refine x_run C 74 1 (pc' := 124) (lv' := [(0, .ref o0), (1, .int (nI c)), (2, .int x), (3, .int (poM tt ou k)), (4, .int (nI k))]) (st' := [.int (nI c), .ref (A 8), .int (nI k)]) rfl ?_
            refine x_ialdN C 75 rfl N 3 rfl (by omega) (by omega) ?_
            refine x_st (st' := [.int (nI o), .int (nI k)]) (by rw [hoc]) ?_
            refine x_icmpN_ge C 76 (by omega) (by omega) rfl (tgt := 157) rfl (fun hc3 => ?_) (fun hc3 => ?_)
            · exact absurd hc3 (by omega)
            · refine x_run C 77 2 (pc' := 130) (lv' := [(0, .ref o0), (1, .int (nI c)), (2, .int x), (3, .int (poM tt ou k)), (4, .int (nI k))]) (st' := [.ref o0, .int (poM tt ou k)]) rfl ?_
              refine x_get C 79 rfl fX8_101 N 0 rfl (v := .ref (A 30)) rfl ?_
              refine x_run C 80 1 (pc' := 134) (lv' := [(0, .ref o0), (1, .int (nI c)), (2, .int x), (3, .int (poM tt ou k)), (4, .int (nI k))]) (st' := [.ref o0, .ref (A 30), .int (poM tt ou k)]) rfl ?_
              refine x_get C 81 rfl fX8_52 N 0 rfl (v := .ref (A 14)) rfl ?_
              refine x_run C 82 5 (pc' := 144) (lv' := [(0, .ref o0), (1, .int (nI c)), (2, .int x), (3, .int (poM tt ou k)), (4, .int (nI k))]) (st' := [.int ((8 * (nI c)) + (nI k)), .ref (A 14), .ref (A 30), .int (poM tt ou k)]) rfl ?_
              refine x_st (st' := [.int (nI ((8 * c) + k)), .ref (A 14), .ref (A 30), .int (poM tt ou k)]) (by simp only [nlit, nI_add, pk_mul]) ?_
              refine x_ialdN C 87 rfl N 7 rfl (by omega) (by omega) ?_
              refine x_st (st' := [.int (nI (ou k)), .ref (A 30), .int (poM tt ou k)]) (by rw [(hpo k (by omega)).1]) ?_
              refine x_ialdN C 88 rfl N 8 rfl (by have := (hpo k (by omega)).2; omega) (by omega) ?_
              refine x_st (st' := [.int (nI (tw (ou k))), .int (poM tt ou k)]) rfl ?_
              refine x_st (st' := [.int (nI (tt (ou k))), .int (poM tt ou k)]) (by rw [iv2 _ (by first | omega | exact (lt_v hl (by omega) (by omega)).2 | exact (rt_n hr hr9 (by omega) (by omega) (by assumption)).2.2 | exact (hpo k (by omega)).2)]) ?_
              refine x_run C 89 6 (pc' := 117) (lv' := [(4, .int ((nI k) + 1)), (3, .int ((poM tt ou k) ||| (jshl (nI (tt (ou k))) (nI k)))), (0, .ref o0), (1, .int (nI c)), (2, .int x)]) (st' := []) rfl ?_
              refine x_sub (lv' := [(0, .ref o0), (1, .int (nI c)), (2, .int x), (3, .int ((poM tt ou k) ||| (jshl (nI (tt (ou k))) (nI k)))), (4, .int ((nI k) + 1))]) [2, 3, 4, 1, 0] rfl ?_
              refine x_loc (lv' := [(0, .ref o0), (1, .int (nI c)), (2, .int x), (3, .int (poM tt ou (k + 1))), (4, .int (nI (k + 1)))]) (by simp only [poM, nlit, nI_add]) ?_
              exact ih117 (by omega)
        refine x_sub (lv' := [(0, .ref o0), (1, .int (nI c)), (2, .int x), (3, .int 0), (4, .int 0)]) [2, 3, 4, 1, 0] rfl ?_
        refine x_loc (lv' := [(0, .ref o0), (1, .int (nI c)), (2, .int x), (3, .int (poM tt ou 0)), (4, .int (nI 0))]) (by rfl) ?_
        exact L117 0 (Nat.le_refl _) (by omega)
      · exact absurd hc1 (by omega)
    · intro v hi2 ih2 lo2 tw iv2
      refine x_run C 2 3 (pc' := 5) (lv' := [(0, .ref o0), (1, .int (nI c)), (2, .int x), (3, .int (nI v))]) (st' := [.int (nI c), .ref o0, .int (nI v)]) rfl ?_
      refine x_cv C 5 (As := [.int (nI c)]) (rest := [.int (nI v)]) rfl vX8_199 N 0 rfl rfl (c_X8_wiresOf Y _ o0 A th su sz bl ci ma pa en wr i1 g1 c n g qm q_inputs q_gates (ovl_at 0 N rfl) (ovl_at 1 N rfl) (ovl_at 2 N rfl) (N.ov [0, 1, 2] (by decide) rfl) (by first | assumption | omega) (by first | assumption | omega) (by first | assumption | omega)) rfl rfl (Nat.le_of_ble_eq_true rfl) ⟨Nat.le_of_ble_eq_true rfl, Nat.le_of_ble_eq_true rfl⟩ ⟨Nat.zero_le _, Nat.zero_le _⟩ [0, 1, 2] ⟨rfl, rfl, rfl, trivial⟩ (os' := [(qm, (o0, cO 8 (mo A th su (nI sz) bl (nI ci) (nI ma) pa en wr))), (q_inputs, (A 6, cI Y 6 i1)), (q_gates, (A 7, cI Y 6 g1)), (q_outputs, (A 8, cI Y 6 o1)), (q_sign, (A 10, cI Y 240 s1)), (q_left, (A 11, cI Y 240 l1)), (q_right, (A 12, cI Y 240 r1)), (q_outputOf, (A 14, cI Y 48 p1)), (q_truths, (A 30, cI Y 56 (iF tw)))]) rfl (st' := [.int (nI (n + g)), .int (nI v)]) rfl ?_
      refine x_icmpN_ge C 6 (by omega) (by omega) rfl (tgt := 112) rfl (fun hc4 => ?_) (fun hc4 => ?_)
      · exact absurd hc4 (by omega)
      · refine x_run C 7 2 (pc' := 13) (lv' := [(0, .ref o0), (1, .int (nI c)), (2, .int x), (3, .int (nI v))]) (st' := [.ref o0, .int (nI v)]) rfl ?_
        refine x_get C 9 rfl fX8_28 N 0 rfl (v := .ref (A 6)) rfl ?_
        refine x_run C 10 1 (pc' := 17) (lv' := [(0, .ref o0), (1, .int (nI c)), (2, .int x), (3, .int (nI v))]) (st' := [.int (nI c), .ref (A 6), .int (nI v)]) rfl ?_
        refine x_ialdN C 11 rfl N 1 rfl (by omega) (by omega) ?_
        refine x_st (st' := [.int (nI n), .int (nI v)]) (by rw [hin]) ?_
        refine x_icmpN_ge C 12 (by omega) (by omega) rfl (tgt := 35) rfl (fun hc5 => ?_) (fun hc5 => ?_)
        · refine x_run C 23 6 (pc' := 42) (lv' := [(0, .ref o0), (1, .int (nI c)), (2, .int x), (3, .int (nI v))]) (st' := [.ref o0, .int ((40 * (nI c)) + (nI v))]) rfl ?_
          refine x_get C 29 rfl fX8_28 N 0 rfl (v := .ref (A 6)) rfl ?_
          refine x_run C 30 1 (pc' := 46) (lv' := [(0, .ref o0), (1, .int (nI c)), (2, .int x), (3, .int (nI v))]) (st' := [.int (nI c), .ref (A 6), .int ((40 * (nI c)) + (nI v))]) rfl ?_
          refine x_ialdN C 31 rfl N 1 rfl (by omega) (by omega) ?_
          refine x_st (st' := [.int (nI n), .int ((40 * (nI c)) + (nI v))]) (by rw [hin]) ?_
          refine x_run C 32 3 (pc' := 51) (lv' := [(4, .int (((40 * (nI c)) + (nI v)) - (nI n))), (0, .ref o0), (1, .int (nI c)), (2, .int x), (3, .int (nI v))]) (st' := [.ref o0]) rfl ?_
          refine x_get C 35 rfl fX8_101 N 0 rfl (v := .ref (A 30)) rfl ?_
          refine x_run C 36 2 (pc' := 56) (lv' := [(4, .int (((40 * (nI c)) + (nI v)) - (nI n))), (0, .ref o0), (1, .int (nI c)), (2, .int x), (3, .int (nI v))]) (st' := [.ref o0, .int (nI v), .ref (A 30)]) rfl ?_
          refine x_get C 38 rfl fX8_40 N 0 rfl (v := .ref (A 10)) rfl ?_
          refine x_run C 39 1 (pc' := 61) (lv' := [(4, .int (((40 * (nI c)) + (nI v)) - (nI n))), (0, .ref o0), (1, .int (nI c)), (2, .int x), (3, .int (nI v))]) (st' := [.int (((40 * (nI c)) + (nI v)) - (nI n)), .ref (A 10), .int (nI v), .ref (A 30)]) rfl ?_
          refine x_st (st' := [.int (nI (((40 * c) + v) - n)), .ref (A 10), .int (nI v), .ref (A 30)]) (by simp only [nlit, nI_add, pk_mul, pk_sub (show n ≤ ((40 * c) + v) by omega)]) ?_
          refine x_ialdN C 40 rfl N 4 rfl (by omega) (by omega) ?_
          refine x_run C 41 1 (pc' := 63) (lv' := [(4, .int (((40 * (nI c)) + (nI v)) - (nI n))), (0, .ref o0), (1, .int (nI c)), (2, .int x), (3, .int (nI v))]) (st' := [.ref o0, .int (s1 (((40 * c) + v) - n)), .int (nI v), .ref (A 30)]) rfl ?_
          refine x_get C 42 rfl fX8_101 N 0 rfl (v := .ref (A 30)) rfl ?_
          refine x_run C 43 1 (pc' := 67) (lv' := [(4, .int (((40 * (nI c)) + (nI v)) - (nI n))), (0, .ref o0), (1, .int (nI c)), (2, .int x), (3, .int (nI v))]) (st' := [.ref o0, .ref (A 30), .int (s1 (((40 * c) + v) - n)), .int (nI v), .ref (A 30)]) rfl ?_
          refine x_get C 44 rfl fX8_43 N 0 rfl (v := .ref (A 11)) rfl ?_
          refine x_run C 45 1 (pc' := 72) (lv' := [(4, .int (((40 * (nI c)) + (nI v)) - (nI n))), (0, .ref o0), (1, .int (nI c)), (2, .int x), (3, .int (nI v))]) (st' := [.int (((40 * (nI c)) + (nI v)) - (nI n)), .ref (A 11), .ref (A 30), .int (s1 (((40 * c) + v) - n)), .int (nI v), .ref (A 30)]) rfl ?_
          refine x_st (st' := [.int (nI (((40 * c) + v) - n)), .ref (A 11), .ref (A 30), .int (s1 (((40 * c) + v) - n)), .int (nI v), .ref (A 30)]) (by simp only [nlit, nI_add, pk_mul, pk_sub (show n ≤ ((40 * c) + v) by omega)]) ?_
          refine x_ialdN C 46 rfl N 5 rfl (by omega) (by omega) ?_
          refine x_st (st' := [.int (nI (lf (v - n))), .ref (A 30), .int (s1 (((40 * c) + v) - n)), .int (nI v), .ref (A 30)]) (by rw [(lt_v hl (by omega) (by omega)).1]) ?_
          refine x_ialdN C 47 rfl N 8 rfl (by have := (lt_v hl (v := v) (by omega) (by omega)).2; omega) (by omega) ?_
          refine x_st (st' := [.int (nI (tw (lf (v - n)))), .int (s1 (((40 * c) + v) - n)), .int (nI v), .ref (A 30)]) rfl ?_
          refine x_st (st' := [.int (nI (tt (lf (v - n)))), .int (s1 (((40 * c) + v) - n)), .int (nI v), .ref (A 30)]) (by rw [iv2 _ (by first | omega | exact (lt_v hl (by omega) (by omega)).2 | exact (rt_n hr hr9 (by omega) (by omega) (by assumption)).2.2 | exact (hpo k (by omega)).2)]) ?_
          refine x_run C 48 1 (pc' := 75) (lv' := [(4, .int (((40 * (nI c)) + (nI v)) - (nI n))), (0, .ref o0), (1, .int (nI c)), (2, .int x), (3, .int (nI v))]) (st' := [.ref o0, .int (nI (tt (lf (v - n)))), .int (s1 (((40 * c) + v) - n)), .int (nI v), .ref (A 30)]) rfl ?_
          refine x_get C 49 rfl fX8_46 N 0 rfl (v := .ref (A 12)) rfl ?_
          refine x_run C 50 1 (pc' := 80) (lv' := [(4, .int (((40 * (nI c)) + (nI v)) - (nI n))), (0, .ref o0), (1, .int (nI c)), (2, .int x), (3, .int (nI v))]) (st' := [.int (((40 * (nI c)) + (nI v)) - (nI n)), .ref (A 12), .int (nI (tt (lf (v - n)))), .int (s1 (((40 * c) + v) - n)), .int (nI v), .ref (A 30)]) rfl ?_
          refine x_st (st' := [.int (nI (((40 * c) + v) - n)), .ref (A 12), .int (nI (tt (lf (v - n)))), .int (s1 (((40 * c) + v) - n)), .int (nI v), .ref (A 30)]) (by simp only [nlit, nI_add, pk_mul, pk_sub (show n ≤ ((40 * c) + v) by omega)]) ?_
          refine x_ialdN C 51 rfl N 6 rfl (by omega) (by omega) ?_
          refine x_run C 52 1 (pc' := 83) (lv' := [(4, .int (((40 * (nI c)) + (nI v)) - (nI n))), (0, .ref o0), (1, .int (nI c)), (2, .int x), (3, .int (nI v))]) (st' := [.int (-9), .int (r1 (((40 * c) + v) - n)), .int (nI (tt (lf (v - n)))), .int (s1 (((40 * c) + v) - n)), .int (nI v), .ref (A 30)]) rfl ?_
          refine x_icmp_ne C 53 rfl (tgt := 90) rfl (fun hc6 => ?_) (fun hc6 => ?_)
          · refine x_run C 56 1 (pc' := 91) (lv' := [(4, .int (((40 * (nI c)) + (nI v)) - (nI n))), (0, .ref o0), (1, .int (nI c)), (2, .int x), (3, .int (nI v))]) (st' := [.ref o0, .int (nI (tt (lf (v - n)))), .int (s1 (((40 * c) + v) - n)), .int (nI v), .ref (A 30)]) rfl ?_
            refine x_get C 57 rfl fX8_101 N 0 rfl (v := .ref (A 30)) rfl ?_
            refine x_run C 58 1 (pc' := 95) (lv' := [(4, .int (((40 * (nI c)) + (nI v)) - (nI n))), (0, .ref o0), (1, .int (nI c)), (2, .int x), (3, .int (nI v))]) (st' := [.ref o0, .ref (A 30), .int (nI (tt (lf (v - n)))), .int (s1 (((40 * c) + v) - n)), .int (nI v), .ref (A 30)]) rfl ?_
            refine x_get C 59 rfl fX8_46 N 0 rfl (v := .ref (A 12)) rfl ?_
            refine x_run C 60 1 (pc' := 100) (lv' := [(4, .int (((40 * (nI c)) + (nI v)) - (nI n))), (0, .ref o0), (1, .int (nI c)), (2, .int x), (3, .int (nI v))]) (st' := [.int (((40 * (nI c)) + (nI v)) - (nI n)), .ref (A 12), .ref (A 30), .int (nI (tt (lf (v - n)))), .int (s1 (((40 * c) + v) - n)), .int (nI v), .ref (A 30)]) rfl ?_
            refine x_st (st' := [.int (nI (((40 * c) + v) - n)), .ref (A 12), .ref (A 30), .int (nI (tt (lf (v - n)))), .int (s1 (((40 * c) + v) - n)), .int (nI v), .ref (A 30)]) (by simp only [nlit, nI_add, pk_mul, pk_sub (show n ≤ ((40 * c) + v) by omega)]) ?_
            refine x_ialdN C 61 rfl N 6 rfl (by omega) (by omega) ?_
            refine x_st (st' := [.int (nI (rg (v - n))), .ref (A 30), .int (nI (tt (lf (v - n)))), .int (s1 (((40 * c) + v) - n)), .int (nI v), .ref (A 30)]) (by rw [(rt_n hr hr9 (by omega) (by omega) hc6).2.1]) ?_
            refine x_ialdN C 62 rfl N 8 rfl (by have := (rt_n hr hr9 (v := v) (by omega) (by omega) (by assumption)).2.2; omega) (by omega) ?_
            refine x_st (st' := [.int (nI (tw (rg (v - n)))), .int (nI (tt (lf (v - n)))), .int (s1 (((40 * c) + v) - n)), .int (nI v), .ref (A 30)]) rfl ?_
            refine x_st (st' := [.int (nI (tt (rg (v - n)))), .int (nI (tt (lf (v - n)))), .int (s1 (((40 * c) + v) - n)), .int (nI v), .ref (A 30)]) (by rw [iv2 _ (by first | omega | exact (lt_v hl (by omega) (by omega)).2 | exact (rt_n hr hr9 (by omega) (by omega) (by assumption)).2.2 | exact (hpo k (by omega)).2)]) ?_
            refine x_cs C 63 (As := [.int (s1 (((40 * c) + v) - n)), .int (nI (tt (lf (v - n)))), .int (nI (tt (rg (v - n))))]) (rest := [.int (nI v), .ref (A 30)]) rfl vX8_203 N (c_X8_truth Y _ (s1 (((40 * c) + v) - n)) (tt (lf (v - n))) (tt (rg (v - n)))    (ht3 _) (by first | exact ht3 _ | decide)) rfl rfl (Nat.le_of_ble_eq_true rfl) ⟨Nat.le_of_ble_eq_true rfl, Nat.le_of_ble_eq_true rfl⟩ ⟨Nat.zero_le _, Nat.zero_le _⟩ [] trivial (os' := [(qm, (o0, cO 8 (mo A th su (nI sz) bl (nI ci) (nI ma) pa en wr))), (q_inputs, (A 6, cI Y 6 i1)), (q_gates, (A 7, cI Y 6 g1)), (q_outputs, (A 8, cI Y 6 o1)), (q_sign, (A 10, cI Y 240 s1)), (q_left, (A 11, cI Y 240 l1)), (q_right, (A 12, cI Y 240 r1)), (q_outputOf, (A 14, cI Y 48 p1)), (q_truths, (A 30, cI Y 56 (iF tw)))]) rfl (st' := [.int (trO (s1 (((40 * c) + v) - n)) (nI (tt (lf (v - n)))) (nI (tt (rg (v - n))))), .int (nI v), .ref (A 30)]) rfl ?_
            refine x_st (st' := [.int (nI (tt v)), .int (nI v), .ref (A 30)]) (by rw [pl_b hs (by omega) (by omega) ht2 (rt_n hr hr9 (by omega) (by omega) hc6).1]) ?_
            refine x_iastN C 64 rfl N 8 rfl (by omega) (by omega) (os' := [(qm, (o0, cO 8 (mo A th su (nI sz) bl (nI ci) (nI ma) pa en wr))), (q_inputs, (A 6, cI Y 6 i1)), (q_gates, (A 7, cI Y 6 g1)), (q_outputs, (A 8, cI Y 6 o1)), (q_sign, (A 10, cI Y 240 s1)), (q_left, (A 11, cI Y 240 l1)), (q_right, (A 12, cI Y 240 r1)), (q_outputOf, (A 14, cI Y 48 p1)), (q_truths, (A 30, cI Y 56 (upd (iF tw) v (nI (tt v)))))]) rfl ?_
            refine x_ov (os' := [(qm, (o0, cO 8 (mo A th su (nI sz) bl (nI ci) (nI ma) pa en wr))), (q_inputs, (A 6, cI Y 6 i1)), (q_gates, (A 7, cI Y 6 g1)), (q_outputs, (A 8, cI Y 6 o1)), (q_sign, (A 10, cI Y 240 s1)), (q_left, (A 11, cI Y 240 l1)), (q_right, (A 12, cI Y 240 r1)), (q_outputOf, (A 14, cI Y 48 p1)), (q_truths, (A 30, cI Y 56 (iF (updN tw v (tt v)))))]) (by rw [upd_iF]) ?_
            refine x_run C 65 2 (pc' := 2) (lv' := [(3, .int ((nI v) + 1)), (4, .int (((40 * (nI c)) + (nI v)) - (nI n))), (0, .ref o0), (1, .int (nI c)), (2, .int x)]) (st' := []) rfl ?_
            refine x_sub (lv' := [(0, .ref o0), (1, .int (nI c)), (2, .int x), (3, .int ((nI v) + 1))]) [2, 3, 4, 0] rfl ?_
            refine x_loc (lv' := [(0, .ref o0), (1, .int (nI c)), (2, .int x), (3, .int (nI (v + 1)))]) (by simp only [nlit, nI_add, pk_mul]) ?_
            exact ih2 (by omega) _ (inv_B iv2 rfl)
          · refine x_run C 54 2 (pc' := 102) (lv' := [(4, .int (((40 * (nI c)) + (nI v)) - (nI n))), (0, .ref o0), (1, .int (nI c)), (2, .int x), (3, .int (nI v))]) (st' := [.int 0, .int (nI (tt (lf (v - n)))), .int (s1 (((40 * c) + v) - n)), .int (nI v), .ref (A 30)]) rfl ?_
            refine x_st (st' := [.int (nI 0), .int (nI (tt (lf (v - n)))), .int (s1 (((40 * c) + v) - n)), .int (nI v), .ref (A 30)]) (by simp only [nlit, nI_add, pk_mul]) ?_
            refine x_cs C 63 (As := [.int (s1 (((40 * c) + v) - n)), .int (nI (tt (lf (v - n)))), .int (nI 0)]) (rest := [.int (nI v), .ref (A 30)]) rfl vX8_203 N (c_X8_truth Y _ (s1 (((40 * c) + v) - n)) (tt (lf (v - n))) 0    (ht3 _) (by first | exact ht3 _ | decide)) rfl rfl (Nat.le_of_ble_eq_true rfl) ⟨Nat.le_of_ble_eq_true rfl, Nat.le_of_ble_eq_true rfl⟩ ⟨Nat.zero_le _, Nat.zero_le _⟩ [] trivial (os' := [(qm, (o0, cO 8 (mo A th su (nI sz) bl (nI ci) (nI ma) pa en wr))), (q_inputs, (A 6, cI Y 6 i1)), (q_gates, (A 7, cI Y 6 g1)), (q_outputs, (A 8, cI Y 6 o1)), (q_sign, (A 10, cI Y 240 s1)), (q_left, (A 11, cI Y 240 l1)), (q_right, (A 12, cI Y 240 r1)), (q_outputOf, (A 14, cI Y 48 p1)), (q_truths, (A 30, cI Y 56 (iF tw)))]) rfl (st' := [.int (trO (s1 (((40 * c) + v) - n)) (nI (tt (lf (v - n)))) (nI 0)), .int (nI v), .ref (A 30)]) rfl ?_
            refine x_st (st' := [.int (nI (tt v)), .int (nI v), .ref (A 30)]) (by rw [pl_a hs (by omega) (by omega) ht2 (rt_9 hg40 hn16 hr (by omega) (by omega) hc6)]) ?_
            refine x_iastN C 64 rfl N 8 rfl (by omega) (by omega) (os' := [(qm, (o0, cO 8 (mo A th su (nI sz) bl (nI ci) (nI ma) pa en wr))), (q_inputs, (A 6, cI Y 6 i1)), (q_gates, (A 7, cI Y 6 g1)), (q_outputs, (A 8, cI Y 6 o1)), (q_sign, (A 10, cI Y 240 s1)), (q_left, (A 11, cI Y 240 l1)), (q_right, (A 12, cI Y 240 r1)), (q_outputOf, (A 14, cI Y 48 p1)), (q_truths, (A 30, cI Y 56 (upd (iF tw) v (nI (tt v)))))]) rfl ?_
            refine x_ov (os' := [(qm, (o0, cO 8 (mo A th su (nI sz) bl (nI ci) (nI ma) pa en wr))), (q_inputs, (A 6, cI Y 6 i1)), (q_gates, (A 7, cI Y 6 g1)), (q_outputs, (A 8, cI Y 6 o1)), (q_sign, (A 10, cI Y 240 s1)), (q_left, (A 11, cI Y 240 l1)), (q_right, (A 12, cI Y 240 r1)), (q_outputOf, (A 14, cI Y 48 p1)), (q_truths, (A 30, cI Y 56 (iF (updN tw v (tt v)))))]) (by rw [upd_iF]) ?_
            refine x_run C 65 2 (pc' := 2) (lv' := [(3, .int ((nI v) + 1)), (4, .int (((40 * (nI c)) + (nI v)) - (nI n))), (0, .ref o0), (1, .int (nI c)), (2, .int x)]) (st' := []) rfl ?_
            refine x_sub (lv' := [(0, .ref o0), (1, .int (nI c)), (2, .int x), (3, .int ((nI v) + 1))]) [2, 3, 4, 0] rfl ?_
            refine x_loc (lv' := [(0, .ref o0), (1, .int (nI c)), (2, .int x), (3, .int (nI (v + 1)))]) (by simp only [nlit, nI_add, pk_mul]) ?_
            exact ih2 (by omega) _ (inv_B iv2 rfl)
        · refine x_run C 13 1 (pc' := 22) (lv' := [(0, .ref o0), (1, .int (nI c)), (2, .int x), (3, .int (nI v))]) (st' := [.ref o0]) rfl ?_
          refine x_get C 14 rfl fX8_101 N 0 rfl (v := .ref (A 30)) rfl ?_
          refine x_run C 15 6 (pc' := 31) (lv' := [(0, .ref o0), (1, .int (nI c)), (2, .int x), (3, .int (nI v))]) (st' := [.int ((jshr x (nI v)) &&& 1), .int (nI v), .ref (A 30)]) rfl ?_
          refine x_st (st' := [.int (nI (tt v)), .int (nI v), .ref (A 30)]) (by rw [ht1 v (by omega)]) ?_
          refine x_iastN C 21 rfl N 8 rfl (by omega) (by omega) (os' := [(qm, (o0, cO 8 (mo A th su (nI sz) bl (nI ci) (nI ma) pa en wr))), (q_inputs, (A 6, cI Y 6 i1)), (q_gates, (A 7, cI Y 6 g1)), (q_outputs, (A 8, cI Y 6 o1)), (q_sign, (A 10, cI Y 240 s1)), (q_left, (A 11, cI Y 240 l1)), (q_right, (A 12, cI Y 240 r1)), (q_outputOf, (A 14, cI Y 48 p1)), (q_truths, (A 30, cI Y 56 (upd (iF tw) v (nI (tt v)))))]) rfl ?_
          refine x_ov (os' := [(qm, (o0, cO 8 (mo A th su (nI sz) bl (nI ci) (nI ma) pa en wr))), (q_inputs, (A 6, cI Y 6 i1)), (q_gates, (A 7, cI Y 6 g1)), (q_outputs, (A 8, cI Y 6 o1)), (q_sign, (A 10, cI Y 240 s1)), (q_left, (A 11, cI Y 240 l1)), (q_right, (A 12, cI Y 240 r1)), (q_outputOf, (A 14, cI Y 48 p1)), (q_truths, (A 30, cI Y 56 (iF (updN tw v (tt v)))))]) (by rw [upd_iF]) ?_
          refine x_run C 22 1 (pc' := 106) (lv' := [(0, .ref o0), (1, .int (nI c)), (2, .int x), (3, .int (nI v))]) (st' := []) rfl ?_
          refine x_run C 65 2 (pc' := 2) (lv' := [(3, .int ((nI v) + 1)), (0, .ref o0), (1, .int (nI c)), (2, .int x)]) (st' := []) rfl ?_
          refine x_sub (lv' := [(0, .ref o0), (1, .int (nI c)), (2, .int x), (3, .int ((nI v) + 1))]) [1, 2, 3, 0] rfl ?_
          refine x_loc (lv' := [(0, .ref o0), (1, .int (nI c)), (2, .int x), (3, .int (nI (v + 1)))]) (by simp only [nlit, nI_add, pk_mul]) ?_
          exact ih2 (by omega) _ (inv_B iv2 rfl)
  refine x_sub (lv' := [(0, .ref o0), (1, .int (nI c)), (2, .int x), (3, .int 0)]) [1, 2, 3, 0] rfl ?_
  refine x_loc (lv' := [(0, .ref o0), (1, .int (nI c)), (2, .int x), (3, .int (nI 0))]) (by simp only [nlit, nI_add, pk_mul]) ?_
  exact L2 0 (Nat.le_refl _) (by omega) _ (fun j h => absurd h (by omega))
set_option maxHeartbeats 4000000 in
set_option maxRecDepth 100000 in
theorem c_X8_plainF (Y : xD) (w : va_W) (o0 : Nat) (A : Nat → Nat) (th : Int32) (su : Int32) (sz : Nat) (bl : Int32) (ci : Nat) (ma : Nat) (pa : Int32) (en : Int32) (wr : Int32) (x : Int32) (v : Int32) (qm : Nat) (e0 : w[qm]? = some (o0, cO 8 (mo A th su (nI sz) bl (nI ci) (nI ma) pa en wr))) (N : xN w.length [qm]) (hx : x < 0 ∨ nI ci ≤ x) (h6 : ci ≤ 6) : Cf Y mX8_plain 2 [.ref o0, .int x, .int v] w (some (.int (-1))) [(qm, (o0, cO 8 (mo A (nI 0) su (nI sz) bl (nI ci) (nI ma) pa en wr)))] := by
  refine Ct.intro (T := tX8_plain) (by decide) oX8_plain (Nat.le_of_ble_eq_true rfl) (fun G C B => ?_)
  refine x_lay [(qm, (o0, cO 8 (mo A th su (nI sz) bl (nI ci) (nI ma) pa en wr)))] (lay_cons e0 lay_nil) ?_
  refine x_run C 0 2 (pc' := 2) (lv' := [(0, .ref o0), (1, .int x), (2, .int v)]) (st' := [.int 0, .ref o0]) rfl ?_
  refine x_put C 2 rfl pX8_117 N 0 rfl rfl rfl (Nat.le_of_ble_eq_true rfl) (os' := [(qm, (o0, cO 8 (mo A (nI 0) su (nI sz) bl (nI ci) (nI ma) pa en wr)))]) rfl ?_
  refine x_run C 3 2 (pc' := 7) (lv' := [(0, .ref o0), (1, .int x), (2, .int v)]) (st' := [.int x, .ref o0]) rfl ?_
  refine x_cv C 5 (As := [.int x]) (rest := []) rfl vX8_196 N 0 rfl rfl (c_X8_isCircuitF Y _ o0 A (nI 0) su sz bl ci ma pa en wr x qm (ovl_at 0 N rfl) (N.ov [0] (by decide) rfl) hx (by first | assumption | omega)) rfl rfl (Nat.le_of_ble_eq_true rfl) ⟨Nat.le_of_ble_eq_true rfl, Nat.le_of_ble_eq_true rfl⟩ ⟨Nat.zero_le _, Nat.zero_le _⟩ [0] ⟨rfl, trivial⟩ (os' := [(qm, (o0, cO 8 (mo A (nI 0) su (nI sz) bl (nI ci) (nI ma) pa en wr)))]) rfl (st' := [.int 0]) rfl ?_
  refine x_st (st' := [.int (nI 0)]) (by simp only [nlit, nI_add, pk_mul]) ?_
  refine x_ifN_eq C 6 (by omega) rfl (tgt := 22) rfl (fun hc1 => ?_) (fun hc1 => absurd hc1 (by omega))
  refine x_run C 12 1 (pc' := 23) (lv' := [(0, .ref o0), (1, .int x), (2, .int v)]) (st' := [.int (-1)]) rfl ?_
  exact x_iret C B rfl 13 rfl (Nat.zero_le _) (Nat.zero_le _) ⟨by first | rfl | (simp only [nlit, nI_add, pk_mul]; done), by first | rfl | (simp only [nlit, nI_add, pk_mul]; done)⟩
set_option maxHeartbeats 4000000 in
set_option maxRecDepth 100000 in
theorem c_X8_plain (Y : xD) (w : va_W) (o0 : Nat) (A : Nat → Nat) (th : Int32) (su : Int32) (sz : Nat) (bl : Int32) (ci : Nat) (ma : Nat) (pa : Int32) (en : Int32) (wr : Int32) (i1 : Nat → Int32) (g1 : Nat → Int32) (o1 : Nat → Int32) (s1 : Nat → Int32) (l1 : Nat → Int32) (r1 : Nat → Int32) (p1 : Nat → Int32) (sg : Nat → Int32) (lf : Nat → Nat) (rg : Nat → Nat) (ou : Nat → Nat) (tv : Nat → Nat) (tt : Nat → Nat) (c : Nat) (n : Nat) (g : Nat) (o : Nat) (x : Int32) (qm q_inputs q_gates q_outputs q_sign q_left q_right q_outputOf q_truths : Nat) (e0 : w[qm]? = some (o0, cO 8 (mo A th su (nI sz) bl (nI ci) (nI ma) pa en wr))) (e1 : w[q_inputs]? = some (A 6, cI Y 6 i1)) (e2 : w[q_gates]? = some (A 7, cI Y 6 g1)) (e3 : w[q_outputs]? = some (A 8, cI Y 6 o1)) (e4 : w[q_sign]? = some (A 10, cI Y 240 s1)) (e5 : w[q_left]? = some (A 11, cI Y 240 l1)) (e6 : w[q_right]? = some (A 12, cI Y 240 r1)) (e7 : w[q_outputOf]? = some (A 14, cI Y 48 p1)) (e8 : w[q_truths]? = some (A 30, cI Y 56 (iF tv))) (N : xN w.length [qm, q_inputs, q_gates, q_outputs, q_sign, q_left, q_right, q_outputOf, q_truths]) (hci : c < ci) (h6 : ci ≤ 6) (hc6 : c < 6) (hn16 : n ≤ 16) (hg40 : g ≤ 40) (ho8 : o ≤ 8) (hin : i1 c = nI n) (hga : g1 c = nI g) (hoc : o1 c = nI o) (hs : ∀ k, k < g → s1 (40 * c + k) = sg k) (hl : ∀ k, k < g → l1 (40 * c + k) = nI (lf k) ∧ lf k < n + k) (hr : ∀ k, k < g → ¬ sg k = 33 → r1 (40 * c + k) = nI (rg k) ∧ rg k < n + k) (hr9 : ∀ k, k < g → sg k = 33 → r1 (40 * c + k) = -9) (hpo : ∀ k, k < o → p1 (8 * c + k) = nI (ou k) ∧ ou k < n + g) (ht1 : ∀ j, j < n → jshr x (nI j) &&& 1 = nI (tt j)) (ht2 : ∀ k, k < g → trO (sg k) (nI (tt (lf k))) (if sg k = 33 then 0 else nI (tt (rg k))) = nI (tt (n + k))) (ht3 : ∀ j, tt j ≤ 1) : Ct Y mX8_plain 2 0 0 [.ref o0, .int (nI c), .int x] w (fun v w' => v = (some (.int (poM tt ou o))) ∧ ∃ (tv' : Nat → Nat), w' = ovl w [(qm, (o0, cO 8 (mo A (nI 0) su (nI sz) bl (nI ci) (nI ma) pa en wr))), (q_inputs, (A 6, cI Y 6 i1)), (q_gates, (A 7, cI Y 6 g1)), (q_outputs, (A 8, cI Y 6 o1)), (q_sign, (A 10, cI Y 240 s1)), (q_left, (A 11, cI Y 240 l1)), (q_right, (A 12, cI Y 240 r1)), (q_outputOf, (A 14, cI Y 48 p1)), (q_truths, (A 30, cI Y 56 (iF tv')))]) := by
  refine Ct.intro (T := tX8_plain) (by decide) oX8_plain (Nat.le_of_ble_eq_true rfl) (fun G C B => ?_)
  refine x_lay [(qm, (o0, cO 8 (mo A th su (nI sz) bl (nI ci) (nI ma) pa en wr))), (q_inputs, (A 6, cI Y 6 i1)), (q_gates, (A 7, cI Y 6 g1)), (q_outputs, (A 8, cI Y 6 o1)), (q_sign, (A 10, cI Y 240 s1)), (q_left, (A 11, cI Y 240 l1)), (q_right, (A 12, cI Y 240 r1)), (q_outputOf, (A 14, cI Y 48 p1)), (q_truths, (A 30, cI Y 56 (iF tv)))] (lay_cons e0 (lay_cons e1 (lay_cons e2 (lay_cons e3 (lay_cons e4 (lay_cons e5 (lay_cons e6 (lay_cons e7 (lay_cons e8 lay_nil))))))))) ?_
  refine x_run C 0 2 (pc' := 2) (lv' := [(0, .ref o0), (1, .int (nI c)), (2, .int x)]) (st' := [.int 0, .ref o0]) rfl ?_
  refine x_put C 2 rfl pX8_117 N 0 rfl rfl rfl (Nat.le_of_ble_eq_true rfl) (os' := [(qm, (o0, cO 8 (mo A (nI 0) su (nI sz) bl (nI ci) (nI ma) pa en wr))), (q_inputs, (A 6, cI Y 6 i1)), (q_gates, (A 7, cI Y 6 g1)), (q_outputs, (A 8, cI Y 6 o1)), (q_sign, (A 10, cI Y 240 s1)), (q_left, (A 11, cI Y 240 l1)), (q_right, (A 12, cI Y 240 r1)), (q_outputOf, (A 14, cI Y 48 p1)), (q_truths, (A 30, cI Y 56 (iF tv)))]) rfl ?_
  refine x_run C 3 2 (pc' := 7) (lv' := [(0, .ref o0), (1, .int (nI c)), (2, .int x)]) (st' := [.int (nI c), .ref o0]) rfl ?_
  refine x_cv C 5 (As := [.int (nI c)]) (rest := []) rfl vX8_196 N 0 rfl rfl (c_X8_isCircuit Y _ o0 A (nI 0) su sz bl ci ma pa en wr c qm (ovl_at 0 N rfl) (N.ov [0] (by decide) rfl) (by first | assumption | omega) (by first | assumption | omega)) rfl rfl (Nat.le_of_ble_eq_true rfl) ⟨Nat.le_of_ble_eq_true rfl, Nat.le_of_ble_eq_true rfl⟩ ⟨Nat.zero_le _, Nat.zero_le _⟩ [0] ⟨rfl, trivial⟩ (os' := [(qm, (o0, cO 8 (mo A (nI 0) su (nI sz) bl (nI ci) (nI ma) pa en wr))), (q_inputs, (A 6, cI Y 6 i1)), (q_gates, (A 7, cI Y 6 g1)), (q_outputs, (A 8, cI Y 6 o1)), (q_sign, (A 10, cI Y 240 s1)), (q_left, (A 11, cI Y 240 l1)), (q_right, (A 12, cI Y 240 r1)), (q_outputOf, (A 14, cI Y 48 p1)), (q_truths, (A 30, cI Y 56 (iF tv)))]) rfl (st' := [.int 1]) rfl ?_
  refine x_st (st' := [.int (nI 1)]) (by simp only [nlit, nI_add, pk_mul]) ?_
  refine x_ifN_eq C 6 (by omega) rfl (tgt := 22) rfl (fun hc1 => absurd hc1 (by omega)) (fun hc1 => ?_)
  refine x_run C 7 3 (pc' := 16) (lv' := [(0, .ref o0), (1, .int (nI c)), (2, .int x)]) (st' := [.int x, .int (nI c), .ref o0]) rfl ?_
  refine x_callV C 10 (As := [.int (nI c), .int x]) (rest := []) rfl vX8_207 (ovl_at 0 N rfl) rfl (c_X8_plainOf Y _ o0 A (nI 0) su sz bl ci ma pa en wr i1 g1 o1 s1 l1 r1 p1 sg lf rg ou tv tt c n g o x qm q_inputs q_gates q_outputs q_sign q_left q_right q_outputOf q_truths (ovl_at 0 N rfl) (ovl_at 1 N rfl) (ovl_at 2 N rfl) (ovl_at 3 N rfl) (ovl_at 4 N rfl) (ovl_at 5 N rfl) (ovl_at 6 N rfl) (ovl_at 7 N rfl) (ovl_at 8 N rfl) (N.ov [0, 1, 2, 3, 4, 5, 6, 7, 8] (by decide) rfl) (by first | assumption | omega) (by first | assumption | omega) (by first | assumption | omega) (by first | assumption | omega) (by first | assumption | omega) (by first | assumption | omega) (by first | assumption | omega) (by first | assumption | omega) (by first | assumption | omega) (by first | assumption | omega) (by first | assumption | omega) (by first | assumption | omega) (by first | assumption | omega) (by first | assumption | omega) (by first | assumption | omega)) rfl rfl (Nat.le_of_ble_eq_true rfl) ⟨(Nat.le_of_ble_eq_true rfl), (Nat.le_of_ble_eq_true rfl)⟩ ⟨Nat.zero_le _, Nat.zero_le _⟩ (fun v w_1 hp => ?_)
  obtain ⟨rfl, tv'_1, rfl⟩ := hp
  refine x_mer N [0, 1, 2, 3, 4, 5, 6, 7, 8] ⟨rfl, rfl, rfl, rfl, rfl, rfl, rfl, rfl, rfl, trivial⟩ (os' := [(qm, (o0, cO 8 (mo A (nI 0) su (nI sz) bl (nI ci) (nI ma) pa en wr))), (q_inputs, (A 6, cI Y 6 i1)), (q_gates, (A 7, cI Y 6 g1)), (q_outputs, (A 8, cI Y 6 o1)), (q_sign, (A 10, cI Y 240 s1)), (q_left, (A 11, cI Y 240 l1)), (q_right, (A 12, cI Y 240 r1)), (q_outputOf, (A 14, cI Y 48 p1)), (q_truths, (A 30, cI Y 56 (iF tv'_1)))]) rfl ?_
  refine x_st (st' := [.int (poM tt ou o)]) rfl ?_
  refine x_run C 11 1 (pc' := 23) (lv' := [(0, .ref o0), (1, .int (nI c)), (2, .int x)]) (st' := [.int (poM tt ou o)]) rfl ?_
  exact x_iret C B rfl 13 rfl (Nat.zero_le _) (Nat.zero_le _) ⟨rfl, _, rfl⟩
