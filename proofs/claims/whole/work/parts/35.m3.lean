theorem lt31 {f : Nat → Nat} {h l : Int64} (hf : ∀ j, j < 16 → f j = byW h l j) {j : Nat} (hj : j < 16) : f j < 2 ^ 31 := by
  rw [hf j hj]
  exact Nat.lt_trans (byW_lt h l j) (by decide)
theorem dbl_1 {f : Nat → Nat} {h l : Int64} (hf : ∀ j, j < 16 → f j = byW h l j) (h1 : f 0 / 2 ^ 7 = 1) : ∀ j, j < 16 → updN (filN f 0 16 (dbB f)) (0 + 15) (dbB f (0 + 15) ^^^ 135) j = byW (lbD h l).1 (lbD h l).2 j := by
  intro j hj
  have k := dbB_B hf hj
  rw [if_pos h1] at k
  by_cases e : j = 15
  · subst e
    rw [if_pos rfl] at k
    rw [← k]
    exact updN_s _ _ _
  · rw [if_neg e] at k
    rw [← k, updN_n _ _ (by omega), filN_z hj]
theorem dbl_0 {f : Nat → Nat} {h l : Int64} (hf : ∀ j, j < 16 → f j = byW h l j) (h1 : ¬ f 0 / 2 ^ 7 = 1) : ∀ j, j < 16 → updN (filN f 0 16 (dbB f)) (0 + 15) (dbB f (0 + 15) ^^^ 0) j = byW (lbD h l).1 (lbD h l).2 j := by
  intro j hj
  have k := dbB_B hf hj
  rw [if_neg h1] at k
  by_cases e : j = 15
  · subst e
    rw [if_pos rfl] at k
    rw [← k]
    exact updN_s _ _ _
  · rw [if_neg e] at k
    rw [← k, updN_n _ _ (by omega), filN_z hj]
theorem twk (t : Int32) {k : Nat} (hk : k < 4) : jshr t (24 - 8 * nI k) &&& 255 = nI (b32 t k) := by
  rw [show (24 : Int32) - 8 * nI k = nI (24 - 8 * k) from by simp only [nlit, pk_mul, pk_sub (show 8 * k ≤ 24 by omega)]]
  exact twk_b t hk
theorem msk_B {mk : Nat → Nat} {h l : Int64} {t : Int32} (hm : ∀ j, j < 16 → mk j = byW h l j) {j : Nat} (hj : j < 16) : filN mk 12 4 (fun k => mk (12 + k) ^^^ b32 t k) j = byW h (hK l t) j := by
  rw [hK_B h l t hj]
  by_cases h12 : 12 ≤ j
  · rw [if_pos h12]
    have := filN_i (f := mk) (p := 12) (i := 4) (g := fun k => mk (12 + k) ^^^ b32 t k) (j := j - 12) (by omega)
    rw [show 12 + (j - 12) = j by omega] at this
    rw [this, hm j hj]
  · rw [if_neg h12, filN_o (by omega), hm j hj]
theorem hsh_B {ks : Nat → Int32} {h l : Int64} {t : Int32} {hh b M : Nat → Nat} (hb : ∀ j, j < 16 → b j = byW (enc ks h (hK l t)).1 (enc ks h (hK l t)).2 j) (hM : ∀ j, j < 16 → M j = byW h (hK l t) j) : ∀ j, j < 16 → filN hh 0 16 (fun j => b j ^^^ M j) j = byW (hsh ks h l t).1 (hsh ks h l t).2 j := by
  intro j hj
  rw [filN_z hj]
  show b j ^^^ M j = byW (h ^^^ (enc ks h (hK l t)).1) (hK l t ^^^ (enc ks h (hK l t)).2) j
  rw [byW_xor, hb j hj, hM j hj, Nat.xor_comm]
theorem db2_B {m1 s2 : Nat → Nat} {h l h2 l2 : Int64} (hm : ∀ j, j < 16 → m1 j = byW (lbD h l).1 (lbD h l).2 j) (hs : ∀ j, j < 16 → s2 j = byW (lbD (lbD h2 l2).1 (lbD h2 l2).2).1 (lbD (lbD h2 l2).1 (lbD h2 l2).2).2 j) : ∀ j, j < 16 → filN m1 0 16 (fun j => m1 j ^^^ s2 j) j = byW (db2 h l h2 l2).1 (db2 h l h2 l2).2 j := by
  intro j hj
  rw [filN_z hj]
  show m1 j ^^^ s2 j = byW (lbD ((lbD h2 l2).1 ^^^ h) ((lbD h2 l2).2 ^^^ l)).1 (lbD ((lbD h2 l2).1 ^^^ h) ((lbD h2 l2).2 ^^^ l)).2 j
  rw [lbD_xor _ _ _ _ hj, hm j hj, hs j hj, Nat.xor_comm]
set_option maxHeartbeats 4000000 in
set_option maxRecDepth 100000 in
theorem c_X8_doubles (Y : xD) (w : va_W) (a0 : Nat) (n : Nat) (f : Nat → Nat) (h : Int64) (l : Int64) (q_a : Nat) (e0 : w[q_a]? = some (a0, cI Y n (iF f))) (N : xN w.length [q_a]) (hn : 16 ≤ n) (hm : n < 2 ^ 31) (hf : ∀ j, j < 16 → f j = byW h l j) : Ct Y mX8_doubles 0 0 0 [.ref a0, .int 0] w (fun v w' => v = none ∧ ∃ (f' : Nat → Nat), (∀ j, j < 16 → f' j = byW (lbD h l).1 (lbD h l).2 j) ∧ w' = ovl w [(q_a, (a0, cI Y n (iF f')))]) := by
  refine Ct.intro (T := tX8_doubles) (by decide) oX8_doubles (Nat.le_of_ble_eq_true rfl) (fun G C B => ?_)
  refine x_lay [(q_a, (a0, cI Y n (iF f)))] (lay_cons e0 lay_nil) ?_
  have h0 : f 0 < 256 := by rw [hf 0 (by omega)]; exact byW_lt _ _ _
  refine x_run C 0 2 (pc' := 2) (lv' := [(0, .ref a0), (1, .int 0)]) (st' := [.int 0, .ref a0]) rfl ?_
  refine x_st (st' := [.int (nI 0), .ref a0]) (by simp only [nlit, nI_add, pk_mul]) ?_
  refine x_ialdN C 2 rfl N 0 rfl (by omega) (by omega) ?_
  refine x_st (st' := [.int (nI (f 0))]) rfl ?_
  refine x_run C 3 5 (pc' := 9) (lv' := [(3, .int 0), (2, .int (jshr (nI (f 0)) 7)), (0, .ref a0), (1, .int 0)]) (st' := []) rfl ?_
  have L9 : ∀ i : Nat, 0 ≤ i → i ≤ 16 → X G Y 0 0 9 [(0, .ref a0), (1, .int 0), (2, .int (jshr (nI (f 0)) 7)), (3, .int (nI i))] [] (ovl w [(q_a, (a0, cI Y n (iF (filN f 0 i (dbB f)))))]) := by
    intro i lo9 hi9
    revert lo9
    refine x_up (fun i => 0 ≤ i → X G Y 0 0 9 [(0, .ref a0), (1, .int 0), (2, .int (jshr (nI (f 0)) 7)), (3, .int (nI i))] [] (ovl w [(q_a, (a0, cI Y n (iF (filN f 0 i (dbB f)))))])) 16 ?_ ?_ i hi9
    · intro lo9
      refine x_run C 8 2 (pc' := 12) (lv' := [(0, .ref a0), (1, .int 0), (2, .int (jshr (nI (f 0)) 7)), (3, .int (nI 16))]) (st' := [.int 16, .int (nI 16)]) rfl ?_
      refine x_st (st' := [.int (nI 16), .int (nI 16)]) (by simp only [nlit, nI_add, pk_mul]) ?_
      refine x_icmpN_ge C 10 (by omega) (by omega) rfl (tgt := 62) rfl (fun hc1 => ?_) (fun hc1 => ?_)
      · refine x_run C 44 5 (pc' := 68) (lv' := [(0, .ref a0), (1, .int 0), (2, .int (jshr (nI (f 0)) 7)), (3, .int (nI 16))]) (st' := [.int (0 + 15), .ref a0, .int (0 + 15), .ref a0]) rfl ?_
        refine x_st (st' := [.int (nI (0 + 15)), .ref a0, .int (0 + 15), .ref a0]) (by simp only [nlit, nI_add, pk_mul]) ?_
        refine x_ialdN C 49 rfl N 0 rfl (by omega) (by omega) ?_
        refine x_st (st' := [.int (nI ((filN f 0 16 (dbB f)) (0 + 15))), .int (0 + 15), .ref a0]) rfl ?_
        refine x_st (st' := [.int (nI (dbB f (0 + 15))), .int (0 + 15), .ref a0]) (by rw [filN_z (show 0 + 15 < 16 by decide)]) ?_
        refine x_run C 50 2 (pc' := 71) (lv' := [(0, .ref a0), (1, .int 0), (2, .int (jshr (nI (f 0)) 7)), (3, .int (nI 16))]) (st' := [.int 1, .int (jshr (nI (f 0)) 7), .int (nI (dbB f (0 + 15))), .int (0 + 15), .ref a0]) rfl ?_
        refine x_st (st' := [.int (nI 1), .int (jshr (nI (f 0)) 7), .int (nI (dbB f (0 + 15))), .int (0 + 15), .ref a0]) (by simp only [nlit, nI_add, pk_mul]) ?_
        refine x_st (st' := [.int (nI 1), .int (nI ((f 0) / 2 ^ 7)), .int (nI (dbB f (0 + 15))), .int (0 + 15), .ref a0]) (by simp only [nlit, nI_add, pk_mul, jshr_nI (show (f 0) < 2 ^ 31 by (first | omega | exact lt31 hf (by omega))) (show 7 < 32 by decide)]) ?_
        refine x_icmpN_ne C 52 (by omega) (by omega) rfl (tgt := 80) rfl (fun hc2 => ?_) (fun hc2 => ?_)
        · refine x_run C 55 2 (pc' := 82) (lv' := [(0, .ref a0), (1, .int 0), (2, .int (jshr (nI (f 0)) 7)), (3, .int (nI 16))]) (st' := [.int ((nI (dbB f (0 + 15))) ^^^ 0), .int (0 + 15), .ref a0]) rfl ?_
          refine x_st (st' := [.int ((nI (dbB f (0 + 15))) ^^^ 0), .int (nI (0 + 15)), .ref a0]) (by simp only [nlit, nI_add, pk_mul]) ?_
          refine x_st (st' := [.int (nI ((dbB f (0 + 15)) ^^^ 0)), .int (nI (0 + 15)), .ref a0]) (by simp only [nlit, nI_add, pk_mul, nx_xor]) ?_
          refine x_iastN C 57 rfl N 0 rfl (by omega) (by omega) (os' := [(q_a, (a0, cI Y n (upd (iF (filN f 0 16 (dbB f))) (0 + 15) (nI ((dbB f (0 + 15)) ^^^ 0)))))]) rfl ?_
          refine x_ov (os' := [(q_a, (a0, cI Y n (iF (updN (filN f 0 16 (dbB f)) (0 + 15) ((dbB f (0 + 15)) ^^^ 0)))))]) (by rw [upd_iF]) ?_
          exact x_vret C B rfl 58 rfl (Nat.zero_le _) (Nat.zero_le _) ⟨rfl, _, (by first | exact dbl_1 hf (by assumption) | exact dbl_0 hf (by assumption)), rfl⟩
        · refine x_run C 53 2 (pc' := 81) (lv' := [(0, .ref a0), (1, .int 0), (2, .int (jshr (nI (f 0)) 7)), (3, .int (nI 16))]) (st' := [.int 135, .int (nI (dbB f (0 + 15))), .int (0 + 15), .ref a0]) rfl ?_
          refine x_run C 56 1 (pc' := 82) (lv' := [(0, .ref a0), (1, .int 0), (2, .int (jshr (nI (f 0)) 7)), (3, .int (nI 16))]) (st' := [.int ((nI (dbB f (0 + 15))) ^^^ 135), .int (0 + 15), .ref a0]) rfl ?_
          refine x_st (st' := [.int ((nI (dbB f (0 + 15))) ^^^ 135), .int (nI (0 + 15)), .ref a0]) (by simp only [nlit, nI_add, pk_mul]) ?_
          refine x_st (st' := [.int (nI ((dbB f (0 + 15)) ^^^ 135)), .int (nI (0 + 15)), .ref a0]) (by simp only [nlit, nI_add, pk_mul, nx_xor]) ?_
          refine x_iastN C 57 rfl N 0 rfl (by omega) (by omega) (os' := [(q_a, (a0, cI Y n (upd (iF (filN f 0 16 (dbB f))) (0 + 15) (nI ((dbB f (0 + 15)) ^^^ 135)))))]) rfl ?_
          refine x_ov (os' := [(q_a, (a0, cI Y n (iF (updN (filN f 0 16 (dbB f)) (0 + 15) ((dbB f (0 + 15)) ^^^ 135)))))]) (by rw [upd_iF]) ?_
          exact x_vret C B rfl 58 rfl (Nat.zero_le _) (Nat.zero_le _) ⟨rfl, _, (by first | exact dbl_1 hf (by assumption) | exact dbl_0 hf (by assumption)), rfl⟩
      · exact absurd hc1 (by omega)
    · intro i hi9 ih9 lo9
      refine x_run C 8 2 (pc' := 12) (lv' := [(0, .ref a0), (1, .int 0), (2, .int (jshr (nI (f 0)) 7)), (3, .int (nI i))]) (st' := [.int 16, .int (nI i)]) rfl ?_
      refine x_st (st' := [.int (nI 16), .int (nI i)]) (by simp only [nlit, nI_add, pk_mul]) ?_
      refine x_icmpN_ge C 10 (by omega) (by omega) rfl (tgt := 62) rfl (fun hc3 => ?_) (fun hc3 => ?_)
      · exact absurd hc3 (by omega)
      · refine x_run C 11 2 (pc' := 18) (lv' := [(0, .ref a0), (1, .int 0), (2, .int (jshr (nI (f 0)) 7)), (3, .int (nI i))]) (st' := [.int 15, .int (nI i)]) rfl ?_
        refine x_st (st' := [.int (nI 15), .int (nI i)]) (by simp only [nlit, nI_add, pk_mul]) ?_
        refine x_icmpN_ge C 13 (by omega) (by omega) rfl (tgt := 34) rfl (fun hc4 => ?_) (fun hc4 => ?_)
        · refine x_run C 24 10 (pc' := 45) (lv' := [(4, .int 0), (0, .ref a0), (1, .int 0), (2, .int (jshr (nI (f 0)) 7)), (3, .int (nI i))]) (st' := [.int (0 + (nI i)), .ref a0, .int (0 + (nI i)), .ref a0]) rfl ?_
          refine x_st (st' := [.int (nI (0 + i)), .ref a0, .int (0 + (nI i)), .ref a0]) (by simp only [nlit, nI_add, pk_mul]) ?_
          refine x_ialdN C 34 rfl N 0 rfl (by omega) (by omega) ?_
          refine x_st (st' := [.int (nI ((filN f 0 i (dbB f)) (0 + i))), .int (0 + (nI i)), .ref a0]) rfl ?_
          refine x_st (st' := [.int (nI (f (0 + i))), .int (0 + (nI i)), .ref a0]) (by rw [filN_o (Or.inr (by omega))]) ?_
          refine x_run C 35 6 (pc' := 55) (lv' := [(4, .int 0), (0, .ref a0), (1, .int 0), (2, .int (jshr (nI (f 0)) 7)), (3, .int (nI i))]) (st' := [.int (((jshl (nI (f (0 + i))) 1) &&& 255) ||| 0), .int (0 + (nI i)), .ref a0]) rfl ?_
          refine x_st (st' := [.int (((jshl (nI (f (0 + i))) 1) &&& 255) ||| 0), .int (nI (0 + i)), .ref a0]) (by simp only [nlit, nI_add, pk_mul]) ?_
          refine x_st (st' := [.int (nI ((((f (0 + i)) * 2 ^ 1) &&& 255) ||| 0)), .int (nI (0 + i)), .ref a0]) (by simp only [nlit, nI_add, pk_mul, jshl_nI _ (show 1 < 32 by decide), nx_and, nx_or]) ?_
          refine x_iastN C 41 rfl N 0 rfl (by omega) (by omega) (os' := [(q_a, (a0, cI Y n (upd (iF (filN f 0 i (dbB f))) (0 + i) (nI ((((f (0 + i)) * 2 ^ 1) &&& 255) ||| 0)))))]) rfl ?_
          refine x_ov (os' := [(q_a, (a0, cI Y n (iF (updN (filN f 0 i (dbB f)) (0 + i) ((((f (0 + i)) * 2 ^ 1) &&& 255) ||| 0)))))]) (by rw [upd_iF]) ?_
          refine x_run C 42 2 (pc' := 9) (lv' := [(3, .int ((nI i) + 1)), (4, .int 0), (0, .ref a0), (1, .int 0), (2, .int (jshr (nI (f 0)) 7))]) (st' := []) rfl ?_
          refine x_sub (lv' := [(0, .ref a0), (1, .int 0), (2, .int (jshr (nI (f 0)) 7)), (3, .int ((nI i) + 1))]) [2, 3, 4, 0] rfl ?_
          refine x_loc (lv' := [(0, .ref a0), (1, .int 0), (2, .int (jshr (nI (f 0)) 7)), (3, .int (nI (i + 1)))]) (by simp only [nlit, nI_add, pk_mul]) ?_
          refine x_ov (os' := [(q_a, (a0, cI Y n (iF (filN f 0 (i + 1) (dbB f)))))]) (by rw [← filN_s0]; simp only [Nat.zero_add, dbB]; first | rw [if_pos (by omega)] | rw [if_neg (by omega)]) ?_
          exact ih9 (by omega)
        · refine x_run C 14 6 (pc' := 27) (lv' := [(0, .ref a0), (1, .int 0), (2, .int (jshr (nI (f 0)) 7)), (3, .int (nI i))]) (st' := [.int ((0 + (nI i)) + 1), .ref a0]) rfl ?_
          refine x_st (st' := [.int (nI ((0 + i) + 1)), .ref a0]) (by simp only [nlit, nI_add, pk_mul]) ?_
          refine x_ialdN C 20 rfl N 0 rfl (by omega) (by omega) ?_
          refine x_st (st' := [.int (nI ((filN f 0 i (dbB f)) ((0 + i) + 1)))]) rfl ?_
          refine x_st (st' := [.int (nI (f ((0 + i) + 1)))]) (by rw [filN_o (Or.inr (by omega))]) ?_
          refine x_run C 21 3 (pc' := 35) (lv' := [(0, .ref a0), (1, .int 0), (2, .int (jshr (nI (f 0)) 7)), (3, .int (nI i))]) (st' := [.int (jshr (nI (f ((0 + i) + 1))) 7)]) rfl ?_
          refine x_run C 25 9 (pc' := 45) (lv' := [(4, .int (jshr (nI (f ((0 + i) + 1))) 7)), (0, .ref a0), (1, .int 0), (2, .int (jshr (nI (f 0)) 7)), (3, .int (nI i))]) (st' := [.int (0 + (nI i)), .ref a0, .int (0 + (nI i)), .ref a0]) rfl ?_
          refine x_st (st' := [.int (nI (0 + i)), .ref a0, .int (0 + (nI i)), .ref a0]) (by simp only [nlit, nI_add, pk_mul]) ?_
          refine x_ialdN C 34 rfl N 0 rfl (by omega) (by omega) ?_
          refine x_st (st' := [.int (nI ((filN f 0 i (dbB f)) (0 + i))), .int (0 + (nI i)), .ref a0]) rfl ?_
          refine x_st (st' := [.int (nI (f (0 + i))), .int (0 + (nI i)), .ref a0]) (by rw [filN_o (Or.inr (by omega))]) ?_
          refine x_run C 35 6 (pc' := 55) (lv' := [(4, .int (jshr (nI (f ((0 + i) + 1))) 7)), (0, .ref a0), (1, .int 0), (2, .int (jshr (nI (f 0)) 7)), (3, .int (nI i))]) (st' := [.int (((jshl (nI (f (0 + i))) 1) &&& 255) ||| (jshr (nI (f ((0 + i) + 1))) 7)), .int (0 + (nI i)), .ref a0]) rfl ?_
          refine x_st (st' := [.int (((jshl (nI (f (0 + i))) 1) &&& 255) ||| (jshr (nI (f ((0 + i) + 1))) 7)), .int (nI (0 + i)), .ref a0]) (by simp only [nlit, nI_add, pk_mul]) ?_
          refine x_st (st' := [.int (nI ((((f (0 + i)) * 2 ^ 1) &&& 255) ||| ((f ((0 + i) + 1)) / 2 ^ 7))), .int (nI (0 + i)), .ref a0]) (by simp only [nlit, nI_add, pk_mul, jshl_nI _ (show 1 < 32 by decide), nx_and, jshr_nI (show f ((0 + i) + 1) < 2 ^ 31 by (first | omega | exact lt31 hf (by omega))) (show 7 < 32 by decide), nx_or]) ?_
          refine x_iastN C 41 rfl N 0 rfl (by omega) (by omega) (os' := [(q_a, (a0, cI Y n (upd (iF (filN f 0 i (dbB f))) (0 + i) (nI ((((f (0 + i)) * 2 ^ 1) &&& 255) ||| ((f ((0 + i) + 1)) / 2 ^ 7))))))]) rfl ?_
          refine x_ov (os' := [(q_a, (a0, cI Y n (iF (updN (filN f 0 i (dbB f)) (0 + i) ((((f (0 + i)) * 2 ^ 1) &&& 255) ||| ((f ((0 + i) + 1)) / 2 ^ 7))))))]) (by rw [upd_iF]) ?_
          refine x_run C 42 2 (pc' := 9) (lv' := [(3, .int ((nI i) + 1)), (4, .int (jshr (nI (f ((0 + i) + 1))) 7)), (0, .ref a0), (1, .int 0), (2, .int (jshr (nI (f 0)) 7))]) (st' := []) rfl ?_
          refine x_sub (lv' := [(0, .ref a0), (1, .int 0), (2, .int (jshr (nI (f 0)) 7)), (3, .int ((nI i) + 1))]) [2, 3, 4, 0] rfl ?_
          refine x_loc (lv' := [(0, .ref a0), (1, .int 0), (2, .int (jshr (nI (f 0)) 7)), (3, .int (nI (i + 1)))]) (by simp only [nlit, nI_add, pk_mul]) ?_
          refine x_ov (os' := [(q_a, (a0, cI Y n (iF (filN f 0 (i + 1) (dbB f)))))]) (by rw [← filN_s0]; simp only [Nat.zero_add, dbB]; first | rw [if_pos (by omega)] | rw [if_neg (by omega)]) ?_
          exact ih9 (by omega)
  refine x_sub (lv' := [(0, .ref a0), (1, .int 0), (2, .int (jshr (nI (f 0)) 7)), (3, .int 0)]) [2, 3, 1, 0] rfl ?_
  refine x_loc (lv' := [(0, .ref a0), (1, .int 0), (2, .int (jshr (nI (f 0)) 7)), (3, .int (nI 0))]) (by simp only [nlit, nI_add, pk_mul]) ?_
  refine x_ov (os' := [(q_a, (a0, cI Y n (iF (filN f 0 0 (dbB f)))))]) (by rw [filN_0]) ?_
  exact L9 0 (Nat.le_refl _) (by omega)
set_option maxHeartbeats 4000000 in
set_option maxRecDepth 100000 in
theorem c_X8_hashes (Y : xD) (w : va_W) (o0 : Nat) (A : Nat → Nat) (th : Int32) (su : Int32) (sz : Nat) (bl : Int32) (ci : Nat) (ma : Nat) (pa : Int32) (en : Int32) (wr : Int32) (mk : Nat → Nat) (b : Nat → Nat) (rk : Nat → Nat) (o : Nat → Nat) (hh : Nat → Nat) (ks : Nat → Int32) (h : Int64) (l : Int64) (t : Int32) (qm q_mask q_block q_rounds q_box q_other q_hash : Nat) (e0 : w[qm]? = some (o0, cO 8 (mo A th su (nI sz) bl (nI ci) (nI ma) pa en wr))) (e1 : w[q_mask]? = some (A 27, cI Y 16 (iF mk))) (e2 : w[q_block]? = some (A 4, cI Y 16 (iF b))) (e3 : w[q_rounds]? = some (A 3, cI Y 176 (iF rk))) (e4 : w[q_box]? = some (A 2, cI Y 256 (iF sN))) (e5 : w[q_other]? = some (A 5, cI Y 16 (iF o))) (e6 : w[q_hash]? = some (A 29, cI Y 16 (iF hh))) (N : xN w.length [qm, q_mask, q_block, q_rounds, q_box, q_other, q_hash]) (hm : ∀ j, j < 16 → mk j = byW h l j) (hky : ∀ j, j < 176 → rk j = kb ks j) : Ct Y mX8_hashes 2 0 0 [.ref o0, .int t] w (fun v w' => v = none ∧ ∃ (mk' : Nat → Nat) (b' : Nat → Nat) (o' : Nat → Nat) (hh' : Nat → Nat), (∀ j, j < 16 → hh' j = byW (hsh ks h l t).1 (hsh ks h l t).2 j) ∧ w' = ovl w [(qm, (o0, cO 8 (mo A th su (nI sz) (bl + 1) (nI ci) (nI ma) pa en wr))), (q_mask, (A 27, cI Y 16 (iF mk'))), (q_block, (A 4, cI Y 16 (iF b'))), (q_rounds, (A 3, cI Y 176 (iF rk))), (q_box, (A 2, cI Y 256 (iF sN))), (q_other, (A 5, cI Y 16 (iF o'))), (q_hash, (A 29, cI Y 16 (iF hh')))]) := by
  refine Ct.intro (T := tX8_hashes) (by decide) oX8_hashes (Nat.le_of_ble_eq_true rfl) (fun G C B => ?_)
  refine x_lay [(qm, (o0, cO 8 (mo A th su (nI sz) bl (nI ci) (nI ma) pa en wr))), (q_mask, (A 27, cI Y 16 (iF mk))), (q_block, (A 4, cI Y 16 (iF b))), (q_rounds, (A 3, cI Y 176 (iF rk))), (q_box, (A 2, cI Y 256 (iF sN))), (q_other, (A 5, cI Y 16 (iF o))), (q_hash, (A 29, cI Y 16 (iF hh)))] (lay_cons e0 (lay_cons e1 (lay_cons e2 (lay_cons e3 (lay_cons e4 (lay_cons e5 (lay_cons e6 lay_nil))))))) ?_
  refine x_run C 0 2 (pc' := 2) (lv' := [(2, .int 0), (0, .ref o0), (1, .int t)]) (st' := []) rfl ?_
  have L2 : ∀ k : Nat, 0 ≤ k → k ≤ 4 → X G Y 0 0 2 [(0, .ref o0), (1, .int t), (2, .int (nI k))] [] (ovl w [(qm, (o0, cO 8 (mo A th su (nI sz) bl (nI ci) (nI ma) pa en wr))), (q_mask, (A 27, cI Y 16 (iF (filN mk 12 k (fun k => mk (12 + k) ^^^ b32 t k))))), (q_block, (A 4, cI Y 16 (iF b))), (q_rounds, (A 3, cI Y 176 (iF rk))), (q_box, (A 2, cI Y 256 (iF sN))), (q_other, (A 5, cI Y 16 (iF o))), (q_hash, (A 29, cI Y 16 (iF hh)))]) := by
    intro k lo2 hi2
    revert lo2
    refine x_up (fun k => 0 ≤ k → X G Y 0 0 2 [(0, .ref o0), (1, .int t), (2, .int (nI k))] [] (ovl w [(qm, (o0, cO 8 (mo A th su (nI sz) bl (nI ci) (nI ma) pa en wr))), (q_mask, (A 27, cI Y 16 (iF (filN mk 12 k (fun k => mk (12 + k) ^^^ b32 t k))))), (q_block, (A 4, cI Y 16 (iF b))), (q_rounds, (A 3, cI Y 176 (iF rk))), (q_box, (A 2, cI Y 256 (iF sN))), (q_other, (A 5, cI Y 16 (iF o))), (q_hash, (A 29, cI Y 16 (iF hh)))])) 4 ?_ ?_ k hi2
    · intro lo2
      refine x_run C 2 2 (pc' := 4) (lv' := [(0, .ref o0), (1, .int t), (2, .int (nI 4))]) (st' := [.int 4, .int (nI 4)]) rfl ?_
      refine x_st (st' := [.int (nI 4), .int (nI 4)]) (by simp only [nlit, nI_add, pk_mul]) ?_
      refine x_icmpN_ge C 4 (by omega) (by omega) rfl (tgt := 38) rfl (fun hc1 => ?_) (fun hc1 => ?_)
      · refine x_run C 25 2 (pc' := 40) (lv' := [(2, .int 0), (0, .ref o0), (1, .int t)]) (st' := []) rfl ?_
        have L40 : ∀ i : Nat, 0 ≤ i → i ≤ 16 → X G Y 0 0 40 [(0, .ref o0), (1, .int t), (2, .int (nI i))] [] (ovl w [(qm, (o0, cO 8 (mo A th su (nI sz) bl (nI ci) (nI ma) pa en wr))), (q_mask, (A 27, cI Y 16 (iF (filN mk 12 4 (fun k => mk (12 + k) ^^^ b32 t k))))), (q_block, (A 4, cI Y 16 (iF (filN b 0 i (filN mk 12 4 (fun k => mk (12 + k) ^^^ b32 t k)))))), (q_rounds, (A 3, cI Y 176 (iF rk))), (q_box, (A 2, cI Y 256 (iF sN))), (q_other, (A 5, cI Y 16 (iF o))), (q_hash, (A 29, cI Y 16 (iF hh)))]) := by
          intro i lo40 hi40
          revert lo40
          refine x_up (fun i => 0 ≤ i → X G Y 0 0 40 [(0, .ref o0), (1, .int t), (2, .int (nI i))] [] (ovl w [(qm, (o0, cO 8 (mo A th su (nI sz) bl (nI ci) (nI ma) pa en wr))), (q_mask, (A 27, cI Y 16 (iF (filN mk 12 4 (fun k => mk (12 + k) ^^^ b32 t k))))), (q_block, (A 4, cI Y 16 (iF (filN b 0 i (filN mk 12 4 (fun k => mk (12 + k) ^^^ b32 t k)))))), (q_rounds, (A 3, cI Y 176 (iF rk))), (q_box, (A 2, cI Y 256 (iF sN))), (q_other, (A 5, cI Y 16 (iF o))), (q_hash, (A 29, cI Y 16 (iF hh)))])) 16 ?_ ?_ i hi40
          · intro lo40
            refine x_run C 27 2 (pc' := 43) (lv' := [(0, .ref o0), (1, .int t), (2, .int (nI 16))]) (st' := [.int 16, .int (nI 16)]) rfl ?_
            refine x_st (st' := [.int (nI 16), .int (nI 16)]) (by simp only [nlit, nI_add, pk_mul]) ?_
            refine x_icmpN_ge C 29 (by omega) (by omega) rfl (tgt := 64) rfl (fun hc2 => ?_) (fun hc2 => ?_)
            · refine x_run C 40 1 (pc' := 65) (lv' := [(0, .ref o0), (1, .int t), (2, .int (nI 16))]) (st' := [.ref o0]) rfl ?_
              refine x_callV C 41 (As := []) (rest := []) rfl vX8_124 (ovl_at 0 N rfl) rfl (c_X8_ciphers Y _ o0 A th su sz bl ci ma pa en wr (filN b 0 16 (filN mk 12 4 (fun k => mk (12 + k) ^^^ b32 t k))) rk o ks h (hK l t) qm q_block q_rounds q_box q_other (ovl_at 0 N rfl) (ovl_at 2 N rfl) (ovl_at 3 N rfl) (ovl_at 4 N rfl) (ovl_at 5 N rfl) (N.ov [0, 2, 3, 4, 5] (by decide) rfl) (fun j hj => (filN_z hj).trans (msk_B hm hj)) hky) rfl rfl (Nat.le_of_ble_eq_true rfl) ⟨(Nat.le_of_ble_eq_true rfl), (Nat.le_of_ble_eq_true rfl)⟩ ⟨Nat.zero_le _, Nat.zero_le _⟩ (fun v w_1 hp => ?_)
              obtain ⟨rfl, b'_1, o'_1, hb_1, rfl⟩ := hp
              refine x_mer N [0, 2, 3, 4, 5] ⟨rfl, rfl, rfl, rfl, rfl, trivial⟩ (os' := [(qm, (o0, cO 8 (mo A th su (nI sz) (bl + 1) (nI ci) (nI ma) pa en wr))), (q_mask, (A 27, cI Y 16 (iF (filN mk 12 4 (fun k => mk (12 + k) ^^^ b32 t k))))), (q_block, (A 4, cI Y 16 (iF b'_1))), (q_rounds, (A 3, cI Y 176 (iF rk))), (q_box, (A 2, cI Y 256 (iF sN))), (q_other, (A 5, cI Y 16 (iF o'_1))), (q_hash, (A 29, cI Y 16 (iF hh)))]) rfl ?_
              refine x_st (st' := []) rfl ?_
              refine x_run C 42 2 (pc' := 70) (lv' := [(2, .int 0), (0, .ref o0), (1, .int t)]) (st' := []) rfl ?_
              have L70 : ∀ i : Nat, 0 ≤ i → i ≤ 16 → X G Y 0 0 70 [(0, .ref o0), (1, .int t), (2, .int (nI i))] [] (ovl w [(qm, (o0, cO 8 (mo A th su (nI sz) (bl + 1) (nI ci) (nI ma) pa en wr))), (q_mask, (A 27, cI Y 16 (iF (filN mk 12 4 (fun k => mk (12 + k) ^^^ b32 t k))))), (q_block, (A 4, cI Y 16 (iF b'_1))), (q_rounds, (A 3, cI Y 176 (iF rk))), (q_box, (A 2, cI Y 256 (iF sN))), (q_other, (A 5, cI Y 16 (iF o'_1))), (q_hash, (A 29, cI Y 16 (iF (filN hh 0 i (fun j => b'_1 j ^^^ (filN mk 12 4 (fun k => mk (12 + k) ^^^ b32 t k)) j)))))]) := by
                intro i lo70 hi70
                revert lo70
                refine x_up (fun i => 0 ≤ i → X G Y 0 0 70 [(0, .ref o0), (1, .int t), (2, .int (nI i))] [] (ovl w [(qm, (o0, cO 8 (mo A th su (nI sz) (bl + 1) (nI ci) (nI ma) pa en wr))), (q_mask, (A 27, cI Y 16 (iF (filN mk 12 4 (fun k => mk (12 + k) ^^^ b32 t k))))), (q_block, (A 4, cI Y 16 (iF b'_1))), (q_rounds, (A 3, cI Y 176 (iF rk))), (q_box, (A 2, cI Y 256 (iF sN))), (q_other, (A 5, cI Y 16 (iF o'_1))), (q_hash, (A 29, cI Y 16 (iF (filN hh 0 i (fun j => b'_1 j ^^^ (filN mk 12 4 (fun k => mk (12 + k) ^^^ b32 t k)) j)))))])) 16 ?_ ?_ i hi70
                · intro lo70
                  refine x_run C 44 2 (pc' := 73) (lv' := [(0, .ref o0), (1, .int t), (2, .int (nI 16))]) (st' := [.int 16, .int (nI 16)]) rfl ?_
                  refine x_st (st' := [.int (nI 16), .int (nI 16)]) (by simp only [nlit, nI_add, pk_mul]) ?_
                  refine x_icmpN_ge C 46 (by omega) (by omega) rfl (tgt := 101) rfl (fun hc3 => ?_) (fun hc3 => ?_)
                  · exact x_vret C B rfl 62 rfl (Nat.zero_le _) (Nat.zero_le _) ⟨rfl, _, _, _, _, hsh_B hb_1 (fun j hj => msk_B hm hj), rfl⟩
                  · exact absurd hc3 (by omega)
                · intro i hi70 ih70 lo70
                  refine x_run C 44 2 (pc' := 73) (lv' := [(0, .ref o0), (1, .int t), (2, .int (nI i))]) (st' := [.int 16, .int (nI i)]) rfl ?_
                  refine x_st (st' := [.int (nI 16), .int (nI i)]) (by simp only [nlit, nI_add, pk_mul]) ?_
                  refine x_icmpN_ge C 46 (by omega) (by omega) rfl (tgt := 101) rfl (fun hc4 => ?_) (fun hc4 => ?_)
                  · exact absurd hc4 (by omega)
                  · refine x_run C 47 1 (pc' := 77) (lv' := [(0, .ref o0), (1, .int t), (2, .int (nI i))]) (st' := [.ref o0]) rfl ?_
                    refine x_get C 48 rfl fX8_98 N 0 rfl (v := .ref (A 29)) rfl ?_
                    refine x_run C 49 2 (pc' := 82) (lv' := [(0, .ref o0), (1, .int t), (2, .int (nI i))]) (st' := [.ref o0, .int (nI i), .ref (A 29)]) rfl ?_
                    refine x_get C 51 rfl fX8_22 N 0 rfl (v := .ref (A 4)) rfl ?_
                    refine x_run C 52 1 (pc' := 86) (lv' := [(0, .ref o0), (1, .int t), (2, .int (nI i))]) (st' := [.int (nI i), .ref (A 4), .int (nI i), .ref (A 29)]) rfl ?_
                    refine x_ialdN C 53 rfl N 2 rfl (by omega) (by omega) ?_
                    refine x_st (st' := [.int (nI (b'_1 i)), .int (nI i), .ref (A 29)]) rfl ?_
                    refine x_run C 54 1 (pc' := 88) (lv' := [(0, .ref o0), (1, .int t), (2, .int (nI i))]) (st' := [.ref o0, .int (nI (b'_1 i)), .int (nI i), .ref (A 29)]) rfl ?_
                    refine x_get C 55 rfl fX8_92 N 0 rfl (v := .ref (A 27)) rfl ?_
                    refine x_run C 56 1 (pc' := 92) (lv' := [(0, .ref o0), (1, .int t), (2, .int (nI i))]) (st' := [.int (nI i), .ref (A 27), .int (nI (b'_1 i)), .int (nI i), .ref (A 29)]) rfl ?_
                    refine x_ialdN C 57 rfl N 1 rfl (by omega) (by omega) ?_
                    refine x_st (st' := [.int (nI ((filN mk 12 4 (fun k => mk (12 + k) ^^^ b32 t k)) i)), .int (nI (b'_1 i)), .int (nI i), .ref (A 29)]) rfl ?_
                    refine x_run C 58 1 (pc' := 94) (lv' := [(0, .ref o0), (1, .int t), (2, .int (nI i))]) (st' := [.int ((nI (b'_1 i)) ^^^ (nI ((filN mk 12 4 (fun k => mk (12 + k) ^^^ b32 t k)) i))), .int (nI i), .ref (A 29)]) rfl ?_
                    refine x_st (st' := [.int (nI ((b'_1 i) ^^^ ((filN mk 12 4 (fun k => mk (12 + k) ^^^ b32 t k)) i))), .int (nI i), .ref (A 29)]) (by simp only [nlit, nI_add, pk_mul, nx_xor]) ?_
                    refine x_iastN C 59 rfl N 6 rfl (by omega) (by omega) (os' := [(qm, (o0, cO 8 (mo A th su (nI sz) (bl + 1) (nI ci) (nI ma) pa en wr))), (q_mask, (A 27, cI Y 16 (iF (filN mk 12 4 (fun k => mk (12 + k) ^^^ b32 t k))))), (q_block, (A 4, cI Y 16 (iF b'_1))), (q_rounds, (A 3, cI Y 176 (iF rk))), (q_box, (A 2, cI Y 256 (iF sN))), (q_other, (A 5, cI Y 16 (iF o'_1))), (q_hash, (A 29, cI Y 16 (upd (iF (filN hh 0 i (fun j => b'_1 j ^^^ (filN mk 12 4 (fun k => mk (12 + k) ^^^ b32 t k)) j))) i (nI ((b'_1 i) ^^^ ((filN mk 12 4 (fun k => mk (12 + k) ^^^ b32 t k)) i))))))]) rfl ?_
                    refine x_ov (os' := [(qm, (o0, cO 8 (mo A th su (nI sz) (bl + 1) (nI ci) (nI ma) pa en wr))), (q_mask, (A 27, cI Y 16 (iF (filN mk 12 4 (fun k => mk (12 + k) ^^^ b32 t k))))), (q_block, (A 4, cI Y 16 (iF b'_1))), (q_rounds, (A 3, cI Y 176 (iF rk))), (q_box, (A 2, cI Y 256 (iF sN))), (q_other, (A 5, cI Y 16 (iF o'_1))), (q_hash, (A 29, cI Y 16 (iF (updN (filN hh 0 i (fun j => b'_1 j ^^^ (filN mk 12 4 (fun k => mk (12 + k) ^^^ b32 t k)) j)) i ((b'_1 i) ^^^ ((filN mk 12 4 (fun k => mk (12 + k) ^^^ b32 t k)) i))))))]) (by rw [upd_iF]) ?_
                    refine x_run C 60 2 (pc' := 70) (lv' := [(2, .int ((nI i) + 1)), (0, .ref o0), (1, .int t)]) (st' := []) rfl ?_
                    refine x_sub (lv' := [(0, .ref o0), (1, .int t), (2, .int ((nI i) + 1))]) [1, 2, 0] rfl ?_
                    refine x_loc (lv' := [(0, .ref o0), (1, .int t), (2, .int (nI (i + 1)))]) (by simp only [nlit, nI_add, pk_mul]) ?_
                    refine x_ov (os' := [(qm, (o0, cO 8 (mo A th su (nI sz) (bl + 1) (nI ci) (nI ma) pa en wr))), (q_mask, (A 27, cI Y 16 (iF (filN mk 12 4 (fun k => mk (12 + k) ^^^ b32 t k))))), (q_block, (A 4, cI Y 16 (iF b'_1))), (q_rounds, (A 3, cI Y 176 (iF rk))), (q_box, (A 2, cI Y 256 (iF sN))), (q_other, (A 5, cI Y 16 (iF o'_1))), (q_hash, (A 29, cI Y 16 (iF (filN hh 0 (i + 1) (fun j => b'_1 j ^^^ (filN mk 12 4 (fun k => mk (12 + k) ^^^ b32 t k)) j)))))]) (by rw [← filN_s0]) ?_
                    exact ih70 (by omega)
              refine x_sub (lv' := [(0, .ref o0), (1, .int t), (2, .int 0)]) [1, 2, 0] rfl ?_
              refine x_loc (lv' := [(0, .ref o0), (1, .int t), (2, .int (nI 0))]) (by simp only [nlit, nI_add, pk_mul]) ?_
              refine x_ov (os' := [(qm, (o0, cO 8 (mo A th su (nI sz) (bl + 1) (nI ci) (nI ma) pa en wr))), (q_mask, (A 27, cI Y 16 (iF (filN mk 12 4 (fun k => mk (12 + k) ^^^ b32 t k))))), (q_block, (A 4, cI Y 16 (iF b'_1))), (q_rounds, (A 3, cI Y 176 (iF rk))), (q_box, (A 2, cI Y 256 (iF sN))), (q_other, (A 5, cI Y 16 (iF o'_1))), (q_hash, (A 29, cI Y 16 (iF (filN hh 0 0 (fun j => b'_1 j ^^^ (filN mk 12 4 (fun k => mk (12 + k) ^^^ b32 t k)) j)))))]) (by rw [filN_0]) ?_
              exact L70 0 (Nat.le_refl _) (by omega)
            · exact absurd hc2 (by omega)
          · intro i hi40 ih40 lo40
            refine x_run C 27 2 (pc' := 43) (lv' := [(0, .ref o0), (1, .int t), (2, .int (nI i))]) (st' := [.int 16, .int (nI i)]) rfl ?_
            refine x_st (st' := [.int (nI 16), .int (nI i)]) (by simp only [nlit, nI_add, pk_mul]) ?_
            refine x_icmpN_ge C 29 (by omega) (by omega) rfl (tgt := 64) rfl (fun hc5 => ?_) (fun hc5 => ?_)
            · exact absurd hc5 (by omega)
            · refine x_run C 30 1 (pc' := 47) (lv' := [(0, .ref o0), (1, .int t), (2, .int (nI i))]) (st' := [.ref o0]) rfl ?_
              refine x_get C 31 rfl fX8_22 N 0 rfl (v := .ref (A 4)) rfl ?_
              refine x_run C 32 2 (pc' := 52) (lv' := [(0, .ref o0), (1, .int t), (2, .int (nI i))]) (st' := [.ref o0, .int (nI i), .ref (A 4)]) rfl ?_
              refine x_get C 34 rfl fX8_92 N 0 rfl (v := .ref (A 27)) rfl ?_
              refine x_run C 35 1 (pc' := 56) (lv' := [(0, .ref o0), (1, .int t), (2, .int (nI i))]) (st' := [.int (nI i), .ref (A 27), .int (nI i), .ref (A 4)]) rfl ?_
              refine x_ialdN C 36 rfl N 1 rfl (by omega) (by omega) ?_
              refine x_st (st' := [.int (nI ((filN mk 12 4 (fun k => mk (12 + k) ^^^ b32 t k)) i)), .int (nI i), .ref (A 4)]) rfl ?_
              refine x_iastN C 37 rfl N 2 rfl (by omega) (by omega) (os' := [(qm, (o0, cO 8 (mo A th su (nI sz) bl (nI ci) (nI ma) pa en wr))), (q_mask, (A 27, cI Y 16 (iF (filN mk 12 4 (fun k => mk (12 + k) ^^^ b32 t k))))), (q_block, (A 4, cI Y 16 (upd (iF (filN b 0 i (filN mk 12 4 (fun k => mk (12 + k) ^^^ b32 t k)))) i (nI ((filN mk 12 4 (fun k => mk (12 + k) ^^^ b32 t k)) i))))), (q_rounds, (A 3, cI Y 176 (iF rk))), (q_box, (A 2, cI Y 256 (iF sN))), (q_other, (A 5, cI Y 16 (iF o))), (q_hash, (A 29, cI Y 16 (iF hh)))]) rfl ?_
              refine x_ov (os' := [(qm, (o0, cO 8 (mo A th su (nI sz) bl (nI ci) (nI ma) pa en wr))), (q_mask, (A 27, cI Y 16 (iF (filN mk 12 4 (fun k => mk (12 + k) ^^^ b32 t k))))), (q_block, (A 4, cI Y 16 (iF (updN (filN b 0 i (filN mk 12 4 (fun k => mk (12 + k) ^^^ b32 t k))) i ((filN mk 12 4 (fun k => mk (12 + k) ^^^ b32 t k)) i))))), (q_rounds, (A 3, cI Y 176 (iF rk))), (q_box, (A 2, cI Y 256 (iF sN))), (q_other, (A 5, cI Y 16 (iF o))), (q_hash, (A 29, cI Y 16 (iF hh)))]) (by rw [upd_iF]) ?_
              refine x_run C 38 2 (pc' := 40) (lv' := [(2, .int ((nI i) + 1)), (0, .ref o0), (1, .int t)]) (st' := []) rfl ?_
              refine x_sub (lv' := [(0, .ref o0), (1, .int t), (2, .int ((nI i) + 1))]) [1, 2, 0] rfl ?_
              refine x_loc (lv' := [(0, .ref o0), (1, .int t), (2, .int (nI (i + 1)))]) (by simp only [nlit, nI_add, pk_mul]) ?_
              refine x_ov (os' := [(qm, (o0, cO 8 (mo A th su (nI sz) bl (nI ci) (nI ma) pa en wr))), (q_mask, (A 27, cI Y 16 (iF (filN mk 12 4 (fun k => mk (12 + k) ^^^ b32 t k))))), (q_block, (A 4, cI Y 16 (iF (filN b 0 (i + 1) (filN mk 12 4 (fun k => mk (12 + k) ^^^ b32 t k)))))), (q_rounds, (A 3, cI Y 176 (iF rk))), (q_box, (A 2, cI Y 256 (iF sN))), (q_other, (A 5, cI Y 16 (iF o))), (q_hash, (A 29, cI Y 16 (iF hh)))]) (by rw [← filN_s0]) ?_
              exact ih40 (by omega)
        refine x_sub (lv' := [(0, .ref o0), (1, .int t), (2, .int 0)]) [1, 2, 0] rfl ?_
        refine x_loc (lv' := [(0, .ref o0), (1, .int t), (2, .int (nI 0))]) (by simp only [nlit, nI_add, pk_mul]) ?_
        refine x_ov (os' := [(qm, (o0, cO 8 (mo A th su (nI sz) bl (nI ci) (nI ma) pa en wr))), (q_mask, (A 27, cI Y 16 (iF (filN mk 12 4 (fun k => mk (12 + k) ^^^ b32 t k))))), (q_block, (A 4, cI Y 16 (iF (filN b 0 0 (filN mk 12 4 (fun k => mk (12 + k) ^^^ b32 t k)))))), (q_rounds, (A 3, cI Y 176 (iF rk))), (q_box, (A 2, cI Y 256 (iF sN))), (q_other, (A 5, cI Y 16 (iF o))), (q_hash, (A 29, cI Y 16 (iF hh)))]) (by rw [filN_0]) ?_
        exact L40 0 (Nat.le_refl _) (by omega)
      · exact absurd hc1 (by omega)
    · intro k hi2 ih2 lo2
      refine x_run C 2 2 (pc' := 4) (lv' := [(0, .ref o0), (1, .int t), (2, .int (nI k))]) (st' := [.int 4, .int (nI k)]) rfl ?_
      refine x_st (st' := [.int (nI 4), .int (nI k)]) (by simp only [nlit, nI_add, pk_mul]) ?_
      refine x_icmpN_ge C 4 (by omega) (by omega) rfl (tgt := 38) rfl (fun hc6 => ?_) (fun hc6 => ?_)
      · exact absurd hc6 (by omega)
      · refine x_run C 5 1 (pc' := 8) (lv' := [(0, .ref o0), (1, .int t), (2, .int (nI k))]) (st' := [.ref o0]) rfl ?_
        refine x_get C 6 rfl fX8_92 N 0 rfl (v := .ref (A 27)) rfl ?_
        refine x_run C 7 4 (pc' := 16) (lv' := [(0, .ref o0), (1, .int t), (2, .int (nI k))]) (st' := [.int (12 + (nI k)), .ref (A 27), .int (12 + (nI k)), .ref (A 27)]) rfl ?_
        refine x_st (st' := [.int (nI (12 + k)), .ref (A 27), .int (12 + (nI k)), .ref (A 27)]) (by simp only [nlit, nI_add, pk_mul]) ?_
        refine x_ialdN C 11 rfl N 1 rfl (by omega) (by omega) ?_
        refine x_st (st' := [.int (nI ((filN mk 12 k (fun k => mk (12 + k) ^^^ b32 t k)) (12 + k))), .int (12 + (nI k)), .ref (A 27)]) rfl ?_
        refine x_st (st' := [.int (nI (mk (12 + k))), .int (12 + (nI k)), .ref (A 27)]) (by rw [filN_o (Or.inr (by omega))]) ?_
        refine x_run C 12 9 (pc' := 30) (lv' := [(0, .ref o0), (1, .int t), (2, .int (nI k))]) (st' := [.int ((jshr t (24 - (8 * (nI k)))) &&& 255), .int (nI (mk (12 + k))), .int (12 + (nI k)), .ref (A 27)]) rfl ?_
        refine x_st (st' := [.int (nI (b32 t k)), .int (nI (mk (12 + k))), .int (12 + (nI k)), .ref (A 27)]) (by rw [twk t (by omega)]) ?_
        refine x_run C 21 1 (pc' := 31) (lv' := [(0, .ref o0), (1, .int t), (2, .int (nI k))]) (st' := [.int ((nI (mk (12 + k))) ^^^ (nI (b32 t k))), .int (12 + (nI k)), .ref (A 27)]) rfl ?_
        refine x_st (st' := [.int ((nI (mk (12 + k))) ^^^ (nI (b32 t k))), .int (nI (12 + k)), .ref (A 27)]) (by simp only [nlit, nI_add, pk_mul]) ?_
        refine x_st (st' := [.int (nI ((mk (12 + k)) ^^^ (b32 t k))), .int (nI (12 + k)), .ref (A 27)]) (by simp only [nlit, nI_add, pk_mul, nx_xor]) ?_
        refine x_iastN C 22 rfl N 1 rfl (by omega) (by omega) (os' := [(qm, (o0, cO 8 (mo A th su (nI sz) bl (nI ci) (nI ma) pa en wr))), (q_mask, (A 27, cI Y 16 (upd (iF (filN mk 12 k (fun k => mk (12 + k) ^^^ b32 t k))) (12 + k) (nI ((mk (12 + k)) ^^^ (b32 t k)))))), (q_block, (A 4, cI Y 16 (iF b))), (q_rounds, (A 3, cI Y 176 (iF rk))), (q_box, (A 2, cI Y 256 (iF sN))), (q_other, (A 5, cI Y 16 (iF o))), (q_hash, (A 29, cI Y 16 (iF hh)))]) rfl ?_
        refine x_ov (os' := [(qm, (o0, cO 8 (mo A th su (nI sz) bl (nI ci) (nI ma) pa en wr))), (q_mask, (A 27, cI Y 16 (iF (updN (filN mk 12 k (fun k => mk (12 + k) ^^^ b32 t k)) (12 + k) ((mk (12 + k)) ^^^ (b32 t k)))))), (q_block, (A 4, cI Y 16 (iF b))), (q_rounds, (A 3, cI Y 176 (iF rk))), (q_box, (A 2, cI Y 256 (iF sN))), (q_other, (A 5, cI Y 16 (iF o))), (q_hash, (A 29, cI Y 16 (iF hh)))]) (by rw [upd_iF]) ?_
        refine x_run C 23 2 (pc' := 2) (lv' := [(2, .int ((nI k) + 1)), (0, .ref o0), (1, .int t)]) (st' := []) rfl ?_
        refine x_sub (lv' := [(0, .ref o0), (1, .int t), (2, .int ((nI k) + 1))]) [1, 2, 0] rfl ?_
        refine x_loc (lv' := [(0, .ref o0), (1, .int t), (2, .int (nI (k + 1)))]) (by simp only [nlit, nI_add, pk_mul]) ?_
        refine x_ov (os' := [(qm, (o0, cO 8 (mo A th su (nI sz) bl (nI ci) (nI ma) pa en wr))), (q_mask, (A 27, cI Y 16 (iF (filN mk 12 (k + 1) (fun k => mk (12 + k) ^^^ b32 t k))))), (q_block, (A 4, cI Y 16 (iF b))), (q_rounds, (A 3, cI Y 176 (iF rk))), (q_box, (A 2, cI Y 256 (iF sN))), (q_other, (A 5, cI Y 16 (iF o))), (q_hash, (A 29, cI Y 16 (iF hh)))]) (by rw [← filN_s]) ?_
        exact ih2 (by omega)
  refine x_sub (lv' := [(0, .ref o0), (1, .int t), (2, .int 0)]) [1, 2, 0] rfl ?_
  refine x_loc (lv' := [(0, .ref o0), (1, .int t), (2, .int (nI 0))]) (by simp only [nlit, nI_add, pk_mul]) ?_
  refine x_ov (os' := [(qm, (o0, cO 8 (mo A th su (nI sz) bl (nI ci) (nI ma) pa en wr))), (q_mask, (A 27, cI Y 16 (iF (filN mk 12 0 (fun k => mk (12 + k) ^^^ b32 t k))))), (q_block, (A 4, cI Y 16 (iF b))), (q_rounds, (A 3, cI Y 176 (iF rk))), (q_box, (A 2, cI Y 256 (iF sN))), (q_other, (A 5, cI Y 16 (iF o))), (q_hash, (A 29, cI Y 16 (iF hh)))]) (by rw [filN_0]) ?_
  exact L2 0 (Nat.le_refl _) (by omega)
set_option maxHeartbeats 4000000 in
set_option maxRecDepth 100000 in
theorem c_X8_hashOne (Y : xD) (w : va_W) (o0 : Nat) (A : Nat → Nat) (th : Int32) (su : Int32) (sz : Nat) (bl : Int32) (ci : Nat) (ma : Nat) (pa : Int32) (en : Int32) (wr : Int32) (a0 : Nat) (n : Nat) (f : Nat → Nat) (p : Nat) (mk : Nat → Nat) (b : Nat → Nat) (rk : Nat → Nat) (o : Nat → Nat) (hh : Nat → Nat) (ks : Nat → Int32) (h : Int64) (l : Int64) (t : Int32) (qm q_a q_mask q_block q_rounds q_box q_other q_hash : Nat) (e0 : w[qm]? = some (o0, cO 8 (mo A th su (nI sz) bl (nI ci) (nI ma) pa en wr))) (e1 : w[q_a]? = some (a0, cI Y n (iF f))) (e2 : w[q_mask]? = some (A 27, cI Y 16 (iF mk))) (e3 : w[q_block]? = some (A 4, cI Y 16 (iF b))) (e4 : w[q_rounds]? = some (A 3, cI Y 176 (iF rk))) (e5 : w[q_box]? = some (A 2, cI Y 256 (iF sN))) (e6 : w[q_other]? = some (A 5, cI Y 16 (iF o))) (e7 : w[q_hash]? = some (A 29, cI Y 16 (iF hh))) (N : xN w.length [qm, q_a, q_mask, q_block, q_rounds, q_box, q_other, q_hash]) (hn : p + 16 ≤ n) (hl : n < 2 ^ 31) (hf : ∀ j, j < 16 → f (p + j) = byW h l j) (hky : ∀ j, j < 176 → rk j = kb ks j) : Ct Y mX8_hashOne 3 0 0 [.ref o0, .ref a0, .int (nI p), .int t] w (fun v w' => v = none ∧ ∃ (mk' : Nat → Nat) (b' : Nat → Nat) (o' : Nat → Nat) (hh' : Nat → Nat), (∀ j, j < 16 → hh' j = byW (hs1 ks h l t).1 (hs1 ks h l t).2 j) ∧ w' = ovl w [(qm, (o0, cO 8 (mo A th su (nI sz) (bl + 1) (nI ci) (nI ma) pa en wr))), (q_a, (a0, cI Y n (iF f))), (q_mask, (A 27, cI Y 16 (iF mk'))), (q_block, (A 4, cI Y 16 (iF b'))), (q_rounds, (A 3, cI Y 176 (iF rk))), (q_box, (A 2, cI Y 256 (iF sN))), (q_other, (A 5, cI Y 16 (iF o'))), (q_hash, (A 29, cI Y 16 (iF hh')))]) := by
  refine Ct.intro (T := tX8_hashOne) (by decide) oX8_hashOne (Nat.le_of_ble_eq_true rfl) (fun G C B => ?_)
  refine x_lay [(qm, (o0, cO 8 (mo A th su (nI sz) bl (nI ci) (nI ma) pa en wr))), (q_a, (a0, cI Y n (iF f))), (q_mask, (A 27, cI Y 16 (iF mk))), (q_block, (A 4, cI Y 16 (iF b))), (q_rounds, (A 3, cI Y 176 (iF rk))), (q_box, (A 2, cI Y 256 (iF sN))), (q_other, (A 5, cI Y 16 (iF o))), (q_hash, (A 29, cI Y 16 (iF hh)))] (lay_cons e0 (lay_cons e1 (lay_cons e2 (lay_cons e3 (lay_cons e4 (lay_cons e5 (lay_cons e6 (lay_cons e7 lay_nil)))))))) ?_
  refine x_run C 0 2 (pc' := 3) (lv' := [(4, .int 0), (0, .ref o0), (1, .ref a0), (2, .int (nI p)), (3, .int t)]) (st' := []) rfl ?_
  have L3 : ∀ i : Nat, 0 ≤ i → i ≤ 16 → X G Y 0 0 3 [(0, .ref o0), (1, .ref a0), (2, .int (nI p)), (3, .int t), (4, .int (nI i))] [] (ovl w [(qm, (o0, cO 8 (mo A th su (nI sz) bl (nI ci) (nI ma) pa en wr))), (q_a, (a0, cI Y n (iF f))), (q_mask, (A 27, cI Y 16 (iF (filN mk 0 i (fun j => f (p + j)))))), (q_block, (A 4, cI Y 16 (iF b))), (q_rounds, (A 3, cI Y 176 (iF rk))), (q_box, (A 2, cI Y 256 (iF sN))), (q_other, (A 5, cI Y 16 (iF o))), (q_hash, (A 29, cI Y 16 (iF hh)))]) := by
    intro i lo3 hi3
    revert lo3
    refine x_up (fun i => 0 ≤ i → X G Y 0 0 3 [(0, .ref o0), (1, .ref a0), (2, .int (nI p)), (3, .int t), (4, .int (nI i))] [] (ovl w [(qm, (o0, cO 8 (mo A th su (nI sz) bl (nI ci) (nI ma) pa en wr))), (q_a, (a0, cI Y n (iF f))), (q_mask, (A 27, cI Y 16 (iF (filN mk 0 i (fun j => f (p + j)))))), (q_block, (A 4, cI Y 16 (iF b))), (q_rounds, (A 3, cI Y 176 (iF rk))), (q_box, (A 2, cI Y 256 (iF sN))), (q_other, (A 5, cI Y 16 (iF o))), (q_hash, (A 29, cI Y 16 (iF hh)))])) 16 ?_ ?_ i hi3
    · intro lo3
      refine x_run C 2 2 (pc' := 7) (lv' := [(0, .ref o0), (1, .ref a0), (2, .int (nI p)), (3, .int t), (4, .int (nI 16))]) (st' := [.int 16, .int (nI 16)]) rfl ?_
      refine x_st (st' := [.int (nI 16), .int (nI 16)]) (by simp only [nlit, nI_add, pk_mul]) ?_
      refine x_icmpN_ge C 4 (by omega) (by omega) rfl (tgt := 29) rfl (fun hc1 => ?_) (fun hc1 => ?_)
      · refine x_run C 16 1 (pc' := 30) (lv' := [(0, .ref o0), (1, .ref a0), (2, .int (nI p)), (3, .int t), (4, .int (nI 16))]) (st' := [.ref o0]) rfl ?_
        refine x_get C 17 rfl fX8_92 N 0 rfl (v := .ref (A 27)) rfl ?_
        refine x_run C 18 1 (pc' := 34) (lv' := [(0, .ref o0), (1, .ref a0), (2, .int (nI p)), (3, .int t), (4, .int (nI 16))]) (st' := [.int 0, .ref (A 27)]) rfl ?_
        refine x_callS C 19 (As := [.ref (A 27), .int 0]) (rest := []) rfl vX8_127 (c_X8_doubles Y _ (A 27) 16 (filN mk 0 16 (fun j => f (p + j))) h l q_mask (ovl_at 2 N rfl) (N.ov [2] (by decide) rfl) (Nat.le_refl _) (by decide) (fun j hj => (filN_z hj).trans (hf j hj))) rfl rfl (Nat.le_of_ble_eq_true rfl) ⟨(Nat.le_of_ble_eq_true rfl), (Nat.le_of_ble_eq_true rfl)⟩ ⟨Nat.zero_le _, Nat.zero_le _⟩ (fun v w_1 hp => ?_)
        obtain ⟨rfl, f'_1, hd_1, rfl⟩ := hp
        refine x_mer N [2] ⟨rfl, trivial⟩ (os' := [(qm, (o0, cO 8 (mo A th su (nI sz) bl (nI ci) (nI ma) pa en wr))), (q_a, (a0, cI Y n (iF f))), (q_mask, (A 27, cI Y 16 (iF f'_1))), (q_block, (A 4, cI Y 16 (iF b))), (q_rounds, (A 3, cI Y 176 (iF rk))), (q_box, (A 2, cI Y 256 (iF sN))), (q_other, (A 5, cI Y 16 (iF o))), (q_hash, (A 29, cI Y 16 (iF hh)))]) rfl ?_
        refine x_st (st' := []) rfl ?_
        refine x_run C 20 2 (pc' := 39) (lv' := [(0, .ref o0), (1, .ref a0), (2, .int (nI p)), (3, .int t), (4, .int (nI 16))]) (st' := [.int t, .ref o0]) rfl ?_
        refine x_callV C 22 (As := [.int t]) (rest := []) rfl vX8_131 (ovl_at 0 N rfl) rfl (c_X8_hashes Y _ o0 A th su sz bl ci ma pa en wr f'_1 b rk o hh ks (lbD h l).1 (lbD h l).2 t qm q_mask q_block q_rounds q_box q_other q_hash (ovl_at 0 N rfl) (ovl_at 2 N rfl) (ovl_at 3 N rfl) (ovl_at 4 N rfl) (ovl_at 5 N rfl) (ovl_at 6 N rfl) (ovl_at 7 N rfl) (N.ov [0, 2, 3, 4, 5, 6, 7] (by decide) rfl) hd_1 hky) rfl rfl (Nat.le_of_ble_eq_true rfl) ⟨(Nat.le_of_ble_eq_true rfl), (Nat.le_of_ble_eq_true rfl)⟩ ⟨Nat.zero_le _, Nat.zero_le _⟩ (fun v w_2 hp => ?_)
        obtain ⟨rfl, mk'_2, b'_2, o'_2, hh'_2, hq_2, rfl⟩ := hp
        refine x_mer N [0, 2, 3, 4, 5, 6, 7] ⟨rfl, rfl, rfl, rfl, rfl, rfl, rfl, trivial⟩ (os' := [(qm, (o0, cO 8 (mo A th su (nI sz) (bl + 1) (nI ci) (nI ma) pa en wr))), (q_a, (a0, cI Y n (iF f))), (q_mask, (A 27, cI Y 16 (iF mk'_2))), (q_block, (A 4, cI Y 16 (iF b'_2))), (q_rounds, (A 3, cI Y 176 (iF rk))), (q_box, (A 2, cI Y 256 (iF sN))), (q_other, (A 5, cI Y 16 (iF o'_2))), (q_hash, (A 29, cI Y 16 (iF hh'_2)))]) rfl ?_
        refine x_st (st' := []) rfl ?_
        exact x_vret C B rfl 23 rfl (Nat.zero_le _) (Nat.zero_le _) ⟨rfl, _, _, _, _, hq_2, rfl⟩
      · exact absurd hc1 (by omega)
    · intro i hi3 ih3 lo3
      refine x_run C 2 2 (pc' := 7) (lv' := [(0, .ref o0), (1, .ref a0), (2, .int (nI p)), (3, .int t), (4, .int (nI i))]) (st' := [.int 16, .int (nI i)]) rfl ?_
      refine x_st (st' := [.int (nI 16), .int (nI i)]) (by simp only [nlit, nI_add, pk_mul]) ?_
      refine x_icmpN_ge C 4 (by omega) (by omega) rfl (tgt := 29) rfl (fun hc2 => ?_) (fun hc2 => ?_)
      · exact absurd hc2 (by omega)
      · refine x_run C 5 1 (pc' := 11) (lv' := [(0, .ref o0), (1, .ref a0), (2, .int (nI p)), (3, .int t), (4, .int (nI i))]) (st' := [.ref o0]) rfl ?_
        refine x_get C 6 rfl fX8_92 N 0 rfl (v := .ref (A 27)) rfl ?_
        refine x_run C 7 5 (pc' := 21) (lv' := [(0, .ref o0), (1, .ref a0), (2, .int (nI p)), (3, .int t), (4, .int (nI i))]) (st' := [.int ((nI p) + (nI i)), .ref a0, .int (nI i), .ref (A 27)]) rfl ?_
        refine x_st (st' := [.int (nI (p + i)), .ref a0, .int (nI i), .ref (A 27)]) (by simp only [nlit, nI_add, pk_mul]) ?_
        refine x_ialdN C 12 rfl N 1 rfl (by omega) (by omega) ?_
        refine x_st (st' := [.int (nI (f (p + i))), .int (nI i), .ref (A 27)]) rfl ?_
        refine x_iastN C 13 rfl N 2 rfl (by omega) (by omega) (os' := [(qm, (o0, cO 8 (mo A th su (nI sz) bl (nI ci) (nI ma) pa en wr))), (q_a, (a0, cI Y n (iF f))), (q_mask, (A 27, cI Y 16 (upd (iF (filN mk 0 i (fun j => f (p + j)))) i (nI (f (p + i)))))), (q_block, (A 4, cI Y 16 (iF b))), (q_rounds, (A 3, cI Y 176 (iF rk))), (q_box, (A 2, cI Y 256 (iF sN))), (q_other, (A 5, cI Y 16 (iF o))), (q_hash, (A 29, cI Y 16 (iF hh)))]) rfl ?_
        refine x_ov (os' := [(qm, (o0, cO 8 (mo A th su (nI sz) bl (nI ci) (nI ma) pa en wr))), (q_a, (a0, cI Y n (iF f))), (q_mask, (A 27, cI Y 16 (iF (updN (filN mk 0 i (fun j => f (p + j))) i (f (p + i)))))), (q_block, (A 4, cI Y 16 (iF b))), (q_rounds, (A 3, cI Y 176 (iF rk))), (q_box, (A 2, cI Y 256 (iF sN))), (q_other, (A 5, cI Y 16 (iF o))), (q_hash, (A 29, cI Y 16 (iF hh)))]) (by rw [upd_iF]) ?_
        refine x_run C 14 2 (pc' := 3) (lv' := [(4, .int ((nI i) + 1)), (0, .ref o0), (1, .ref a0), (2, .int (nI p)), (3, .int t)]) (st' := []) rfl ?_
        refine x_sub (lv' := [(0, .ref o0), (1, .ref a0), (2, .int (nI p)), (3, .int t), (4, .int ((nI i) + 1))]) [1, 2, 3, 4, 0] rfl ?_
        refine x_loc (lv' := [(0, .ref o0), (1, .ref a0), (2, .int (nI p)), (3, .int t), (4, .int (nI (i + 1)))]) (by simp only [nlit, nI_add, pk_mul]) ?_
        refine x_ov (os' := [(qm, (o0, cO 8 (mo A th su (nI sz) bl (nI ci) (nI ma) pa en wr))), (q_a, (a0, cI Y n (iF f))), (q_mask, (A 27, cI Y 16 (iF (filN mk 0 (i + 1) (fun j => f (p + j)))))), (q_block, (A 4, cI Y 16 (iF b))), (q_rounds, (A 3, cI Y 176 (iF rk))), (q_box, (A 2, cI Y 256 (iF sN))), (q_other, (A 5, cI Y 16 (iF o))), (q_hash, (A 29, cI Y 16 (iF hh)))]) (by rw [← filN_s0]) ?_
        exact ih3 (by omega)
  refine x_sub (lv' := [(0, .ref o0), (1, .ref a0), (2, .int (nI p)), (3, .int t), (4, .int 0)]) [1, 2, 3, 4, 0] rfl ?_
  refine x_loc (lv' := [(0, .ref o0), (1, .ref a0), (2, .int (nI p)), (3, .int t), (4, .int (nI 0))]) (by simp only [nlit, nI_add, pk_mul]) ?_
  refine x_ov (os' := [(qm, (o0, cO 8 (mo A th su (nI sz) bl (nI ci) (nI ma) pa en wr))), (q_a, (a0, cI Y n (iF f))), (q_mask, (A 27, cI Y 16 (iF (filN mk 0 0 (fun j => f (p + j)))))), (q_block, (A 4, cI Y 16 (iF b))), (q_rounds, (A 3, cI Y 176 (iF rk))), (q_box, (A 2, cI Y 256 (iF sN))), (q_other, (A 5, cI Y 16 (iF o))), (q_hash, (A 29, cI Y 16 (iF hh)))]) (by rw [filN_0]) ?_
  exact L3 0 (Nat.le_refl _) (by omega)
set_option maxHeartbeats 4000000 in
set_option maxRecDepth 100000 in
theorem c_X8_hashTwo (Y : xD) (w : va_W) (o0 : Nat) (A : Nat → Nat) (th : Int32) (su : Int32) (sz : Nat) (bl : Int32) (ci : Nat) (ma : Nat) (pa : Int32) (en : Int32) (wr : Int32) (a0 : Nat) (n : Nat) (f : Nat → Nat) (p : Nat) (c0 : Nat) (n2 : Nat) (g : Nat → Nat) (r : Nat) (mk : Nat → Nat) (b : Nat → Nat) (rk : Nat → Nat) (o : Nat → Nat) (hh : Nat → Nat) (ks : Nat → Int32) (sd : Nat → Nat) (h : Int64) (l : Int64) (h2 : Int64) (l2 : Int64) (t : Int32) (qm q_a q_c q_mask q_block q_rounds q_box q_other q_hash q_second : Nat) (e0 : w[qm]? = some (o0, cO 8 (mo A th su (nI sz) bl (nI ci) (nI ma) pa en wr))) (e1 : w[q_a]? = some (a0, cI Y n (iF f))) (e2 : w[q_c]? = some (c0, cI Y n2 (iF g))) (e3 : w[q_mask]? = some (A 27, cI Y 16 (iF mk))) (e4 : w[q_block]? = some (A 4, cI Y 16 (iF b))) (e5 : w[q_rounds]? = some (A 3, cI Y 176 (iF rk))) (e6 : w[q_box]? = some (A 2, cI Y 256 (iF sN))) (e7 : w[q_other]? = some (A 5, cI Y 16 (iF o))) (e8 : w[q_hash]? = some (A 29, cI Y 16 (iF hh))) (e9 : w[q_second]? = some (A 28, cI Y 16 (iF sd))) (N : xN w.length [qm, q_a, q_c, q_mask, q_block, q_rounds, q_box, q_other, q_hash, q_second]) (hn : p + 16 ≤ n) (hl : n < 2 ^ 31) (hn2 : r + 16 ≤ n2) (hl2 : n2 < 2 ^ 31) (hf : ∀ j, j < 16 → f (p + j) = byW h l j) (hg : ∀ j, j < 16 → g (r + j) = byW h2 l2 j) (hky : ∀ j, j < 176 → rk j = kb ks j) : Ct Y mX8_hashTwo 3 0 0 [.ref o0, .ref a0, .int (nI p), .ref c0, .int (nI r), .int t] w (fun v w' => v = none ∧ ∃ (mk' : Nat → Nat) (b' : Nat → Nat) (o' : Nat → Nat) (hh' : Nat → Nat) (sd' : Nat → Nat), (∀ j, j < 16 → hh' j = byW (hs2 ks h l h2 l2 t).1 (hs2 ks h l h2 l2 t).2 j) ∧ w' = ovl w [(qm, (o0, cO 8 (mo A th su (nI sz) (bl + 1) (nI ci) (nI ma) pa en wr))), (q_a, (a0, cI Y n (iF f))), (q_c, (c0, cI Y n2 (iF g))), (q_mask, (A 27, cI Y 16 (iF mk'))), (q_block, (A 4, cI Y 16 (iF b'))), (q_rounds, (A 3, cI Y 176 (iF rk))), (q_box, (A 2, cI Y 256 (iF sN))), (q_other, (A 5, cI Y 16 (iF o'))), (q_hash, (A 29, cI Y 16 (iF hh'))), (q_second, (A 28, cI Y 16 (iF sd')))]) := by
  refine Ct.intro (T := tX8_hashTwo) (by decide) oX8_hashTwo (Nat.le_of_ble_eq_true rfl) (fun G C B => ?_)
  refine x_lay [(qm, (o0, cO 8 (mo A th su (nI sz) bl (nI ci) (nI ma) pa en wr))), (q_a, (a0, cI Y n (iF f))), (q_c, (c0, cI Y n2 (iF g))), (q_mask, (A 27, cI Y 16 (iF mk))), (q_block, (A 4, cI Y 16 (iF b))), (q_rounds, (A 3, cI Y 176 (iF rk))), (q_box, (A 2, cI Y 256 (iF sN))), (q_other, (A 5, cI Y 16 (iF o))), (q_hash, (A 29, cI Y 16 (iF hh))), (q_second, (A 28, cI Y 16 (iF sd)))] (lay_cons e0 (lay_cons e1 (lay_cons e2 (lay_cons e3 (lay_cons e4 (lay_cons e5 (lay_cons e6 (lay_cons e7 (lay_cons e8 (lay_cons e9 lay_nil)))))))))) ?_
  refine x_run C 0 2 (pc' := 3) (lv' := [(6, .int 0), (0, .ref o0), (1, .ref a0), (2, .int (nI p)), (3, .ref c0), (4, .int (nI r)), (5, .int t)]) (st' := []) rfl ?_
  have L3 : ∀ i : Nat, 0 ≤ i → i ≤ 16 → X G Y 0 0 3 [(0, .ref o0), (1, .ref a0), (2, .int (nI p)), (3, .ref c0), (4, .int (nI r)), (5, .int t), (6, .int (nI i))] [] (ovl w [(qm, (o0, cO 8 (mo A th su (nI sz) bl (nI ci) (nI ma) pa en wr))), (q_a, (a0, cI Y n (iF f))), (q_c, (c0, cI Y n2 (iF g))), (q_mask, (A 27, cI Y 16 (iF (filN mk 0 i (fun j => f (p + j)))))), (q_block, (A 4, cI Y 16 (iF b))), (q_rounds, (A 3, cI Y 176 (iF rk))), (q_box, (A 2, cI Y 256 (iF sN))), (q_other, (A 5, cI Y 16 (iF o))), (q_hash, (A 29, cI Y 16 (iF hh))), (q_second, (A 28, cI Y 16 (iF (filN sd 0 i (fun j => g (r + j))))))]) := by
    intro i lo3 hi3
    revert lo3
    refine x_up (fun i => 0 ≤ i → X G Y 0 0 3 [(0, .ref o0), (1, .ref a0), (2, .int (nI p)), (3, .ref c0), (4, .int (nI r)), (5, .int t), (6, .int (nI i))] [] (ovl w [(qm, (o0, cO 8 (mo A th su (nI sz) bl (nI ci) (nI ma) pa en wr))), (q_a, (a0, cI Y n (iF f))), (q_c, (c0, cI Y n2 (iF g))), (q_mask, (A 27, cI Y 16 (iF (filN mk 0 i (fun j => f (p + j)))))), (q_block, (A 4, cI Y 16 (iF b))), (q_rounds, (A 3, cI Y 176 (iF rk))), (q_box, (A 2, cI Y 256 (iF sN))), (q_other, (A 5, cI Y 16 (iF o))), (q_hash, (A 29, cI Y 16 (iF hh))), (q_second, (A 28, cI Y 16 (iF (filN sd 0 i (fun j => g (r + j))))))])) 16 ?_ ?_ i hi3
    · intro lo3
      refine x_run C 2 2 (pc' := 7) (lv' := [(0, .ref o0), (1, .ref a0), (2, .int (nI p)), (3, .ref c0), (4, .int (nI r)), (5, .int t), (6, .int (nI 16))]) (st' := [.int 16, .int (nI 16)]) rfl ?_
      refine x_st (st' := [.int (nI 16), .int (nI 16)]) (by simp only [nlit, nI_add, pk_mul]) ?_
      refine x_icmpN_ge C 4 (by omega) (by omega) rfl (tgt := 43) rfl (fun hc1 => ?_) (fun hc1 => ?_)
      · refine x_run C 25 1 (pc' := 44) (lv' := [(0, .ref o0), (1, .ref a0), (2, .int (nI p)), (3, .ref c0), (4, .int (nI r)), (5, .int t), (6, .int (nI 16))]) (st' := [.ref o0]) rfl ?_
        refine x_get C 26 rfl fX8_92 N 0 rfl (v := .ref (A 27)) rfl ?_
        refine x_run C 27 1 (pc' := 48) (lv' := [(0, .ref o0), (1, .ref a0), (2, .int (nI p)), (3, .ref c0), (4, .int (nI r)), (5, .int t), (6, .int (nI 16))]) (st' := [.int 0, .ref (A 27)]) rfl ?_
        refine x_callS C 28 (As := [.ref (A 27), .int 0]) (rest := []) rfl vX8_127 (c_X8_doubles Y _ (A 27) 16 (filN mk 0 16 (fun j => f (p + j))) h l q_mask (ovl_at 3 N rfl) (N.ov [3] (by decide) rfl) (Nat.le_refl _) (by decide) (fun j hj => (filN_z hj).trans (hf j hj))) rfl rfl (Nat.le_of_ble_eq_true rfl) ⟨(Nat.le_of_ble_eq_true rfl), (Nat.le_of_ble_eq_true rfl)⟩ ⟨Nat.zero_le _, Nat.zero_le _⟩ (fun v w_1 hp => ?_)
        obtain ⟨rfl, f'_1, hd_1, rfl⟩ := hp
        refine x_mer N [3] ⟨rfl, trivial⟩ (os' := [(qm, (o0, cO 8 (mo A th su (nI sz) bl (nI ci) (nI ma) pa en wr))), (q_a, (a0, cI Y n (iF f))), (q_c, (c0, cI Y n2 (iF g))), (q_mask, (A 27, cI Y 16 (iF f'_1))), (q_block, (A 4, cI Y 16 (iF b))), (q_rounds, (A 3, cI Y 176 (iF rk))), (q_box, (A 2, cI Y 256 (iF sN))), (q_other, (A 5, cI Y 16 (iF o))), (q_hash, (A 29, cI Y 16 (iF hh))), (q_second, (A 28, cI Y 16 (iF (filN sd 0 16 (fun j => g (r + j))))))]) rfl ?_
        refine x_st (st' := []) rfl ?_
        refine x_run C 29 1 (pc' := 52) (lv' := [(0, .ref o0), (1, .ref a0), (2, .int (nI p)), (3, .ref c0), (4, .int (nI r)), (5, .int t), (6, .int (nI 16))]) (st' := [.ref o0]) rfl ?_
        refine x_get C 30 rfl fX8_95 N 0 rfl (v := .ref (A 28)) rfl ?_
        refine x_run C 31 1 (pc' := 56) (lv' := [(0, .ref o0), (1, .ref a0), (2, .int (nI p)), (3, .ref c0), (4, .int (nI r)), (5, .int t), (6, .int (nI 16))]) (st' := [.int 0, .ref (A 28)]) rfl ?_
        refine x_callS C 32 (As := [.ref (A 28), .int 0]) (rest := []) rfl vX8_127 (c_X8_doubles Y _ (A 28) 16 (filN sd 0 16 (fun j => g (r + j))) h2 l2 q_second (ovl_at 9 N rfl) (N.ov [9] (by decide) rfl) (Nat.le_refl _) (by decide) (fun j hj => (filN_z hj).trans (hg j hj))) rfl rfl (Nat.le_of_ble_eq_true rfl) ⟨(Nat.le_of_ble_eq_true rfl), (Nat.le_of_ble_eq_true rfl)⟩ ⟨Nat.zero_le _, Nat.zero_le _⟩ (fun v w_2 hp => ?_)
        obtain ⟨rfl, f'_2, hd_2, rfl⟩ := hp
        refine x_mer N [9] ⟨rfl, trivial⟩ (os' := [(qm, (o0, cO 8 (mo A th su (nI sz) bl (nI ci) (nI ma) pa en wr))), (q_a, (a0, cI Y n (iF f))), (q_c, (c0, cI Y n2 (iF g))), (q_mask, (A 27, cI Y 16 (iF f'_1))), (q_block, (A 4, cI Y 16 (iF b))), (q_rounds, (A 3, cI Y 176 (iF rk))), (q_box, (A 2, cI Y 256 (iF sN))), (q_other, (A 5, cI Y 16 (iF o))), (q_hash, (A 29, cI Y 16 (iF hh))), (q_second, (A 28, cI Y 16 (iF f'_2)))]) rfl ?_
        refine x_st (st' := []) rfl ?_
        refine x_run C 33 1 (pc' := 60) (lv' := [(0, .ref o0), (1, .ref a0), (2, .int (nI p)), (3, .ref c0), (4, .int (nI r)), (5, .int t), (6, .int (nI 16))]) (st' := [.ref o0]) rfl ?_
        refine x_get C 34 rfl fX8_95 N 0 rfl (v := .ref (A 28)) rfl ?_
        refine x_run C 35 1 (pc' := 64) (lv' := [(0, .ref o0), (1, .ref a0), (2, .int (nI p)), (3, .ref c0), (4, .int (nI r)), (5, .int t), (6, .int (nI 16))]) (st' := [.int 0, .ref (A 28)]) rfl ?_
        refine x_callS C 36 (As := [.ref (A 28), .int 0]) (rest := []) rfl vX8_127 (c_X8_doubles Y _ (A 28) 16 f'_2 (lbD h2 l2).1 (lbD h2 l2).2 q_second (ovl_at 9 N rfl) (N.ov [9] (by decide) rfl) (Nat.le_refl _) (by decide) hd_2) rfl rfl (Nat.le_of_ble_eq_true rfl) ⟨(Nat.le_of_ble_eq_true rfl), (Nat.le_of_ble_eq_true rfl)⟩ ⟨Nat.zero_le _, Nat.zero_le _⟩ (fun v w_3 hp => ?_)
        obtain ⟨rfl, f'_3, hd_3, rfl⟩ := hp
        refine x_mer N [9] ⟨rfl, trivial⟩ (os' := [(qm, (o0, cO 8 (mo A th su (nI sz) bl (nI ci) (nI ma) pa en wr))), (q_a, (a0, cI Y n (iF f))), (q_c, (c0, cI Y n2 (iF g))), (q_mask, (A 27, cI Y 16 (iF f'_1))), (q_block, (A 4, cI Y 16 (iF b))), (q_rounds, (A 3, cI Y 176 (iF rk))), (q_box, (A 2, cI Y 256 (iF sN))), (q_other, (A 5, cI Y 16 (iF o))), (q_hash, (A 29, cI Y 16 (iF hh))), (q_second, (A 28, cI Y 16 (iF f'_3)))]) rfl ?_
        refine x_st (st' := []) rfl ?_
        refine x_run C 37 2 (pc' := 70) (lv' := [(6, .int 0), (0, .ref o0), (1, .ref a0), (2, .int (nI p)), (3, .ref c0), (4, .int (nI r)), (5, .int t)]) (st' := []) rfl ?_
        have L70 : ∀ i : Nat, 0 ≤ i → i ≤ 16 → X G Y 0 0 70 [(0, .ref o0), (1, .ref a0), (2, .int (nI p)), (3, .ref c0), (4, .int (nI r)), (5, .int t), (6, .int (nI i))] [] (ovl w [(qm, (o0, cO 8 (mo A th su (nI sz) bl (nI ci) (nI ma) pa en wr))), (q_a, (a0, cI Y n (iF f))), (q_c, (c0, cI Y n2 (iF g))), (q_mask, (A 27, cI Y 16 (iF (filN f'_1 0 i (fun j => f'_1 j ^^^ f'_3 j))))), (q_block, (A 4, cI Y 16 (iF b))), (q_rounds, (A 3, cI Y 176 (iF rk))), (q_box, (A 2, cI Y 256 (iF sN))), (q_other, (A 5, cI Y 16 (iF o))), (q_hash, (A 29, cI Y 16 (iF hh))), (q_second, (A 28, cI Y 16 (iF f'_3)))]) := by
          intro i lo70 hi70
          revert lo70
          refine x_up (fun i => 0 ≤ i → X G Y 0 0 70 [(0, .ref o0), (1, .ref a0), (2, .int (nI p)), (3, .ref c0), (4, .int (nI r)), (5, .int t), (6, .int (nI i))] [] (ovl w [(qm, (o0, cO 8 (mo A th su (nI sz) bl (nI ci) (nI ma) pa en wr))), (q_a, (a0, cI Y n (iF f))), (q_c, (c0, cI Y n2 (iF g))), (q_mask, (A 27, cI Y 16 (iF (filN f'_1 0 i (fun j => f'_1 j ^^^ f'_3 j))))), (q_block, (A 4, cI Y 16 (iF b))), (q_rounds, (A 3, cI Y 176 (iF rk))), (q_box, (A 2, cI Y 256 (iF sN))), (q_other, (A 5, cI Y 16 (iF o))), (q_hash, (A 29, cI Y 16 (iF hh))), (q_second, (A 28, cI Y 16 (iF f'_3)))])) 16 ?_ ?_ i hi70
          · intro lo70
            refine x_run C 39 2 (pc' := 74) (lv' := [(0, .ref o0), (1, .ref a0), (2, .int (nI p)), (3, .ref c0), (4, .int (nI r)), (5, .int t), (6, .int (nI 16))]) (st' := [.int 16, .int (nI 16)]) rfl ?_
            refine x_st (st' := [.int (nI 16), .int (nI 16)]) (by simp only [nlit, nI_add, pk_mul]) ?_
            refine x_icmpN_ge C 41 (by omega) (by omega) rfl (tgt := 100) rfl (fun hc2 => ?_) (fun hc2 => ?_)
            · refine x_run C 55 2 (pc' := 103) (lv' := [(0, .ref o0), (1, .ref a0), (2, .int (nI p)), (3, .ref c0), (4, .int (nI r)), (5, .int t), (6, .int (nI 16))]) (st' := [.int t, .ref o0]) rfl ?_
              refine x_callV C 57 (As := [.int t]) (rest := []) rfl vX8_131 (ovl_at 0 N rfl) rfl (c_X8_hashes Y _ o0 A th su sz bl ci ma pa en wr (filN f'_1 0 16 (fun j => f'_1 j ^^^ f'_3 j)) b rk o hh ks (db2 h l h2 l2).1 (db2 h l h2 l2).2 t qm q_mask q_block q_rounds q_box q_other q_hash (ovl_at 0 N rfl) (ovl_at 3 N rfl) (ovl_at 4 N rfl) (ovl_at 5 N rfl) (ovl_at 6 N rfl) (ovl_at 7 N rfl) (ovl_at 8 N rfl) (N.ov [0, 3, 4, 5, 6, 7, 8] (by decide) rfl) (db2_B hd_1 hd_3) hky) rfl rfl (Nat.le_of_ble_eq_true rfl) ⟨(Nat.le_of_ble_eq_true rfl), (Nat.le_of_ble_eq_true rfl)⟩ ⟨Nat.zero_le _, Nat.zero_le _⟩ (fun v w_4 hp => ?_)
              obtain ⟨rfl, mk'_4, b'_4, o'_4, hh'_4, hq_4, rfl⟩ := hp
              refine x_mer N [0, 3, 4, 5, 6, 7, 8] ⟨rfl, rfl, rfl, rfl, rfl, rfl, rfl, trivial⟩ (os' := [(qm, (o0, cO 8 (mo A th su (nI sz) (bl + 1) (nI ci) (nI ma) pa en wr))), (q_a, (a0, cI Y n (iF f))), (q_c, (c0, cI Y n2 (iF g))), (q_mask, (A 27, cI Y 16 (iF mk'_4))), (q_block, (A 4, cI Y 16 (iF b'_4))), (q_rounds, (A 3, cI Y 176 (iF rk))), (q_box, (A 2, cI Y 256 (iF sN))), (q_other, (A 5, cI Y 16 (iF o'_4))), (q_hash, (A 29, cI Y 16 (iF hh'_4))), (q_second, (A 28, cI Y 16 (iF f'_3)))]) rfl ?_
              refine x_st (st' := []) rfl ?_
              exact x_vret C B rfl 58 rfl (Nat.zero_le _) (Nat.zero_le _) ⟨rfl, _, _, _, _, _, hq_4, rfl⟩
            · exact absurd hc2 (by omega)
          · intro i hi70 ih70 lo70
            refine x_run C 39 2 (pc' := 74) (lv' := [(0, .ref o0), (1, .ref a0), (2, .int (nI p)), (3, .ref c0), (4, .int (nI r)), (5, .int t), (6, .int (nI i))]) (st' := [.int 16, .int (nI i)]) rfl ?_
            refine x_st (st' := [.int (nI 16), .int (nI i)]) (by simp only [nlit, nI_add, pk_mul]) ?_
            refine x_icmpN_ge C 41 (by omega) (by omega) rfl (tgt := 100) rfl (fun hc3 => ?_) (fun hc3 => ?_)
            · exact absurd hc3 (by omega)
            · refine x_run C 42 1 (pc' := 78) (lv' := [(0, .ref o0), (1, .ref a0), (2, .int (nI p)), (3, .ref c0), (4, .int (nI r)), (5, .int t), (6, .int (nI i))]) (st' := [.ref o0]) rfl ?_
              refine x_get C 43 rfl fX8_92 N 0 rfl (v := .ref (A 27)) rfl ?_
              refine x_run C 44 2 (pc' := 84) (lv' := [(0, .ref o0), (1, .ref a0), (2, .int (nI p)), (3, .ref c0), (4, .int (nI r)), (5, .int t), (6, .int (nI i))]) (st' := [.int (nI i), .ref (A 27), .int (nI i), .ref (A 27)]) rfl ?_
              refine x_ialdN C 46 rfl N 3 rfl (by omega) (by omega) ?_
              refine x_st (st' := [.int (nI ((filN f'_1 0 i (fun j => f'_1 j ^^^ f'_3 j)) i)), .int (nI i), .ref (A 27)]) rfl ?_
              refine x_st (st' := [.int (nI (f'_1 i)), .int (nI i), .ref (A 27)]) (by rw [filN_o (Or.inr (by omega))]) ?_
              refine x_run C 47 1 (pc' := 86) (lv' := [(0, .ref o0), (1, .ref a0), (2, .int (nI p)), (3, .ref c0), (4, .int (nI r)), (5, .int t), (6, .int (nI i))]) (st' := [.ref o0, .int (nI (f'_1 i)), .int (nI i), .ref (A 27)]) rfl ?_
              refine x_get C 48 rfl fX8_95 N 0 rfl (v := .ref (A 28)) rfl ?_
              refine x_run C 49 1 (pc' := 91) (lv' := [(0, .ref o0), (1, .ref a0), (2, .int (nI p)), (3, .ref c0), (4, .int (nI r)), (5, .int t), (6, .int (nI i))]) (st' := [.int (nI i), .ref (A 28), .int (nI (f'_1 i)), .int (nI i), .ref (A 27)]) rfl ?_
              refine x_ialdN C 50 rfl N 9 rfl (by omega) (by omega) ?_
              refine x_st (st' := [.int (nI (f'_3 i)), .int (nI (f'_1 i)), .int (nI i), .ref (A 27)]) rfl ?_
              refine x_run C 51 1 (pc' := 93) (lv' := [(0, .ref o0), (1, .ref a0), (2, .int (nI p)), (3, .ref c0), (4, .int (nI r)), (5, .int t), (6, .int (nI i))]) (st' := [.int ((nI (f'_1 i)) ^^^ (nI (f'_3 i))), .int (nI i), .ref (A 27)]) rfl ?_
              refine x_st (st' := [.int (nI ((f'_1 i) ^^^ (f'_3 i))), .int (nI i), .ref (A 27)]) (by simp only [nlit, nI_add, pk_mul, nx_xor]) ?_
              refine x_iastN C 52 rfl N 3 rfl (by omega) (by omega) (os' := [(qm, (o0, cO 8 (mo A th su (nI sz) bl (nI ci) (nI ma) pa en wr))), (q_a, (a0, cI Y n (iF f))), (q_c, (c0, cI Y n2 (iF g))), (q_mask, (A 27, cI Y 16 (upd (iF (filN f'_1 0 i (fun j => f'_1 j ^^^ f'_3 j))) i (nI ((f'_1 i) ^^^ (f'_3 i)))))), (q_block, (A 4, cI Y 16 (iF b))), (q_rounds, (A 3, cI Y 176 (iF rk))), (q_box, (A 2, cI Y 256 (iF sN))), (q_other, (A 5, cI Y 16 (iF o))), (q_hash, (A 29, cI Y 16 (iF hh))), (q_second, (A 28, cI Y 16 (iF f'_3)))]) rfl ?_
              refine x_ov (os' := [(qm, (o0, cO 8 (mo A th su (nI sz) bl (nI ci) (nI ma) pa en wr))), (q_a, (a0, cI Y n (iF f))), (q_c, (c0, cI Y n2 (iF g))), (q_mask, (A 27, cI Y 16 (iF (updN (filN f'_1 0 i (fun j => f'_1 j ^^^ f'_3 j)) i ((f'_1 i) ^^^ (f'_3 i)))))), (q_block, (A 4, cI Y 16 (iF b))), (q_rounds, (A 3, cI Y 176 (iF rk))), (q_box, (A 2, cI Y 256 (iF sN))), (q_other, (A 5, cI Y 16 (iF o))), (q_hash, (A 29, cI Y 16 (iF hh))), (q_second, (A 28, cI Y 16 (iF f'_3)))]) (by rw [upd_iF]) ?_
              refine x_run C 53 2 (pc' := 70) (lv' := [(6, .int ((nI i) + 1)), (0, .ref o0), (1, .ref a0), (2, .int (nI p)), (3, .ref c0), (4, .int (nI r)), (5, .int t)]) (st' := []) rfl ?_
              refine x_sub (lv' := [(0, .ref o0), (1, .ref a0), (2, .int (nI p)), (3, .ref c0), (4, .int (nI r)), (5, .int t), (6, .int ((nI i) + 1))]) [1, 2, 3, 4, 5, 6, 0] rfl ?_
              refine x_loc (lv' := [(0, .ref o0), (1, .ref a0), (2, .int (nI p)), (3, .ref c0), (4, .int (nI r)), (5, .int t), (6, .int (nI (i + 1)))]) (by simp only [nlit, nI_add, pk_mul]) ?_
              refine x_ov (os' := [(qm, (o0, cO 8 (mo A th su (nI sz) bl (nI ci) (nI ma) pa en wr))), (q_a, (a0, cI Y n (iF f))), (q_c, (c0, cI Y n2 (iF g))), (q_mask, (A 27, cI Y 16 (iF (filN f'_1 0 (i + 1) (fun j => f'_1 j ^^^ f'_3 j))))), (q_block, (A 4, cI Y 16 (iF b))), (q_rounds, (A 3, cI Y 176 (iF rk))), (q_box, (A 2, cI Y 256 (iF sN))), (q_other, (A 5, cI Y 16 (iF o))), (q_hash, (A 29, cI Y 16 (iF hh))), (q_second, (A 28, cI Y 16 (iF f'_3)))]) (by rw [← filN_s0]) ?_
              exact ih70 (by omega)
        refine x_sub (lv' := [(0, .ref o0), (1, .ref a0), (2, .int (nI p)), (3, .ref c0), (4, .int (nI r)), (5, .int t), (6, .int 0)]) [1, 2, 3, 4, 5, 6, 0] rfl ?_
        refine x_loc (lv' := [(0, .ref o0), (1, .ref a0), (2, .int (nI p)), (3, .ref c0), (4, .int (nI r)), (5, .int t), (6, .int (nI 0))]) (by simp only [nlit, nI_add, pk_mul]) ?_
        refine x_ov (os' := [(qm, (o0, cO 8 (mo A th su (nI sz) bl (nI ci) (nI ma) pa en wr))), (q_a, (a0, cI Y n (iF f))), (q_c, (c0, cI Y n2 (iF g))), (q_mask, (A 27, cI Y 16 (iF (filN f'_1 0 0 (fun j => f'_1 j ^^^ f'_3 j))))), (q_block, (A 4, cI Y 16 (iF b))), (q_rounds, (A 3, cI Y 176 (iF rk))), (q_box, (A 2, cI Y 256 (iF sN))), (q_other, (A 5, cI Y 16 (iF o))), (q_hash, (A 29, cI Y 16 (iF hh))), (q_second, (A 28, cI Y 16 (iF f'_3)))]) (by rw [filN_0]) ?_
        exact L70 0 (Nat.le_refl _) (by omega)
      · exact absurd hc1 (by omega)
    · intro i hi3 ih3 lo3
      refine x_run C 2 2 (pc' := 7) (lv' := [(0, .ref o0), (1, .ref a0), (2, .int (nI p)), (3, .ref c0), (4, .int (nI r)), (5, .int t), (6, .int (nI i))]) (st' := [.int 16, .int (nI i)]) rfl ?_
      refine x_st (st' := [.int (nI 16), .int (nI i)]) (by simp only [nlit, nI_add, pk_mul]) ?_
      refine x_icmpN_ge C 4 (by omega) (by omega) rfl (tgt := 43) rfl (fun hc4 => ?_) (fun hc4 => ?_)
      · exact absurd hc4 (by omega)
      · refine x_run C 5 1 (pc' := 11) (lv' := [(0, .ref o0), (1, .ref a0), (2, .int (nI p)), (3, .ref c0), (4, .int (nI r)), (5, .int t), (6, .int (nI i))]) (st' := [.ref o0]) rfl ?_
        refine x_get C 6 rfl fX8_92 N 0 rfl (v := .ref (A 27)) rfl ?_
        refine x_run C 7 5 (pc' := 21) (lv' := [(0, .ref o0), (1, .ref a0), (2, .int (nI p)), (3, .ref c0), (4, .int (nI r)), (5, .int t), (6, .int (nI i))]) (st' := [.int ((nI p) + (nI i)), .ref a0, .int (nI i), .ref (A 27)]) rfl ?_
        refine x_st (st' := [.int (nI (p + i)), .ref a0, .int (nI i), .ref (A 27)]) (by simp only [nlit, nI_add, pk_mul]) ?_
        refine x_ialdN C 12 rfl N 1 rfl (by omega) (by omega) ?_
        refine x_st (st' := [.int (nI (f (p + i))), .int (nI i), .ref (A 27)]) rfl ?_
        refine x_iastN C 13 rfl N 3 rfl (by omega) (by omega) (os' := [(qm, (o0, cO 8 (mo A th su (nI sz) bl (nI ci) (nI ma) pa en wr))), (q_a, (a0, cI Y n (iF f))), (q_c, (c0, cI Y n2 (iF g))), (q_mask, (A 27, cI Y 16 (upd (iF (filN mk 0 i (fun j => f (p + j)))) i (nI (f (p + i)))))), (q_block, (A 4, cI Y 16 (iF b))), (q_rounds, (A 3, cI Y 176 (iF rk))), (q_box, (A 2, cI Y 256 (iF sN))), (q_other, (A 5, cI Y 16 (iF o))), (q_hash, (A 29, cI Y 16 (iF hh))), (q_second, (A 28, cI Y 16 (iF (filN sd 0 i (fun j => g (r + j))))))]) rfl ?_
        refine x_ov (os' := [(qm, (o0, cO 8 (mo A th su (nI sz) bl (nI ci) (nI ma) pa en wr))), (q_a, (a0, cI Y n (iF f))), (q_c, (c0, cI Y n2 (iF g))), (q_mask, (A 27, cI Y 16 (iF (updN (filN mk 0 i (fun j => f (p + j))) i (f (p + i)))))), (q_block, (A 4, cI Y 16 (iF b))), (q_rounds, (A 3, cI Y 176 (iF rk))), (q_box, (A 2, cI Y 256 (iF sN))), (q_other, (A 5, cI Y 16 (iF o))), (q_hash, (A 29, cI Y 16 (iF hh))), (q_second, (A 28, cI Y 16 (iF (filN sd 0 i (fun j => g (r + j))))))]) (by rw [upd_iF]) ?_
        refine x_run C 14 1 (pc' := 24) (lv' := [(0, .ref o0), (1, .ref a0), (2, .int (nI p)), (3, .ref c0), (4, .int (nI r)), (5, .int t), (6, .int (nI i))]) (st' := [.ref o0]) rfl ?_
        refine x_get C 15 rfl fX8_95 N 0 rfl (v := .ref (A 28)) rfl ?_
        refine x_run C 16 5 (pc' := 35) (lv' := [(0, .ref o0), (1, .ref a0), (2, .int (nI p)), (3, .ref c0), (4, .int (nI r)), (5, .int t), (6, .int (nI i))]) (st' := [.int ((nI r) + (nI i)), .ref c0, .int (nI i), .ref (A 28)]) rfl ?_
        refine x_st (st' := [.int (nI (r + i)), .ref c0, .int (nI i), .ref (A 28)]) (by simp only [nlit, nI_add, pk_mul]) ?_
        refine x_ialdN C 21 rfl N 2 rfl (by omega) (by omega) ?_
        refine x_st (st' := [.int (nI (g (r + i))), .int (nI i), .ref (A 28)]) rfl ?_
        refine x_iastN C 22 rfl N 9 rfl (by omega) (by omega) (os' := [(qm, (o0, cO 8 (mo A th su (nI sz) bl (nI ci) (nI ma) pa en wr))), (q_a, (a0, cI Y n (iF f))), (q_c, (c0, cI Y n2 (iF g))), (q_mask, (A 27, cI Y 16 (iF (updN (filN mk 0 i (fun j => f (p + j))) i (f (p + i)))))), (q_block, (A 4, cI Y 16 (iF b))), (q_rounds, (A 3, cI Y 176 (iF rk))), (q_box, (A 2, cI Y 256 (iF sN))), (q_other, (A 5, cI Y 16 (iF o))), (q_hash, (A 29, cI Y 16 (iF hh))), (q_second, (A 28, cI Y 16 (upd (iF (filN sd 0 i (fun j => g (r + j)))) i (nI (g (r + i))))))]) rfl ?_
        refine x_ov (os' := [(qm, (o0, cO 8 (mo A th su (nI sz) bl (nI ci) (nI ma) pa en wr))), (q_a, (a0, cI Y n (iF f))), (q_c, (c0, cI Y n2 (iF g))), (q_mask, (A 27, cI Y 16 (iF (updN (filN mk 0 i (fun j => f (p + j))) i (f (p + i)))))), (q_block, (A 4, cI Y 16 (iF b))), (q_rounds, (A 3, cI Y 176 (iF rk))), (q_box, (A 2, cI Y 256 (iF sN))), (q_other, (A 5, cI Y 16 (iF o))), (q_hash, (A 29, cI Y 16 (iF hh))), (q_second, (A 28, cI Y 16 (iF (updN (filN sd 0 i (fun j => g (r + j))) i (g (r + i))))))]) (by rw [upd_iF]) ?_
        refine x_run C 23 2 (pc' := 3) (lv' := [(6, .int ((nI i) + 1)), (0, .ref o0), (1, .ref a0), (2, .int (nI p)), (3, .ref c0), (4, .int (nI r)), (5, .int t)]) (st' := []) rfl ?_
        refine x_sub (lv' := [(0, .ref o0), (1, .ref a0), (2, .int (nI p)), (3, .ref c0), (4, .int (nI r)), (5, .int t), (6, .int ((nI i) + 1))]) [1, 2, 3, 4, 5, 6, 0] rfl ?_
        refine x_loc (lv' := [(0, .ref o0), (1, .ref a0), (2, .int (nI p)), (3, .ref c0), (4, .int (nI r)), (5, .int t), (6, .int (nI (i + 1)))]) (by simp only [nlit, nI_add, pk_mul]) ?_
        refine x_ov (os' := [(qm, (o0, cO 8 (mo A th su (nI sz) bl (nI ci) (nI ma) pa en wr))), (q_a, (a0, cI Y n (iF f))), (q_c, (c0, cI Y n2 (iF g))), (q_mask, (A 27, cI Y 16 (iF (filN mk 0 (i + 1) (fun j => f (p + j)))))), (q_block, (A 4, cI Y 16 (iF b))), (q_rounds, (A 3, cI Y 176 (iF rk))), (q_box, (A 2, cI Y 256 (iF sN))), (q_other, (A 5, cI Y 16 (iF o))), (q_hash, (A 29, cI Y 16 (iF hh))), (q_second, (A 28, cI Y 16 (iF (filN sd 0 (i + 1) (fun j => g (r + j))))))]) (by rw [← filN_s0, ← filN_s0]) ?_
        exact ih3 (by omega)
  refine x_sub (lv' := [(0, .ref o0), (1, .ref a0), (2, .int (nI p)), (3, .ref c0), (4, .int (nI r)), (5, .int t), (6, .int 0)]) [1, 2, 3, 4, 5, 6, 0] rfl ?_
  refine x_loc (lv' := [(0, .ref o0), (1, .ref a0), (2, .int (nI p)), (3, .ref c0), (4, .int (nI r)), (5, .int t), (6, .int (nI 0))]) (by simp only [nlit, nI_add, pk_mul]) ?_
  refine x_ov (os' := [(qm, (o0, cO 8 (mo A th su (nI sz) bl (nI ci) (nI ma) pa en wr))), (q_a, (a0, cI Y n (iF f))), (q_c, (c0, cI Y n2 (iF g))), (q_mask, (A 27, cI Y 16 (iF (filN mk 0 0 (fun j => f (p + j)))))), (q_block, (A 4, cI Y 16 (iF b))), (q_rounds, (A 3, cI Y 176 (iF rk))), (q_box, (A 2, cI Y 256 (iF sN))), (q_other, (A 5, cI Y 16 (iF o))), (q_hash, (A 29, cI Y 16 (iF hh))), (q_second, (A 28, cI Y 16 (iF (filN sd 0 0 (fun j => g (r + j))))))]) (by rw [filN_0, filN_0]) ?_
  exact L3 0 (Nat.le_refl _) (by omega)
set_option maxHeartbeats 4000000 in
set_option maxRecDepth 100000 in
theorem c_X8_hashTwoS (Y : xD) (w : va_W) (o0 : Nat) (A : Nat → Nat) (th : Int32) (su : Int32) (sz : Nat) (bl : Int32) (ci : Nat) (ma : Nat) (pa : Int32) (en : Int32) (wr : Int32) (a0 : Nat) (n : Nat) (f : Nat → Nat) (p : Nat) (r : Nat) (mk : Nat → Nat) (b : Nat → Nat) (rk : Nat → Nat) (o : Nat → Nat) (hh : Nat → Nat) (ks : Nat → Int32) (sd : Nat → Nat) (h : Int64) (l : Int64) (h2 : Int64) (l2 : Int64) (t : Int32) (qm q_a q_mask q_block q_rounds q_box q_other q_hash q_second : Nat) (e0 : w[qm]? = some (o0, cO 8 (mo A th su (nI sz) bl (nI ci) (nI ma) pa en wr))) (e1 : w[q_a]? = some (a0, cI Y n (iF f))) (e2 : w[q_mask]? = some (A 27, cI Y 16 (iF mk))) (e3 : w[q_block]? = some (A 4, cI Y 16 (iF b))) (e4 : w[q_rounds]? = some (A 3, cI Y 176 (iF rk))) (e5 : w[q_box]? = some (A 2, cI Y 256 (iF sN))) (e6 : w[q_other]? = some (A 5, cI Y 16 (iF o))) (e7 : w[q_hash]? = some (A 29, cI Y 16 (iF hh))) (e8 : w[q_second]? = some (A 28, cI Y 16 (iF sd))) (N : xN w.length [qm, q_a, q_mask, q_block, q_rounds, q_box, q_other, q_hash, q_second]) (hn : p + 16 ≤ n) (hl : n < 2 ^ 31) (hn2 : r + 16 ≤ n) (hl2 : n < 2 ^ 31) (hf : ∀ j, j < 16 → f (p + j) = byW h l j) (hg : ∀ j, j < 16 → f (r + j) = byW h2 l2 j) (hky : ∀ j, j < 176 → rk j = kb ks j) : Ct Y mX8_hashTwo 3 0 0 [.ref o0, .ref a0, .int (nI p), .ref a0, .int (nI r), .int t] w (fun v w' => v = none ∧ ∃ (mk' : Nat → Nat) (b' : Nat → Nat) (o' : Nat → Nat) (hh' : Nat → Nat) (sd' : Nat → Nat), (∀ j, j < 16 → hh' j = byW (hs2 ks h l h2 l2 t).1 (hs2 ks h l h2 l2 t).2 j) ∧ w' = ovl w [(qm, (o0, cO 8 (mo A th su (nI sz) (bl + 1) (nI ci) (nI ma) pa en wr))), (q_a, (a0, cI Y n (iF f))), (q_mask, (A 27, cI Y 16 (iF mk'))), (q_block, (A 4, cI Y 16 (iF b'))), (q_rounds, (A 3, cI Y 176 (iF rk))), (q_box, (A 2, cI Y 256 (iF sN))), (q_other, (A 5, cI Y 16 (iF o'))), (q_hash, (A 29, cI Y 16 (iF hh'))), (q_second, (A 28, cI Y 16 (iF sd')))]) := by
  refine Ct.intro (T := tX8_hashTwo) (by decide) oX8_hashTwo (Nat.le_of_ble_eq_true rfl) (fun G C B => ?_)
  refine x_lay [(qm, (o0, cO 8 (mo A th su (nI sz) bl (nI ci) (nI ma) pa en wr))), (q_a, (a0, cI Y n (iF f))), (q_mask, (A 27, cI Y 16 (iF mk))), (q_block, (A 4, cI Y 16 (iF b))), (q_rounds, (A 3, cI Y 176 (iF rk))), (q_box, (A 2, cI Y 256 (iF sN))), (q_other, (A 5, cI Y 16 (iF o))), (q_hash, (A 29, cI Y 16 (iF hh))), (q_second, (A 28, cI Y 16 (iF sd)))] (lay_cons e0 (lay_cons e1 (lay_cons e2 (lay_cons e3 (lay_cons e4 (lay_cons e5 (lay_cons e6 (lay_cons e7 (lay_cons e8 lay_nil))))))))) ?_
  refine x_run C 0 2 (pc' := 3) (lv' := [(6, .int 0), (0, .ref o0), (1, .ref a0), (2, .int (nI p)), (3, .ref a0), (4, .int (nI r)), (5, .int t)]) (st' := []) rfl ?_
  have L3 : ∀ i : Nat, 0 ≤ i → i ≤ 16 → X G Y 0 0 3 [(0, .ref o0), (1, .ref a0), (2, .int (nI p)), (3, .ref a0), (4, .int (nI r)), (5, .int t), (6, .int (nI i))] [] (ovl w [(qm, (o0, cO 8 (mo A th su (nI sz) bl (nI ci) (nI ma) pa en wr))), (q_a, (a0, cI Y n (iF f))), (q_mask, (A 27, cI Y 16 (iF (filN mk 0 i (fun j => f (p + j)))))), (q_block, (A 4, cI Y 16 (iF b))), (q_rounds, (A 3, cI Y 176 (iF rk))), (q_box, (A 2, cI Y 256 (iF sN))), (q_other, (A 5, cI Y 16 (iF o))), (q_hash, (A 29, cI Y 16 (iF hh))), (q_second, (A 28, cI Y 16 (iF (filN sd 0 i (fun j => f (r + j))))))]) := by
    intro i lo3 hi3
    revert lo3
    refine x_up (fun i => 0 ≤ i → X G Y 0 0 3 [(0, .ref o0), (1, .ref a0), (2, .int (nI p)), (3, .ref a0), (4, .int (nI r)), (5, .int t), (6, .int (nI i))] [] (ovl w [(qm, (o0, cO 8 (mo A th su (nI sz) bl (nI ci) (nI ma) pa en wr))), (q_a, (a0, cI Y n (iF f))), (q_mask, (A 27, cI Y 16 (iF (filN mk 0 i (fun j => f (p + j)))))), (q_block, (A 4, cI Y 16 (iF b))), (q_rounds, (A 3, cI Y 176 (iF rk))), (q_box, (A 2, cI Y 256 (iF sN))), (q_other, (A 5, cI Y 16 (iF o))), (q_hash, (A 29, cI Y 16 (iF hh))), (q_second, (A 28, cI Y 16 (iF (filN sd 0 i (fun j => f (r + j))))))])) 16 ?_ ?_ i hi3
    · intro lo3
      refine x_run C 2 2 (pc' := 7) (lv' := [(0, .ref o0), (1, .ref a0), (2, .int (nI p)), (3, .ref a0), (4, .int (nI r)), (5, .int t), (6, .int (nI 16))]) (st' := [.int 16, .int (nI 16)]) rfl ?_
      refine x_st (st' := [.int (nI 16), .int (nI 16)]) (by simp only [nlit, nI_add, pk_mul]) ?_
      refine x_icmpN_ge C 4 (by omega) (by omega) rfl (tgt := 43) rfl (fun hc1 => ?_) (fun hc1 => ?_)
      · refine x_run C 25 1 (pc' := 44) (lv' := [(0, .ref o0), (1, .ref a0), (2, .int (nI p)), (3, .ref a0), (4, .int (nI r)), (5, .int t), (6, .int (nI 16))]) (st' := [.ref o0]) rfl ?_
        refine x_get C 26 rfl fX8_92 N 0 rfl (v := .ref (A 27)) rfl ?_
        refine x_run C 27 1 (pc' := 48) (lv' := [(0, .ref o0), (1, .ref a0), (2, .int (nI p)), (3, .ref a0), (4, .int (nI r)), (5, .int t), (6, .int (nI 16))]) (st' := [.int 0, .ref (A 27)]) rfl ?_
        refine x_callS C 28 (As := [.ref (A 27), .int 0]) (rest := []) rfl vX8_127 (c_X8_doubles Y _ (A 27) 16 (filN mk 0 16 (fun j => f (p + j))) h l q_mask (ovl_at 2 N rfl) (N.ov [2] (by decide) rfl) (Nat.le_refl _) (by decide) (fun j hj => (filN_z hj).trans (hf j hj))) rfl rfl (Nat.le_of_ble_eq_true rfl) ⟨(Nat.le_of_ble_eq_true rfl), (Nat.le_of_ble_eq_true rfl)⟩ ⟨Nat.zero_le _, Nat.zero_le _⟩ (fun v w_1 hp => ?_)
        obtain ⟨rfl, f'_1, hd_1, rfl⟩ := hp
        refine x_mer N [2] ⟨rfl, trivial⟩ (os' := [(qm, (o0, cO 8 (mo A th su (nI sz) bl (nI ci) (nI ma) pa en wr))), (q_a, (a0, cI Y n (iF f))), (q_mask, (A 27, cI Y 16 (iF f'_1))), (q_block, (A 4, cI Y 16 (iF b))), (q_rounds, (A 3, cI Y 176 (iF rk))), (q_box, (A 2, cI Y 256 (iF sN))), (q_other, (A 5, cI Y 16 (iF o))), (q_hash, (A 29, cI Y 16 (iF hh))), (q_second, (A 28, cI Y 16 (iF (filN sd 0 16 (fun j => f (r + j))))))]) rfl ?_
        refine x_st (st' := []) rfl ?_
        refine x_run C 29 1 (pc' := 52) (lv' := [(0, .ref o0), (1, .ref a0), (2, .int (nI p)), (3, .ref a0), (4, .int (nI r)), (5, .int t), (6, .int (nI 16))]) (st' := [.ref o0]) rfl ?_
        refine x_get C 30 rfl fX8_95 N 0 rfl (v := .ref (A 28)) rfl ?_
        refine x_run C 31 1 (pc' := 56) (lv' := [(0, .ref o0), (1, .ref a0), (2, .int (nI p)), (3, .ref a0), (4, .int (nI r)), (5, .int t), (6, .int (nI 16))]) (st' := [.int 0, .ref (A 28)]) rfl ?_
        refine x_callS C 32 (As := [.ref (A 28), .int 0]) (rest := []) rfl vX8_127 (c_X8_doubles Y _ (A 28) 16 (filN sd 0 16 (fun j => f (r + j))) h2 l2 q_second (ovl_at 8 N rfl) (N.ov [8] (by decide) rfl) (Nat.le_refl _) (by decide) (fun j hj => (filN_z hj).trans (hg j hj))) rfl rfl (Nat.le_of_ble_eq_true rfl) ⟨(Nat.le_of_ble_eq_true rfl), (Nat.le_of_ble_eq_true rfl)⟩ ⟨Nat.zero_le _, Nat.zero_le _⟩ (fun v w_2 hp => ?_)
        obtain ⟨rfl, f'_2, hd_2, rfl⟩ := hp
        refine x_mer N [8] ⟨rfl, trivial⟩ (os' := [(qm, (o0, cO 8 (mo A th su (nI sz) bl (nI ci) (nI ma) pa en wr))), (q_a, (a0, cI Y n (iF f))), (q_mask, (A 27, cI Y 16 (iF f'_1))), (q_block, (A 4, cI Y 16 (iF b))), (q_rounds, (A 3, cI Y 176 (iF rk))), (q_box, (A 2, cI Y 256 (iF sN))), (q_other, (A 5, cI Y 16 (iF o))), (q_hash, (A 29, cI Y 16 (iF hh))), (q_second, (A 28, cI Y 16 (iF f'_2)))]) rfl ?_
        refine x_st (st' := []) rfl ?_
        refine x_run C 33 1 (pc' := 60) (lv' := [(0, .ref o0), (1, .ref a0), (2, .int (nI p)), (3, .ref a0), (4, .int (nI r)), (5, .int t), (6, .int (nI 16))]) (st' := [.ref o0]) rfl ?_
        refine x_get C 34 rfl fX8_95 N 0 rfl (v := .ref (A 28)) rfl ?_
        refine x_run C 35 1 (pc' := 64) (lv' := [(0, .ref o0), (1, .ref a0), (2, .int (nI p)), (3, .ref a0), (4, .int (nI r)), (5, .int t), (6, .int (nI 16))]) (st' := [.int 0, .ref (A 28)]) rfl ?_
        refine x_callS C 36 (As := [.ref (A 28), .int 0]) (rest := []) rfl vX8_127 (c_X8_doubles Y _ (A 28) 16 f'_2 (lbD h2 l2).1 (lbD h2 l2).2 q_second (ovl_at 8 N rfl) (N.ov [8] (by decide) rfl) (Nat.le_refl _) (by decide) hd_2) rfl rfl (Nat.le_of_ble_eq_true rfl) ⟨(Nat.le_of_ble_eq_true rfl), (Nat.le_of_ble_eq_true rfl)⟩ ⟨Nat.zero_le _, Nat.zero_le _⟩ (fun v w_3 hp => ?_)
        obtain ⟨rfl, f'_3, hd_3, rfl⟩ := hp
        refine x_mer N [8] ⟨rfl, trivial⟩ (os' := [(qm, (o0, cO 8 (mo A th su (nI sz) bl (nI ci) (nI ma) pa en wr))), (q_a, (a0, cI Y n (iF f))), (q_mask, (A 27, cI Y 16 (iF f'_1))), (q_block, (A 4, cI Y 16 (iF b))), (q_rounds, (A 3, cI Y 176 (iF rk))), (q_box, (A 2, cI Y 256 (iF sN))), (q_other, (A 5, cI Y 16 (iF o))), (q_hash, (A 29, cI Y 16 (iF hh))), (q_second, (A 28, cI Y 16 (iF f'_3)))]) rfl ?_
        refine x_st (st' := []) rfl ?_
        refine x_run C 37 2 (pc' := 70) (lv' := [(6, .int 0), (0, .ref o0), (1, .ref a0), (2, .int (nI p)), (3, .ref a0), (4, .int (nI r)), (5, .int t)]) (st' := []) rfl ?_
        have L70 : ∀ i : Nat, 0 ≤ i → i ≤ 16 → X G Y 0 0 70 [(0, .ref o0), (1, .ref a0), (2, .int (nI p)), (3, .ref a0), (4, .int (nI r)), (5, .int t), (6, .int (nI i))] [] (ovl w [(qm, (o0, cO 8 (mo A th su (nI sz) bl (nI ci) (nI ma) pa en wr))), (q_a, (a0, cI Y n (iF f))), (q_mask, (A 27, cI Y 16 (iF (filN f'_1 0 i (fun j => f'_1 j ^^^ f'_3 j))))), (q_block, (A 4, cI Y 16 (iF b))), (q_rounds, (A 3, cI Y 176 (iF rk))), (q_box, (A 2, cI Y 256 (iF sN))), (q_other, (A 5, cI Y 16 (iF o))), (q_hash, (A 29, cI Y 16 (iF hh))), (q_second, (A 28, cI Y 16 (iF f'_3)))]) := by
          intro i lo70 hi70
          revert lo70
          refine x_up (fun i => 0 ≤ i → X G Y 0 0 70 [(0, .ref o0), (1, .ref a0), (2, .int (nI p)), (3, .ref a0), (4, .int (nI r)), (5, .int t), (6, .int (nI i))] [] (ovl w [(qm, (o0, cO 8 (mo A th su (nI sz) bl (nI ci) (nI ma) pa en wr))), (q_a, (a0, cI Y n (iF f))), (q_mask, (A 27, cI Y 16 (iF (filN f'_1 0 i (fun j => f'_1 j ^^^ f'_3 j))))), (q_block, (A 4, cI Y 16 (iF b))), (q_rounds, (A 3, cI Y 176 (iF rk))), (q_box, (A 2, cI Y 256 (iF sN))), (q_other, (A 5, cI Y 16 (iF o))), (q_hash, (A 29, cI Y 16 (iF hh))), (q_second, (A 28, cI Y 16 (iF f'_3)))])) 16 ?_ ?_ i hi70
          · intro lo70
            refine x_run C 39 2 (pc' := 74) (lv' := [(0, .ref o0), (1, .ref a0), (2, .int (nI p)), (3, .ref a0), (4, .int (nI r)), (5, .int t), (6, .int (nI 16))]) (st' := [.int 16, .int (nI 16)]) rfl ?_
            refine x_st (st' := [.int (nI 16), .int (nI 16)]) (by simp only [nlit, nI_add, pk_mul]) ?_
            refine x_icmpN_ge C 41 (by omega) (by omega) rfl (tgt := 100) rfl (fun hc2 => ?_) (fun hc2 => ?_)
            · refine x_run C 55 2 (pc' := 103) (lv' := [(0, .ref o0), (1, .ref a0), (2, .int (nI p)), (3, .ref a0), (4, .int (nI r)), (5, .int t), (6, .int (nI 16))]) (st' := [.int t, .ref o0]) rfl ?_
              refine x_callV C 57 (As := [.int t]) (rest := []) rfl vX8_131 (ovl_at 0 N rfl) rfl (c_X8_hashes Y _ o0 A th su sz bl ci ma pa en wr (filN f'_1 0 16 (fun j => f'_1 j ^^^ f'_3 j)) b rk o hh ks (db2 h l h2 l2).1 (db2 h l h2 l2).2 t qm q_mask q_block q_rounds q_box q_other q_hash (ovl_at 0 N rfl) (ovl_at 2 N rfl) (ovl_at 3 N rfl) (ovl_at 4 N rfl) (ovl_at 5 N rfl) (ovl_at 6 N rfl) (ovl_at 7 N rfl) (N.ov [0, 2, 3, 4, 5, 6, 7] (by decide) rfl) (db2_B hd_1 hd_3) hky) rfl rfl (Nat.le_of_ble_eq_true rfl) ⟨(Nat.le_of_ble_eq_true rfl), (Nat.le_of_ble_eq_true rfl)⟩ ⟨Nat.zero_le _, Nat.zero_le _⟩ (fun v w_4 hp => ?_)
              obtain ⟨rfl, mk'_4, b'_4, o'_4, hh'_4, hq_4, rfl⟩ := hp
              refine x_mer N [0, 2, 3, 4, 5, 6, 7] ⟨rfl, rfl, rfl, rfl, rfl, rfl, rfl, trivial⟩ (os' := [(qm, (o0, cO 8 (mo A th su (nI sz) (bl + 1) (nI ci) (nI ma) pa en wr))), (q_a, (a0, cI Y n (iF f))), (q_mask, (A 27, cI Y 16 (iF mk'_4))), (q_block, (A 4, cI Y 16 (iF b'_4))), (q_rounds, (A 3, cI Y 176 (iF rk))), (q_box, (A 2, cI Y 256 (iF sN))), (q_other, (A 5, cI Y 16 (iF o'_4))), (q_hash, (A 29, cI Y 16 (iF hh'_4))), (q_second, (A 28, cI Y 16 (iF f'_3)))]) rfl ?_
              refine x_st (st' := []) rfl ?_
              exact x_vret C B rfl 58 rfl (Nat.zero_le _) (Nat.zero_le _) ⟨rfl, _, _, _, _, _, hq_4, rfl⟩
            · exact absurd hc2 (by omega)
          · intro i hi70 ih70 lo70
            refine x_run C 39 2 (pc' := 74) (lv' := [(0, .ref o0), (1, .ref a0), (2, .int (nI p)), (3, .ref a0), (4, .int (nI r)), (5, .int t), (6, .int (nI i))]) (st' := [.int 16, .int (nI i)]) rfl ?_
            refine x_st (st' := [.int (nI 16), .int (nI i)]) (by simp only [nlit, nI_add, pk_mul]) ?_
            refine x_icmpN_ge C 41 (by omega) (by omega) rfl (tgt := 100) rfl (fun hc3 => ?_) (fun hc3 => ?_)
            · exact absurd hc3 (by omega)
            · refine x_run C 42 1 (pc' := 78) (lv' := [(0, .ref o0), (1, .ref a0), (2, .int (nI p)), (3, .ref a0), (4, .int (nI r)), (5, .int t), (6, .int (nI i))]) (st' := [.ref o0]) rfl ?_
              refine x_get C 43 rfl fX8_92 N 0 rfl (v := .ref (A 27)) rfl ?_
              refine x_run C 44 2 (pc' := 84) (lv' := [(0, .ref o0), (1, .ref a0), (2, .int (nI p)), (3, .ref a0), (4, .int (nI r)), (5, .int t), (6, .int (nI i))]) (st' := [.int (nI i), .ref (A 27), .int (nI i), .ref (A 27)]) rfl ?_
              refine x_ialdN C 46 rfl N 2 rfl (by omega) (by omega) ?_
              refine x_st (st' := [.int (nI ((filN f'_1 0 i (fun j => f'_1 j ^^^ f'_3 j)) i)), .int (nI i), .ref (A 27)]) rfl ?_
              refine x_st (st' := [.int (nI (f'_1 i)), .int (nI i), .ref (A 27)]) (by rw [filN_o (Or.inr (by omega))]) ?_
              refine x_run C 47 1 (pc' := 86) (lv' := [(0, .ref o0), (1, .ref a0), (2, .int (nI p)), (3, .ref a0), (4, .int (nI r)), (5, .int t), (6, .int (nI i))]) (st' := [.ref o0, .int (nI (f'_1 i)), .int (nI i), .ref (A 27)]) rfl ?_
              refine x_get C 48 rfl fX8_95 N 0 rfl (v := .ref (A 28)) rfl ?_
              refine x_run C 49 1 (pc' := 91) (lv' := [(0, .ref o0), (1, .ref a0), (2, .int (nI p)), (3, .ref a0), (4, .int (nI r)), (5, .int t), (6, .int (nI i))]) (st' := [.int (nI i), .ref (A 28), .int (nI (f'_1 i)), .int (nI i), .ref (A 27)]) rfl ?_
              refine x_ialdN C 50 rfl N 8 rfl (by omega) (by omega) ?_
              refine x_st (st' := [.int (nI (f'_3 i)), .int (nI (f'_1 i)), .int (nI i), .ref (A 27)]) rfl ?_
              refine x_run C 51 1 (pc' := 93) (lv' := [(0, .ref o0), (1, .ref a0), (2, .int (nI p)), (3, .ref a0), (4, .int (nI r)), (5, .int t), (6, .int (nI i))]) (st' := [.int ((nI (f'_1 i)) ^^^ (nI (f'_3 i))), .int (nI i), .ref (A 27)]) rfl ?_
              refine x_st (st' := [.int (nI ((f'_1 i) ^^^ (f'_3 i))), .int (nI i), .ref (A 27)]) (by simp only [nlit, nI_add, pk_mul, nx_xor]) ?_
              refine x_iastN C 52 rfl N 2 rfl (by omega) (by omega) (os' := [(qm, (o0, cO 8 (mo A th su (nI sz) bl (nI ci) (nI ma) pa en wr))), (q_a, (a0, cI Y n (iF f))), (q_mask, (A 27, cI Y 16 (upd (iF (filN f'_1 0 i (fun j => f'_1 j ^^^ f'_3 j))) i (nI ((f'_1 i) ^^^ (f'_3 i)))))), (q_block, (A 4, cI Y 16 (iF b))), (q_rounds, (A 3, cI Y 176 (iF rk))), (q_box, (A 2, cI Y 256 (iF sN))), (q_other, (A 5, cI Y 16 (iF o))), (q_hash, (A 29, cI Y 16 (iF hh))), (q_second, (A 28, cI Y 16 (iF f'_3)))]) rfl ?_
              refine x_ov (os' := [(qm, (o0, cO 8 (mo A th su (nI sz) bl (nI ci) (nI ma) pa en wr))), (q_a, (a0, cI Y n (iF f))), (q_mask, (A 27, cI Y 16 (iF (updN (filN f'_1 0 i (fun j => f'_1 j ^^^ f'_3 j)) i ((f'_1 i) ^^^ (f'_3 i)))))), (q_block, (A 4, cI Y 16 (iF b))), (q_rounds, (A 3, cI Y 176 (iF rk))), (q_box, (A 2, cI Y 256 (iF sN))), (q_other, (A 5, cI Y 16 (iF o))), (q_hash, (A 29, cI Y 16 (iF hh))), (q_second, (A 28, cI Y 16 (iF f'_3)))]) (by rw [upd_iF]) ?_
              refine x_run C 53 2 (pc' := 70) (lv' := [(6, .int ((nI i) + 1)), (0, .ref o0), (1, .ref a0), (2, .int (nI p)), (3, .ref a0), (4, .int (nI r)), (5, .int t)]) (st' := []) rfl ?_
              refine x_sub (lv' := [(0, .ref o0), (1, .ref a0), (2, .int (nI p)), (3, .ref a0), (4, .int (nI r)), (5, .int t), (6, .int ((nI i) + 1))]) [1, 2, 3, 4, 5, 6, 0] rfl ?_
              refine x_loc (lv' := [(0, .ref o0), (1, .ref a0), (2, .int (nI p)), (3, .ref a0), (4, .int (nI r)), (5, .int t), (6, .int (nI (i + 1)))]) (by simp only [nlit, nI_add, pk_mul]) ?_
              refine x_ov (os' := [(qm, (o0, cO 8 (mo A th su (nI sz) bl (nI ci) (nI ma) pa en wr))), (q_a, (a0, cI Y n (iF f))), (q_mask, (A 27, cI Y 16 (iF (filN f'_1 0 (i + 1) (fun j => f'_1 j ^^^ f'_3 j))))), (q_block, (A 4, cI Y 16 (iF b))), (q_rounds, (A 3, cI Y 176 (iF rk))), (q_box, (A 2, cI Y 256 (iF sN))), (q_other, (A 5, cI Y 16 (iF o))), (q_hash, (A 29, cI Y 16 (iF hh))), (q_second, (A 28, cI Y 16 (iF f'_3)))]) (by rw [← filN_s0]) ?_
              exact ih70 (by omega)
        refine x_sub (lv' := [(0, .ref o0), (1, .ref a0), (2, .int (nI p)), (3, .ref a0), (4, .int (nI r)), (5, .int t), (6, .int 0)]) [1, 2, 3, 4, 5, 6, 0] rfl ?_
        refine x_loc (lv' := [(0, .ref o0), (1, .ref a0), (2, .int (nI p)), (3, .ref a0), (4, .int (nI r)), (5, .int t), (6, .int (nI 0))]) (by simp only [nlit, nI_add, pk_mul]) ?_
        refine x_ov (os' := [(qm, (o0, cO 8 (mo A th su (nI sz) bl (nI ci) (nI ma) pa en wr))), (q_a, (a0, cI Y n (iF f))), (q_mask, (A 27, cI Y 16 (iF (filN f'_1 0 0 (fun j => f'_1 j ^^^ f'_3 j))))), (q_block, (A 4, cI Y 16 (iF b))), (q_rounds, (A 3, cI Y 176 (iF rk))), (q_box, (A 2, cI Y 256 (iF sN))), (q_other, (A 5, cI Y 16 (iF o))), (q_hash, (A 29, cI Y 16 (iF hh))), (q_second, (A 28, cI Y 16 (iF f'_3)))]) (by rw [filN_0]) ?_
        exact L70 0 (Nat.le_refl _) (by omega)
      · exact absurd hc1 (by omega)
    · intro i hi3 ih3 lo3
      refine x_run C 2 2 (pc' := 7) (lv' := [(0, .ref o0), (1, .ref a0), (2, .int (nI p)), (3, .ref a0), (4, .int (nI r)), (5, .int t), (6, .int (nI i))]) (st' := [.int 16, .int (nI i)]) rfl ?_
      refine x_st (st' := [.int (nI 16), .int (nI i)]) (by simp only [nlit, nI_add, pk_mul]) ?_
      refine x_icmpN_ge C 4 (by omega) (by omega) rfl (tgt := 43) rfl (fun hc4 => ?_) (fun hc4 => ?_)
      · exact absurd hc4 (by omega)
      · refine x_run C 5 1 (pc' := 11) (lv' := [(0, .ref o0), (1, .ref a0), (2, .int (nI p)), (3, .ref a0), (4, .int (nI r)), (5, .int t), (6, .int (nI i))]) (st' := [.ref o0]) rfl ?_
        refine x_get C 6 rfl fX8_92 N 0 rfl (v := .ref (A 27)) rfl ?_
        refine x_run C 7 5 (pc' := 21) (lv' := [(0, .ref o0), (1, .ref a0), (2, .int (nI p)), (3, .ref a0), (4, .int (nI r)), (5, .int t), (6, .int (nI i))]) (st' := [.int ((nI p) + (nI i)), .ref a0, .int (nI i), .ref (A 27)]) rfl ?_
        refine x_st (st' := [.int (nI (p + i)), .ref a0, .int (nI i), .ref (A 27)]) (by simp only [nlit, nI_add, pk_mul]) ?_
        refine x_ialdN C 12 rfl N 1 rfl (by omega) (by omega) ?_
        refine x_st (st' := [.int (nI (f (p + i))), .int (nI i), .ref (A 27)]) rfl ?_
        refine x_iastN C 13 rfl N 2 rfl (by omega) (by omega) (os' := [(qm, (o0, cO 8 (mo A th su (nI sz) bl (nI ci) (nI ma) pa en wr))), (q_a, (a0, cI Y n (iF f))), (q_mask, (A 27, cI Y 16 (upd (iF (filN mk 0 i (fun j => f (p + j)))) i (nI (f (p + i)))))), (q_block, (A 4, cI Y 16 (iF b))), (q_rounds, (A 3, cI Y 176 (iF rk))), (q_box, (A 2, cI Y 256 (iF sN))), (q_other, (A 5, cI Y 16 (iF o))), (q_hash, (A 29, cI Y 16 (iF hh))), (q_second, (A 28, cI Y 16 (iF (filN sd 0 i (fun j => f (r + j))))))]) rfl ?_
        refine x_ov (os' := [(qm, (o0, cO 8 (mo A th su (nI sz) bl (nI ci) (nI ma) pa en wr))), (q_a, (a0, cI Y n (iF f))), (q_mask, (A 27, cI Y 16 (iF (updN (filN mk 0 i (fun j => f (p + j))) i (f (p + i)))))), (q_block, (A 4, cI Y 16 (iF b))), (q_rounds, (A 3, cI Y 176 (iF rk))), (q_box, (A 2, cI Y 256 (iF sN))), (q_other, (A 5, cI Y 16 (iF o))), (q_hash, (A 29, cI Y 16 (iF hh))), (q_second, (A 28, cI Y 16 (iF (filN sd 0 i (fun j => f (r + j))))))]) (by rw [upd_iF]) ?_
        refine x_run C 14 1 (pc' := 24) (lv' := [(0, .ref o0), (1, .ref a0), (2, .int (nI p)), (3, .ref a0), (4, .int (nI r)), (5, .int t), (6, .int (nI i))]) (st' := [.ref o0]) rfl ?_
        refine x_get C 15 rfl fX8_95 N 0 rfl (v := .ref (A 28)) rfl ?_
        refine x_run C 16 5 (pc' := 35) (lv' := [(0, .ref o0), (1, .ref a0), (2, .int (nI p)), (3, .ref a0), (4, .int (nI r)), (5, .int t), (6, .int (nI i))]) (st' := [.int ((nI r) + (nI i)), .ref a0, .int (nI i), .ref (A 28)]) rfl ?_
        refine x_st (st' := [.int (nI (r + i)), .ref a0, .int (nI i), .ref (A 28)]) (by simp only [nlit, nI_add, pk_mul]) ?_
        refine x_ialdN C 21 rfl N 1 rfl (by omega) (by omega) ?_
        refine x_st (st' := [.int (nI (f (r + i))), .int (nI i), .ref (A 28)]) rfl ?_
        refine x_iastN C 22 rfl N 8 rfl (by omega) (by omega) (os' := [(qm, (o0, cO 8 (mo A th su (nI sz) bl (nI ci) (nI ma) pa en wr))), (q_a, (a0, cI Y n (iF f))), (q_mask, (A 27, cI Y 16 (iF (updN (filN mk 0 i (fun j => f (p + j))) i (f (p + i)))))), (q_block, (A 4, cI Y 16 (iF b))), (q_rounds, (A 3, cI Y 176 (iF rk))), (q_box, (A 2, cI Y 256 (iF sN))), (q_other, (A 5, cI Y 16 (iF o))), (q_hash, (A 29, cI Y 16 (iF hh))), (q_second, (A 28, cI Y 16 (upd (iF (filN sd 0 i (fun j => f (r + j)))) i (nI (f (r + i))))))]) rfl ?_
        refine x_ov (os' := [(qm, (o0, cO 8 (mo A th su (nI sz) bl (nI ci) (nI ma) pa en wr))), (q_a, (a0, cI Y n (iF f))), (q_mask, (A 27, cI Y 16 (iF (updN (filN mk 0 i (fun j => f (p + j))) i (f (p + i)))))), (q_block, (A 4, cI Y 16 (iF b))), (q_rounds, (A 3, cI Y 176 (iF rk))), (q_box, (A 2, cI Y 256 (iF sN))), (q_other, (A 5, cI Y 16 (iF o))), (q_hash, (A 29, cI Y 16 (iF hh))), (q_second, (A 28, cI Y 16 (iF (updN (filN sd 0 i (fun j => f (r + j))) i (f (r + i))))))]) (by rw [upd_iF]) ?_
        refine x_run C 23 2 (pc' := 3) (lv' := [(6, .int ((nI i) + 1)), (0, .ref o0), (1, .ref a0), (2, .int (nI p)), (3, .ref a0), (4, .int (nI r)), (5, .int t)]) (st' := []) rfl ?_
        refine x_sub (lv' := [(0, .ref o0), (1, .ref a0), (2, .int (nI p)), (3, .ref a0), (4, .int (nI r)), (5, .int t), (6, .int ((nI i) + 1))]) [1, 2, 3, 4, 5, 6, 0] rfl ?_
        refine x_loc (lv' := [(0, .ref o0), (1, .ref a0), (2, .int (nI p)), (3, .ref a0), (4, .int (nI r)), (5, .int t), (6, .int (nI (i + 1)))]) (by simp only [nlit, nI_add, pk_mul]) ?_
        refine x_ov (os' := [(qm, (o0, cO 8 (mo A th su (nI sz) bl (nI ci) (nI ma) pa en wr))), (q_a, (a0, cI Y n (iF f))), (q_mask, (A 27, cI Y 16 (iF (filN mk 0 (i + 1) (fun j => f (p + j)))))), (q_block, (A 4, cI Y 16 (iF b))), (q_rounds, (A 3, cI Y 176 (iF rk))), (q_box, (A 2, cI Y 256 (iF sN))), (q_other, (A 5, cI Y 16 (iF o))), (q_hash, (A 29, cI Y 16 (iF hh))), (q_second, (A 28, cI Y 16 (iF (filN sd 0 (i + 1) (fun j => f (r + j))))))]) (by rw [← filN_s0, ← filN_s0]) ?_
        exact ih3 (by omega)
  refine x_sub (lv' := [(0, .ref o0), (1, .ref a0), (2, .int (nI p)), (3, .ref a0), (4, .int (nI r)), (5, .int t), (6, .int 0)]) [1, 2, 3, 4, 5, 6, 0] rfl ?_
  refine x_loc (lv' := [(0, .ref o0), (1, .ref a0), (2, .int (nI p)), (3, .ref a0), (4, .int (nI r)), (5, .int t), (6, .int (nI 0))]) (by simp only [nlit, nI_add, pk_mul]) ?_
  refine x_ov (os' := [(qm, (o0, cO 8 (mo A th su (nI sz) bl (nI ci) (nI ma) pa en wr))), (q_a, (a0, cI Y n (iF f))), (q_mask, (A 27, cI Y 16 (iF (filN mk 0 0 (fun j => f (p + j)))))), (q_block, (A 4, cI Y 16 (iF b))), (q_rounds, (A 3, cI Y 176 (iF rk))), (q_box, (A 2, cI Y 256 (iF sN))), (q_other, (A 5, cI Y 16 (iF o))), (q_hash, (A 29, cI Y 16 (iF hh))), (q_second, (A 28, cI Y 16 (iF (filN sd 0 0 (fun j => f (r + j))))))]) (by rw [filN_0, filN_0]) ?_
  exact L3 0 (Nat.le_refl _) (by omega)
