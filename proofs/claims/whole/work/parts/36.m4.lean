theorem spr_0 {f : Nat → Int32} {m k : Nat} {r : Nat → Nat} (h : ∀ j, j < 4 * (4 + m) + k → r j = kb (ek f (m + 1)).1 j) {j : Nat} (hj : j < 4 * (4 + m)) : r j = kb (ek f m).1 j := (h j (by omega)).trans (ek_o f m hj)
theorem spr_1 {f : Nat → Int32} {m k : Nat} {r : Nat → Nat} (h : ∀ j, j < 4 * (4 + m) + k → r j = kb (ek f (m + 1)).1 j) (hk : k < 4) (h4 : (4 + m) % 4 = 0) (h0 : k = 0) : r (4 * (4 + m) - 16 + k) ^^^ (sN (r (4 * (4 + m) - 4 + (k + 1) % 4)) ^^^ pw m) = kb (ek f (m + 1)).1 (4 * (4 + m) + k) := by
  rw [ek_n f m hk, if_pos h4, if_pos h0, spr_0 h (by omega), spr_0 h (by omega)]
theorem spr_2 {f : Nat → Int32} {m k : Nat} {r : Nat → Nat} (h : ∀ j, j < 4 * (4 + m) + k → r j = kb (ek f (m + 1)).1 j) (hk : k < 4) (h4 : (4 + m) % 4 = 0) (h0 : ¬ k = 0) : r (4 * (4 + m) - 16 + k) ^^^ (sN (r (4 * (4 + m) - 4 + (k + 1) % 4)) ^^^ 0) = kb (ek f (m + 1)).1 (4 * (4 + m) + k) := by
  rw [ek_n f m hk, if_pos h4, if_neg h0, spr_0 h (by omega), spr_0 h (by omega)]
theorem spr_3 {f : Nat → Int32} {m k : Nat} {r : Nat → Nat} (h : ∀ j, j < 4 * (4 + m) + k → r j = kb (ek f (m + 1)).1 j) (hk : k < 4) (h4 : ¬ (4 + m) % 4 = 0) : r (4 * (4 + m) - 16 + k) ^^^ r (4 * (4 + m) - 4 + k) = kb (ek f (m + 1)).1 (4 * (4 + m) + k) := by
  rw [ek_n f m hk, if_neg h4, spr_0 h (by omega), spr_0 h (by omega)]
theorem fd_by (v : Int64) {m : Nat} (hm : m < 8) : (jlshr v (8 * nI m) &&& 255).toInt32 = nI (lby v m) := by
  rw [show (8 : Int32) * nI m = nI (8 * m) from by simp only [nlit, pk_mul]]
  have e : (nI (8 * m)).toInt64 &&& 63 = Int64.ofNat (8 * m) := by
    match m, hm with
    | 0, _ => decide
    | 1, _ => decide
    | 2, _ => decide
    | 3, _ => decide
    | 4, _ => decide
    | 5, _ => decide
    | 6, _ => decide
    | 7, _ => decide
    | m + 8, h => exact absurd h (by omega)
  have m8 : ∀ i, i < 64 → (255 : Int64).toBitVec.getLsbD i = decide (i < 8) := by decide +kernel
  apply Int32.toBitVec_inj.mp
  apply BitVec.eq_of_getLsbD_eq
  intro i hi
  rw [Int64.toBitVec_toInt32, BitVec.signExtend_eq_setWidth_of_le _ (by decide), BitVec.getLsbD_setWidth, Int64.toBitVec_and, BitVec.getLsbD_and, m8 i (by omega), decide_eq_true hi, Bool.true_and]
  show ((v >>> ((nI (8 * m)).toInt64 &&& 63)).toBitVec.getLsbD i && _) = (BitVec.ofNat 32 (lby v m)).getLsbD i
  rw [BitVec.getLsbD_ofNat, decide_eq_true hi, Bool.true_and, lby_bit, e]
  by_cases h8 : i < 8
  · rw [decide_eq_true h8, Bool.and_true, Bool.true_and, Int64.toBitVec_shiftRight]
    have s : (Int64.ofNat (8 * m)).toBitVec.smod 64 = BitVec.ofNat 64 (8 * m) := by
      match m, hm with
      | 0, _ => decide
      | 1, _ => decide
      | 2, _ => decide
      | 3, _ => decide
      | 4, _ => decide
      | 5, _ => decide
      | 6, _ => decide
      | 7, _ => decide
      | m + 8, h => exact absurd h (by omega)
    rw [s]
    show (v.toBitVec.sshiftRight (BitVec.ofNat 64 (8 * m)).toNat).getLsbD i = _
    rw [BitVec.toNat_ofNat, Nat.mod_eq_of_lt (by omega), BitVec.getLsbD_sshiftRight]
    simp [show 8 * m + i < 64 by omega, show ¬ 64 ≤ i by omega]
  · rw [decide_eq_false h8, Bool.and_false, Bool.false_and]
theorem tappN_s {t : Nat → Nat} {s : Nat} {v : Int64} {n i : Nat} (hi : i < n) : updN (tapp t s v n i) (s + i) (lby v (n - i - 1)) = tapp t s v n (i + 1) := by
  funext j
  unfold updN tapp
  by_cases h : j = s + i
  · subst h
    rw [if_pos rfl, if_pos (by omega), show n - 1 - (s + i - s) = n - i - 1 by omega]
  · rw [if_neg h]
    by_cases h2 : s ≤ j ∧ j < s + i
    · rw [if_pos h2, if_pos (by omega)]
    · rw [if_neg h2, if_neg (by omega)]
set_option maxHeartbeats 4000000 in
set_option maxRecDepth 100000 in
theorem c_X8_spreads (Y : xD) (w : va_W) (o0 : Nat) (A : Nat → Nat) (th : Int32) (su : Int32) (sz : Nat) (bl : Int32) (ci : Nat) (ma : Nat) (pa : Int32) (en : Int32) (wr : Int32) (r : Nat → Nat) (b : Nat → Nat) (fk : Nat → Int32) (qm q_rounds q_block q_box : Nat) (e0 : w[qm]? = some (o0, cO 8 (mo A th su (nI sz) bl (nI ci) (nI ma) pa en wr))) (e1 : w[q_rounds]? = some (A 3, cI Y 176 (iF r))) (e2 : w[q_block]? = some (A 4, cI Y 16 (iF b))) (e3 : w[q_box]? = some (A 2, cI Y 256 (iF sN))) (N : xN w.length [qm, q_rounds, q_block, q_box]) (hb : ∀ j, j < 16 → b j = kb fk j) : Ct Y mX8_spreads 1 0 0 [.ref o0] w (fun v w' => v = none ∧ ∃ (r' : Nat → Nat), (∀ j, j < 176 → r' j = kb (ek fk 40).1 j) ∧ w' = ovl w [(qm, (o0, cO 8 (mo A th su (nI sz) bl (nI ci) (nI ma) pa en wr))), (q_rounds, (A 3, cI Y 176 (iF r'))), (q_block, (A 4, cI Y 16 (iF b))), (q_box, (A 2, cI Y 256 (iF sN)))]) := by
  refine Ct.intro (T := tX8_spreads) (by decide) oX8_spreads (Nat.le_of_ble_eq_true rfl) (fun G C B => ?_)
  refine x_lay [(qm, (o0, cO 8 (mo A th su (nI sz) bl (nI ci) (nI ma) pa en wr))), (q_rounds, (A 3, cI Y 176 (iF r))), (q_block, (A 4, cI Y 16 (iF b))), (q_box, (A 2, cI Y 256 (iF sN)))] (lay_cons e0 (lay_cons e1 (lay_cons e2 (lay_cons e3 lay_nil)))) ?_
  refine x_run C 0 2 (pc' := 2) (lv' := [(1, .int 0), (0, .ref o0)]) (st' := []) rfl ?_
  have L2 : ∀ i : Nat, 0 ≤ i → i ≤ 16 → X G Y 0 0 2 [(0, .ref o0), (1, .int (nI i))] [] (ovl w [(qm, (o0, cO 8 (mo A th su (nI sz) bl (nI ci) (nI ma) pa en wr))), (q_rounds, (A 3, cI Y 176 (iF (filN r 0 i b)))), (q_block, (A 4, cI Y 16 (iF b))), (q_box, (A 2, cI Y 256 (iF sN)))]) := by
    intro i lo2 hi2
    revert lo2
    refine x_up (fun i => 0 ≤ i → X G Y 0 0 2 [(0, .ref o0), (1, .int (nI i))] [] (ovl w [(qm, (o0, cO 8 (mo A th su (nI sz) bl (nI ci) (nI ma) pa en wr))), (q_rounds, (A 3, cI Y 176 (iF (filN r 0 i b)))), (q_block, (A 4, cI Y 16 (iF b))), (q_box, (A 2, cI Y 256 (iF sN)))])) 16 ?_ ?_ i hi2
    · intro lo2
      refine x_run C 2 2 (pc' := 5) (lv' := [(0, .ref o0), (1, .int (nI 16))]) (st' := [.int 16, .int (nI 16)]) rfl ?_
      refine x_st (st' := [.int (nI 16), .int (nI 16)]) (by simp only [nlit, nI_add, pk_mul]) ?_
      refine x_icmpN_ge C 4 (by omega) (by omega) rfl (tgt := 26) rfl (fun hc1 => ?_) (fun hc1 => ?_)
      · refine x_run C 15 4 (pc' := 30) (lv' := [(2, .int 4), (1, .int 1), (0, .ref o0)]) (st' := []) rfl ?_
        have L30 : ∀ m : Nat, 0 ≤ m → m ≤ 40 → ∀ r1 : Nat → Nat, (∀ j, j < 4 * (4 + m) → r1 j = kb (ek fk m).1 j) → X G Y 0 0 30 [(0, .ref o0), (1, .int (nI (pw m))), (2, .int (nI (4 + m)))] [] (ovl w [(qm, (o0, cO 8 (mo A th su (nI sz) bl (nI ci) (nI ma) pa en wr))), (q_rounds, (A 3, cI Y 176 (iF r1))), (q_block, (A 4, cI Y 16 (iF b))), (q_box, (A 2, cI Y 256 (iF sN)))]) := by
          intro m lo30 hi30
          revert lo30
          refine x_up (fun m => 0 ≤ m → ∀ r1 : Nat → Nat, (∀ j, j < 4 * (4 + m) → r1 j = kb (ek fk m).1 j) → X G Y 0 0 30 [(0, .ref o0), (1, .int (nI (pw m))), (2, .int (nI (4 + m)))] [] (ovl w [(qm, (o0, cO 8 (mo A th su (nI sz) bl (nI ci) (nI ma) pa en wr))), (q_rounds, (A 3, cI Y 176 (iF r1))), (q_block, (A 4, cI Y 16 (iF b))), (q_box, (A 2, cI Y 256 (iF sN)))])) 40 ?_ ?_ m hi30
          · intro lo30 r1 iv30
            refine x_run C 19 2 (pc' := 33) (lv' := [(0, .ref o0), (1, .int (nI (pw 40))), (2, .int (nI (4 + 40)))]) (st' := [.int 44, .int (nI (4 + 40))]) rfl ?_
            refine x_st (st' := [.int (nI 44), .int (nI (4 + 40))]) (by simp only [nlit, nI_add, pk_mul]) ?_
            refine x_icmpN_ge C 21 (by omega) (by omega) rfl (tgt := 150) rfl (fun hc2 => ?_) (fun hc2 => ?_)
            · exact x_vret C B rfl 100 rfl (Nat.zero_le _) (Nat.zero_le _) ⟨rfl, _, iv30, rfl⟩
            · exact absurd hc2 (by omega)
          · intro m hi30 ih30 lo30 r1 iv30
            refine x_run C 19 2 (pc' := 33) (lv' := [(0, .ref o0), (1, .int (nI (pw m))), (2, .int (nI (4 + m)))]) (st' := [.int 44, .int (nI (4 + m))]) rfl ?_
            refine x_st (st' := [.int (nI 44), .int (nI (4 + m))]) (by simp only [nlit, nI_add, pk_mul]) ?_
            refine x_icmpN_ge C 21 (by omega) (by omega) rfl (tgt := 150) rfl (fun hc3 => ?_) (fun hc3 => ?_)
            · exact absurd hc3 (by omega)
            · refine x_run C 22 2 (pc' := 38) (lv' := [(3, .int 0), (0, .ref o0), (1, .int (nI (pw m))), (2, .int (nI (4 + m)))]) (st' := []) rfl ?_
              have L38 : ∀ k : Nat, 0 ≤ k → k ≤ 4 → ∀ r2 : Nat → Nat, (∀ j, j < 4 * (4 + m) + k → r2 j = kb (ek fk (m + 1)).1 j) → X G Y 0 0 38 [(0, .ref o0), (1, .int (nI (pw m))), (2, .int (nI (4 + m))), (3, .int (nI k))] [] (ovl w [(qm, (o0, cO 8 (mo A th su (nI sz) bl (nI ci) (nI ma) pa en wr))), (q_rounds, (A 3, cI Y 176 (iF r2))), (q_block, (A 4, cI Y 16 (iF b))), (q_box, (A 2, cI Y 256 (iF sN)))]) := by
                intro k lo38 hi38
                revert lo38
                refine x_up (fun k => 0 ≤ k → ∀ r2 : Nat → Nat, (∀ j, j < 4 * (4 + m) + k → r2 j = kb (ek fk (m + 1)).1 j) → X G Y 0 0 38 [(0, .ref o0), (1, .int (nI (pw m))), (2, .int (nI (4 + m))), (3, .int (nI k))] [] (ovl w [(qm, (o0, cO 8 (mo A th su (nI sz) bl (nI ci) (nI ma) pa en wr))), (q_rounds, (A 3, cI Y 176 (iF r2))), (q_block, (A 4, cI Y 16 (iF b))), (q_box, (A 2, cI Y 256 (iF sN)))])) 4 ?_ ?_ k hi38
                · intro lo38 r2 iv38
                  refine x_run C 24 2 (pc' := 40) (lv' := [(0, .ref o0), (1, .int (nI (pw m))), (2, .int (nI (4 + m))), (3, .int (nI 4))]) (st' := [.int 4, .int (nI 4)]) rfl ?_
                  refine x_st (st' := [.int (nI 4), .int (nI 4)]) (by simp only [nlit, nI_add, pk_mul]) ?_
                  refine x_icmpN_ge C 26 (by omega) (by omega) rfl (tgt := 128) rfl (fun hc4 => ?_) (fun hc4 => ?_)
                  · refine x_run C 88 3 (pc' := 131) (lv' := [(0, .ref o0), (1, .int (nI (pw m))), (2, .int (nI (4 + m))), (3, .int (nI 4))]) (st' := [.int (jrem (nI (4 + m)) 4)]) rfl ?_
                    refine x_st (st' := [.int (nI ((4 + m) % 4))]) (by simp only [nlit, nI_add, pk_mul, pk_rem (show (4 + m) < 2 ^ 31 by omega) (show 0 < 4 by decide) (show 4 < 2 ^ 31 by decide), jrem]) ?_
                    refine x_ifN_ne C 91 (by omega) rfl (tgt := 142) rfl (fun hc5 => ?_) (fun hc5 => ?_)
                    · refine x_run C 96 4 (pc' := 30) (lv' := [(2, .int ((nI (4 + m)) + 1)), (1, .int (nI (pw m))), (0, .ref o0), (3, .int (nI 4))]) (st' := []) rfl ?_
                      refine x_sub (lv' := [(0, .ref o0), (1, .int (nI (pw m))), (2, .int ((nI (4 + m)) + 1))]) [2, 1, 0] rfl ?_
                      refine x_loc (lv' := [(0, .ref o0), (1, .int (nI (pw (m + 1)))), (2, .int (nI (4 + (m + 1))))]) (by first | simp only [pw, if_pos (show (4 + m) % 4 = 0 by omega), nlit, nI_add, Nat.add_assoc] | simp only [pw, if_neg (show ¬ (4 + m) % 4 = 0 by omega), nlit, nI_add, Nat.add_assoc]) ?_
                      exact ih30 (by omega) _ (fun j hj => iv38 j (by omega))
                    · refine x_run C 92 2 (pc' := 136) (lv' := [(0, .ref o0), (1, .int (nI (pw m))), (2, .int (nI (4 + m))), (3, .int (nI 4))]) (st' := [.int 2, .int (nI (pw m))]) rfl ?_
                      refine x_cs C 94 (As := [.int (nI (pw m)), .int 2]) (rest := []) rfl vX8_110 N (c_X8_times2 Y _ (pw m)    (pw_lt _)) rfl rfl (Nat.le_of_ble_eq_true rfl) ⟨Nat.le_of_ble_eq_true rfl, Nat.le_of_ble_eq_true rfl⟩ ⟨Nat.zero_le _, Nat.zero_le _⟩ [] trivial (os' := [(qm, (o0, cO 8 (mo A th su (nI sz) bl (nI ci) (nI ma) pa en wr))), (q_rounds, (A 3, cI Y 176 (iF r2))), (q_block, (A 4, cI Y 16 (iF b))), (q_box, (A 2, cI Y 256 (iF sN)))]) rfl (st' := [.int (nI (x2 (pw m)))]) rfl ?_
                      refine x_run C 95 1 (pc' := 143) (lv' := [(0, .ref o0), (1, .int (nI (pw m))), (2, .int (nI (4 + m))), (3, .int (nI 4))]) (st' := [.int (nI (x2 (pw m)))]) rfl ?_
                      refine x_run C 97 3 (pc' := 30) (lv' := [(2, .int ((nI (4 + m)) + 1)), (1, .int (nI (x2 (pw m)))), (0, .ref o0), (3, .int (nI 4))]) (st' := []) rfl ?_
                      refine x_sub (lv' := [(0, .ref o0), (1, .int (nI (x2 (pw m)))), (2, .int ((nI (4 + m)) + 1))]) [2, 1, 0] rfl ?_
                      refine x_loc (lv' := [(0, .ref o0), (1, .int (nI (pw (m + 1)))), (2, .int (nI (4 + (m + 1))))]) (by first | simp only [pw, if_pos (show (4 + m) % 4 = 0 by omega), nlit, nI_add, Nat.add_assoc] | simp only [pw, if_neg (show ¬ (4 + m) % 4 = 0 by omega), nlit, nI_add, Nat.add_assoc]) ?_
                      exact ih30 (by omega) _ (fun j hj => iv38 j (by omega))
                  · exact absurd hc4 (by omega)
                · intro k hi38 ih38 lo38 r2 iv38
                  refine x_run C 24 2 (pc' := 40) (lv' := [(0, .ref o0), (1, .int (nI (pw m))), (2, .int (nI (4 + m))), (3, .int (nI k))]) (st' := [.int 4, .int (nI k)]) rfl ?_
                  refine x_st (st' := [.int (nI 4), .int (nI k)]) (by simp only [nlit, nI_add, pk_mul]) ?_
                  refine x_icmpN_ge C 26 (by omega) (by omega) rfl (tgt := 128) rfl (fun hc6 => ?_) (fun hc6 => ?_)
                  · exact absurd hc6 (by omega)
                  · refine x_run C 27 1 (pc' := 44) (lv' := [(0, .ref o0), (1, .int (nI (pw m))), (2, .int (nI (4 + m))), (3, .int (nI k))]) (st' := [.ref o0]) rfl ?_
                    refine x_get C 28 rfl fX8_19 N 0 rfl (v := .ref (A 3)) rfl ?_
                    refine x_run C 29 7 (pc' := 54) (lv' := [(0, .ref o0), (1, .int (nI (pw m))), (2, .int (nI (4 + m))), (3, .int (nI k))]) (st' := [.int (((4 * (nI (4 + m))) - 4) + (nI k)), .ref (A 3)]) rfl ?_
                    refine x_st (st' := [.int (nI (((4 * (4 + m)) - 4) + k)), .ref (A 3)]) (by simp only [nlit, nI_add, pk_mul, pk_sub (show 4 ≤ (4 * (4 + m)) by omega)]) ?_
                    refine x_ialdN C 36 rfl N 1 rfl (by omega) (by omega) ?_
                    refine x_st (st' := [.int (nI (r2 (((4 * (4 + m)) - 4) + k)))]) rfl ?_
                    refine x_run C 37 4 (pc' := 60) (lv' := [(4, .int (nI (r2 (((4 * (4 + m)) - 4) + k)))), (0, .ref o0), (1, .int (nI (pw m))), (2, .int (nI (4 + m))), (3, .int (nI k))]) (st' := [.int (jrem (nI (4 + m)) 4)]) rfl ?_
                    refine x_st (st' := [.int (nI ((4 + m) % 4))]) (by simp only [nlit, nI_add, pk_mul, pk_rem (show (4 + m) < 2 ^ 31 by omega) (show 0 < 4 by decide) (show 4 < 2 ^ 31 by decide), jrem]) ?_
                    refine x_ifN_ne C 41 (by omega) rfl (tgt := 96) rfl (fun hc7 => ?_) (fun hc7 => ?_)
                    · refine x_run C 66 1 (pc' := 97) (lv' := [(4, .int (nI (r2 (((4 * (4 + m)) - 4) + k)))), (0, .ref o0), (1, .int (nI (pw m))), (2, .int (nI (4 + m))), (3, .int (nI k))]) (st' := [.ref o0]) rfl ?_
                      refine x_get C 67 rfl fX8_19 N 0 rfl (v := .ref (A 3)) rfl ?_
                      refine x_run C 68 6 (pc' := 106) (lv' := [(4, .int (nI (r2 (((4 * (4 + m)) - 4) + k)))), (0, .ref o0), (1, .int (nI (pw m))), (2, .int (nI (4 + m))), (3, .int (nI k))]) (st' := [.ref o0, .int ((4 * (nI (4 + m))) + (nI k)), .ref (A 3)]) rfl ?_
                      refine x_get C 74 rfl fX8_19 N 0 rfl (v := .ref (A 3)) rfl ?_
                      refine x_run C 75 7 (pc' := 117) (lv' := [(4, .int (nI (r2 (((4 * (4 + m)) - 4) + k)))), (0, .ref o0), (1, .int (nI (pw m))), (2, .int (nI (4 + m))), (3, .int (nI k))]) (st' := [.int (((4 * (nI (4 + m))) - 16) + (nI k)), .ref (A 3), .int ((4 * (nI (4 + m))) + (nI k)), .ref (A 3)]) rfl ?_
                      refine x_st (st' := [.int (nI (((4 * (4 + m)) - 16) + k)), .ref (A 3), .int ((4 * (nI (4 + m))) + (nI k)), .ref (A 3)]) (by simp only [nlit, nI_add, pk_mul, pk_sub (show 16 ≤ (4 * (4 + m)) by omega)]) ?_
                      refine x_ialdN C 82 rfl N 1 rfl (by omega) (by omega) ?_
                      refine x_st (st' := [.int (nI (r2 (((4 * (4 + m)) - 16) + k))), .int ((4 * (nI (4 + m))) + (nI k)), .ref (A 3)]) rfl ?_
                      refine x_run C 83 2 (pc' := 121) (lv' := [(4, .int (nI (r2 (((4 * (4 + m)) - 4) + k)))), (0, .ref o0), (1, .int (nI (pw m))), (2, .int (nI (4 + m))), (3, .int (nI k))]) (st' := [.int ((nI (r2 (((4 * (4 + m)) - 16) + k))) ^^^ (nI (r2 (((4 * (4 + m)) - 4) + k)))), .int ((4 * (nI (4 + m))) + (nI k)), .ref (A 3)]) rfl ?_
                      refine x_st (st' := [.int ((nI (r2 (((4 * (4 + m)) - 16) + k))) ^^^ (nI (r2 (((4 * (4 + m)) - 4) + k)))), .int (nI ((4 * (4 + m)) + k)), .ref (A 3)]) (by simp only [nlit, nI_add, pk_mul]) ?_
                      refine x_st (st' := [.int (nI ((r2 (((4 * (4 + m)) - 16) + k)) ^^^ (r2 (((4 * (4 + m)) - 4) + k)))), .int (nI ((4 * (4 + m)) + k)), .ref (A 3)]) (by simp only [nlit, nI_add, pk_mul, nx_xor]) ?_
                      refine x_iastN C 85 rfl N 1 rfl (by omega) (by omega) (os' := [(qm, (o0, cO 8 (mo A th su (nI sz) bl (nI ci) (nI ma) pa en wr))), (q_rounds, (A 3, cI Y 176 (upd (iF r2) ((4 * (4 + m)) + k) (nI ((r2 (((4 * (4 + m)) - 16) + k)) ^^^ (r2 (((4 * (4 + m)) - 4) + k))))))), (q_block, (A 4, cI Y 16 (iF b))), (q_box, (A 2, cI Y 256 (iF sN)))]) rfl ?_
                      refine x_ov (os' := [(qm, (o0, cO 8 (mo A th su (nI sz) bl (nI ci) (nI ma) pa en wr))), (q_rounds, (A 3, cI Y 176 (iF (updN r2 ((4 * (4 + m)) + k) ((r2 (((4 * (4 + m)) - 16) + k)) ^^^ (r2 (((4 * (4 + m)) - 4) + k))))))), (q_block, (A 4, cI Y 16 (iF b))), (q_box, (A 2, cI Y 256 (iF sN)))]) (by rw [upd_iF]) ?_
                      refine x_run C 86 2 (pc' := 38) (lv' := [(3, .int ((nI k) + 1)), (4, .int (nI (r2 (((4 * (4 + m)) - 4) + k)))), (0, .ref o0), (1, .int (nI (pw m))), (2, .int (nI (4 + m)))]) (st' := []) rfl ?_
                      refine x_sub (lv' := [(0, .ref o0), (1, .int (nI (pw m))), (2, .int (nI (4 + m))), (3, .int ((nI k) + 1))]) [2, 3, 4, 0] rfl ?_
                      refine x_loc (lv' := [(0, .ref o0), (1, .int (nI (pw m))), (2, .int (nI (4 + m))), (3, .int (nI (k + 1)))]) (by simp only [nlit, nI_add, pk_mul]) ?_
                      exact ih38 (by omega) _ (inv_B iv38 (by first | exact spr_1 iv38 (by omega) (by omega) (by omega) | exact spr_2 iv38 (by omega) (by omega) (by omega) | exact spr_3 iv38 (by omega) (by omega)))
                    · refine x_run C 42 1 (pc' := 64) (lv' := [(4, .int (nI (r2 (((4 * (4 + m)) - 4) + k)))), (0, .ref o0), (1, .int (nI (pw m))), (2, .int (nI (4 + m))), (3, .int (nI k))]) (st' := [.ref o0]) rfl ?_
                      refine x_get C 43 rfl fX8_16 N 0 rfl (v := .ref (A 2)) rfl ?_
                      refine x_run C 44 1 (pc' := 68) (lv' := [(4, .int (nI (r2 (((4 * (4 + m)) - 4) + k)))), (0, .ref o0), (1, .int (nI (pw m))), (2, .int (nI (4 + m))), (3, .int (nI k))]) (st' := [.ref o0, .ref (A 2)]) rfl ?_
                      refine x_get C 45 rfl fX8_19 N 0 rfl (v := .ref (A 3)) rfl ?_
                      refine x_run C 46 11 (pc' := 82) (lv' := [(4, .int (nI (r2 (((4 * (4 + m)) - 4) + k)))), (0, .ref o0), (1, .int (nI (pw m))), (2, .int (nI (4 + m))), (3, .int (nI k))]) (st' := [.int (((4 * (nI (4 + m))) - 4) + (jrem ((nI k) + 1) 4)), .ref (A 3), .ref (A 2)]) rfl ?_
                      refine x_st (st' := [.int (nI (((4 * (4 + m)) - 4) + ((k + 1) % 4))), .ref (A 3), .ref (A 2)]) (by simp only [nlit, nI_add, pk_mul, pk_sub (show 4 ≤ (4 * (4 + m)) by omega), pk_rem (show (k + 1) < 2 ^ 31 by omega) (show 0 < 4 by decide) (show 4 < 2 ^ 31 by decide), jrem]) ?_
                      refine x_ialdN C 57 rfl N 1 rfl (by omega) (by omega) ?_
                      refine x_st (st' := [.int (nI (r2 (((4 * (4 + m)) - 4) + ((k + 1) % 4)))), .ref (A 2)]) rfl ?_
                      refine x_ialdN C 58 rfl N 3 rfl (by rw [iv38 _ (by omega)]; exact kb_lt _ _) (by omega) ?_
                      refine x_st (st' := [.int (nI (sN (r2 (((4 * (4 + m)) - 4) + ((k + 1) % 4)))))]) rfl ?_
                      refine x_run C 59 1 (pc' := 85) (lv' := [(4, .int (nI (r2 (((4 * (4 + m)) - 4) + k)))), (0, .ref o0), (1, .int (nI (pw m))), (2, .int (nI (4 + m))), (3, .int (nI k))]) (st' := [.int (nI k), .int (nI (sN (r2 (((4 * (4 + m)) - 4) + ((k + 1) % 4)))))]) rfl ?_
                      refine x_ifN_ne C 60 (by omega) rfl (tgt := 92) rfl (fun hc8 => ?_) (fun hc8 => ?_)
                      · refine x_run C 63 4 (pc' := 97) (lv' := [(4, .int ((nI (sN (r2 (((4 * (4 + m)) - 4) + ((k + 1) % 4))))) ^^^ 0)), (0, .ref o0), (1, .int (nI (pw m))), (2, .int (nI (4 + m))), (3, .int (nI k))]) (st' := [.ref o0]) rfl ?_
                        refine x_get C 67 rfl fX8_19 N 0 rfl (v := .ref (A 3)) rfl ?_
                        refine x_run C 68 6 (pc' := 106) (lv' := [(4, .int ((nI (sN (r2 (((4 * (4 + m)) - 4) + ((k + 1) % 4))))) ^^^ 0)), (0, .ref o0), (1, .int (nI (pw m))), (2, .int (nI (4 + m))), (3, .int (nI k))]) (st' := [.ref o0, .int ((4 * (nI (4 + m))) + (nI k)), .ref (A 3)]) rfl ?_
                        refine x_get C 74 rfl fX8_19 N 0 rfl (v := .ref (A 3)) rfl ?_
                        refine x_run C 75 7 (pc' := 117) (lv' := [(4, .int ((nI (sN (r2 (((4 * (4 + m)) - 4) + ((k + 1) % 4))))) ^^^ 0)), (0, .ref o0), (1, .int (nI (pw m))), (2, .int (nI (4 + m))), (3, .int (nI k))]) (st' := [.int (((4 * (nI (4 + m))) - 16) + (nI k)), .ref (A 3), .int ((4 * (nI (4 + m))) + (nI k)), .ref (A 3)]) rfl ?_
                        refine x_st (st' := [.int (nI (((4 * (4 + m)) - 16) + k)), .ref (A 3), .int ((4 * (nI (4 + m))) + (nI k)), .ref (A 3)]) (by simp only [nlit, nI_add, pk_mul, pk_sub (show 16 ≤ (4 * (4 + m)) by omega)]) ?_
                        refine x_ialdN C 82 rfl N 1 rfl (by omega) (by omega) ?_
                        refine x_st (st' := [.int (nI (r2 (((4 * (4 + m)) - 16) + k))), .int ((4 * (nI (4 + m))) + (nI k)), .ref (A 3)]) rfl ?_
                        refine x_run C 83 2 (pc' := 121) (lv' := [(4, .int ((nI (sN (r2 (((4 * (4 + m)) - 4) + ((k + 1) % 4))))) ^^^ 0)), (0, .ref o0), (1, .int (nI (pw m))), (2, .int (nI (4 + m))), (3, .int (nI k))]) (st' := [.int ((nI (r2 (((4 * (4 + m)) - 16) + k))) ^^^ ((nI (sN (r2 (((4 * (4 + m)) - 4) + ((k + 1) % 4))))) ^^^ 0)), .int ((4 * (nI (4 + m))) + (nI k)), .ref (A 3)]) rfl ?_
                        refine x_st (st' := [.int ((nI (r2 (((4 * (4 + m)) - 16) + k))) ^^^ ((nI (sN (r2 (((4 * (4 + m)) - 4) + ((k + 1) % 4))))) ^^^ 0)), .int (nI ((4 * (4 + m)) + k)), .ref (A 3)]) (by simp only [nlit, nI_add, pk_mul]) ?_
                        refine x_st (st' := [.int (nI ((r2 (((4 * (4 + m)) - 16) + k)) ^^^ ((sN (r2 (((4 * (4 + m)) - 4) + ((k + 1) % 4)))) ^^^ 0))), .int (nI ((4 * (4 + m)) + k)), .ref (A 3)]) (by simp only [nlit, nI_add, pk_mul, nx_xor, nx_xor]) ?_
                        refine x_iastN C 85 rfl N 1 rfl (by omega) (by omega) (os' := [(qm, (o0, cO 8 (mo A th su (nI sz) bl (nI ci) (nI ma) pa en wr))), (q_rounds, (A 3, cI Y 176 (upd (iF r2) ((4 * (4 + m)) + k) (nI ((r2 (((4 * (4 + m)) - 16) + k)) ^^^ ((sN (r2 (((4 * (4 + m)) - 4) + ((k + 1) % 4)))) ^^^ 0)))))), (q_block, (A 4, cI Y 16 (iF b))), (q_box, (A 2, cI Y 256 (iF sN)))]) rfl ?_
                        refine x_ov (os' := [(qm, (o0, cO 8 (mo A th su (nI sz) bl (nI ci) (nI ma) pa en wr))), (q_rounds, (A 3, cI Y 176 (iF (updN r2 ((4 * (4 + m)) + k) ((r2 (((4 * (4 + m)) - 16) + k)) ^^^ ((sN (r2 (((4 * (4 + m)) - 4) + ((k + 1) % 4)))) ^^^ 0)))))), (q_block, (A 4, cI Y 16 (iF b))), (q_box, (A 2, cI Y 256 (iF sN)))]) (by rw [upd_iF]) ?_
                        refine x_run C 86 2 (pc' := 38) (lv' := [(3, .int ((nI k) + 1)), (4, .int ((nI (sN (r2 (((4 * (4 + m)) - 4) + ((k + 1) % 4))))) ^^^ 0)), (0, .ref o0), (1, .int (nI (pw m))), (2, .int (nI (4 + m)))]) (st' := []) rfl ?_
                        refine x_sub (lv' := [(0, .ref o0), (1, .int (nI (pw m))), (2, .int (nI (4 + m))), (3, .int ((nI k) + 1))]) [2, 3, 4, 0] rfl ?_
                        refine x_loc (lv' := [(0, .ref o0), (1, .int (nI (pw m))), (2, .int (nI (4 + m))), (3, .int (nI (k + 1)))]) (by simp only [nlit, nI_add, pk_mul]) ?_
                        exact ih38 (by omega) _ (inv_B iv38 (by first | exact spr_1 iv38 (by omega) (by omega) (by omega) | exact spr_2 iv38 (by omega) (by omega) (by omega) | exact spr_3 iv38 (by omega) (by omega)))
                      · refine x_run C 61 2 (pc' := 93) (lv' := [(4, .int (nI (r2 (((4 * (4 + m)) - 4) + k)))), (0, .ref o0), (1, .int (nI (pw m))), (2, .int (nI (4 + m))), (3, .int (nI k))]) (st' := [.int (nI (pw m)), .int (nI (sN (r2 (((4 * (4 + m)) - 4) + ((k + 1) % 4)))))]) rfl ?_
                        refine x_run C 64 3 (pc' := 97) (lv' := [(4, .int ((nI (sN (r2 (((4 * (4 + m)) - 4) + ((k + 1) % 4))))) ^^^ (nI (pw m)))), (0, .ref o0), (1, .int (nI (pw m))), (2, .int (nI (4 + m))), (3, .int (nI k))]) (st' := [.ref o0]) rfl ?_
                        refine x_get C 67 rfl fX8_19 N 0 rfl (v := .ref (A 3)) rfl ?_
                        refine x_run C 68 6 (pc' := 106) (lv' := [(4, .int ((nI (sN (r2 (((4 * (4 + m)) - 4) + ((k + 1) % 4))))) ^^^ (nI (pw m)))), (0, .ref o0), (1, .int (nI (pw m))), (2, .int (nI (4 + m))), (3, .int (nI k))]) (st' := [.ref o0, .int ((4 * (nI (4 + m))) + (nI k)), .ref (A 3)]) rfl ?_
                        refine x_get C 74 rfl fX8_19 N 0 rfl (v := .ref (A 3)) rfl ?_
                        refine x_run C 75 7 (pc' := 117) (lv' := [(4, .int ((nI (sN (r2 (((4 * (4 + m)) - 4) + ((k + 1) % 4))))) ^^^ (nI (pw m)))), (0, .ref o0), (1, .int (nI (pw m))), (2, .int (nI (4 + m))), (3, .int (nI k))]) (st' := [.int (((4 * (nI (4 + m))) - 16) + (nI k)), .ref (A 3), .int ((4 * (nI (4 + m))) + (nI k)), .ref (A 3)]) rfl ?_
                        refine x_st (st' := [.int (nI (((4 * (4 + m)) - 16) + k)), .ref (A 3), .int ((4 * (nI (4 + m))) + (nI k)), .ref (A 3)]) (by simp only [nlit, nI_add, pk_mul, pk_sub (show 16 ≤ (4 * (4 + m)) by omega)]) ?_
                        refine x_ialdN C 82 rfl N 1 rfl (by omega) (by omega) ?_
                        refine x_st (st' := [.int (nI (r2 (((4 * (4 + m)) - 16) + k))), .int ((4 * (nI (4 + m))) + (nI k)), .ref (A 3)]) rfl ?_
                        refine x_run C 83 2 (pc' := 121) (lv' := [(4, .int ((nI (sN (r2 (((4 * (4 + m)) - 4) + ((k + 1) % 4))))) ^^^ (nI (pw m)))), (0, .ref o0), (1, .int (nI (pw m))), (2, .int (nI (4 + m))), (3, .int (nI k))]) (st' := [.int ((nI (r2 (((4 * (4 + m)) - 16) + k))) ^^^ ((nI (sN (r2 (((4 * (4 + m)) - 4) + ((k + 1) % 4))))) ^^^ (nI (pw m)))), .int ((4 * (nI (4 + m))) + (nI k)), .ref (A 3)]) rfl ?_
                        refine x_st (st' := [.int ((nI (r2 (((4 * (4 + m)) - 16) + k))) ^^^ ((nI (sN (r2 (((4 * (4 + m)) - 4) + ((k + 1) % 4))))) ^^^ (nI (pw m)))), .int (nI ((4 * (4 + m)) + k)), .ref (A 3)]) (by simp only [nlit, nI_add, pk_mul]) ?_
                        refine x_st (st' := [.int (nI ((r2 (((4 * (4 + m)) - 16) + k)) ^^^ ((sN (r2 (((4 * (4 + m)) - 4) + ((k + 1) % 4)))) ^^^ (pw m)))), .int (nI ((4 * (4 + m)) + k)), .ref (A 3)]) (by simp only [nlit, nI_add, pk_mul, nx_xor, nx_xor]) ?_
                        refine x_iastN C 85 rfl N 1 rfl (by omega) (by omega) (os' := [(qm, (o0, cO 8 (mo A th su (nI sz) bl (nI ci) (nI ma) pa en wr))), (q_rounds, (A 3, cI Y 176 (upd (iF r2) ((4 * (4 + m)) + k) (nI ((r2 (((4 * (4 + m)) - 16) + k)) ^^^ ((sN (r2 (((4 * (4 + m)) - 4) + ((k + 1) % 4)))) ^^^ (pw m))))))), (q_block, (A 4, cI Y 16 (iF b))), (q_box, (A 2, cI Y 256 (iF sN)))]) rfl ?_
                        refine x_ov (os' := [(qm, (o0, cO 8 (mo A th su (nI sz) bl (nI ci) (nI ma) pa en wr))), (q_rounds, (A 3, cI Y 176 (iF (updN r2 ((4 * (4 + m)) + k) ((r2 (((4 * (4 + m)) - 16) + k)) ^^^ ((sN (r2 (((4 * (4 + m)) - 4) + ((k + 1) % 4)))) ^^^ (pw m))))))), (q_block, (A 4, cI Y 16 (iF b))), (q_box, (A 2, cI Y 256 (iF sN)))]) (by rw [upd_iF]) ?_
                        refine x_run C 86 2 (pc' := 38) (lv' := [(3, .int ((nI k) + 1)), (4, .int ((nI (sN (r2 (((4 * (4 + m)) - 4) + ((k + 1) % 4))))) ^^^ (nI (pw m)))), (0, .ref o0), (1, .int (nI (pw m))), (2, .int (nI (4 + m)))]) (st' := []) rfl ?_
                        refine x_sub (lv' := [(0, .ref o0), (1, .int (nI (pw m))), (2, .int (nI (4 + m))), (3, .int ((nI k) + 1))]) [2, 3, 4, 0] rfl ?_
                        refine x_loc (lv' := [(0, .ref o0), (1, .int (nI (pw m))), (2, .int (nI (4 + m))), (3, .int (nI (k + 1)))]) (by simp only [nlit, nI_add, pk_mul]) ?_
                        exact ih38 (by omega) _ (inv_B iv38 (by first | exact spr_1 iv38 (by omega) (by omega) (by omega) | exact spr_2 iv38 (by omega) (by omega) (by omega) | exact spr_3 iv38 (by omega) (by omega)))
              refine x_sub (lv' := [(0, .ref o0), (1, .int (nI (pw m))), (2, .int (nI (4 + m))), (3, .int 0)]) [1, 2, 3, 0] rfl ?_
              refine x_loc (lv' := [(0, .ref o0), (1, .int (nI (pw m))), (2, .int (nI (4 + m))), (3, .int (nI 0))]) (by simp only [nlit, nI_add, pk_mul]) ?_
              exact L38 0 (Nat.le_refl _) (by omega) _ (fun j hj => (iv30 j (by omega)).trans (ek_o fk m (by omega)).symm)
        refine x_sub (lv' := [(0, .ref o0), (1, .int 1), (2, .int 4)]) [2, 1, 0] rfl ?_
        refine x_loc (lv' := [(0, .ref o0), (1, .int (nI (pw 0))), (2, .int (nI (4 + 0)))]) (by rfl) ?_
        exact L30 0 (Nat.le_refl _) (by omega) _ (fun j hj => (filN_z (by omega)).trans (hb j (by omega)))
      · exact absurd hc1 (by omega)
    · intro i hi2 ih2 lo2
      refine x_run C 2 2 (pc' := 5) (lv' := [(0, .ref o0), (1, .int (nI i))]) (st' := [.int 16, .int (nI i)]) rfl ?_
      refine x_st (st' := [.int (nI 16), .int (nI i)]) (by simp only [nlit, nI_add, pk_mul]) ?_
      refine x_icmpN_ge C 4 (by omega) (by omega) rfl (tgt := 26) rfl (fun hc9 => ?_) (fun hc9 => ?_)
      · exact absurd hc9 (by omega)
      · refine x_run C 5 1 (pc' := 9) (lv' := [(0, .ref o0), (1, .int (nI i))]) (st' := [.ref o0]) rfl ?_
        refine x_get C 6 rfl fX8_19 N 0 rfl (v := .ref (A 3)) rfl ?_
        refine x_run C 7 2 (pc' := 14) (lv' := [(0, .ref o0), (1, .int (nI i))]) (st' := [.ref o0, .int (nI i), .ref (A 3)]) rfl ?_
        refine x_get C 9 rfl fX8_22 N 0 rfl (v := .ref (A 4)) rfl ?_
        refine x_run C 10 1 (pc' := 18) (lv' := [(0, .ref o0), (1, .int (nI i))]) (st' := [.int (nI i), .ref (A 4), .int (nI i), .ref (A 3)]) rfl ?_
        refine x_ialdN C 11 rfl N 2 rfl (by omega) (by omega) ?_
        refine x_st (st' := [.int (nI (b i)), .int (nI i), .ref (A 3)]) rfl ?_
        refine x_iastN C 12 rfl N 1 rfl (by omega) (by omega) (os' := [(qm, (o0, cO 8 (mo A th su (nI sz) bl (nI ci) (nI ma) pa en wr))), (q_rounds, (A 3, cI Y 176 (upd (iF (filN r 0 i b)) i (nI (b i))))), (q_block, (A 4, cI Y 16 (iF b))), (q_box, (A 2, cI Y 256 (iF sN)))]) rfl ?_
        refine x_ov (os' := [(qm, (o0, cO 8 (mo A th su (nI sz) bl (nI ci) (nI ma) pa en wr))), (q_rounds, (A 3, cI Y 176 (iF (updN (filN r 0 i b) i (b i))))), (q_block, (A 4, cI Y 16 (iF b))), (q_box, (A 2, cI Y 256 (iF sN)))]) (by rw [upd_iF]) ?_
        refine x_run C 13 2 (pc' := 2) (lv' := [(1, .int ((nI i) + 1)), (0, .ref o0)]) (st' := []) rfl ?_
        refine x_sub (lv' := [(0, .ref o0), (1, .int ((nI i) + 1))]) [1, 0] rfl ?_
        refine x_loc (lv' := [(0, .ref o0), (1, .int (nI (i + 1)))]) (by simp only [nlit, nI_add, pk_mul]) ?_
        refine x_ov (os' := [(qm, (o0, cO 8 (mo A th su (nI sz) bl (nI ci) (nI ma) pa en wr))), (q_rounds, (A 3, cI Y 176 (iF (filN r 0 (i + 1) b)))), (q_block, (A 4, cI Y 16 (iF b))), (q_box, (A 2, cI Y 256 (iF sN)))]) (by rw [← filN_s0]) ?_
        exact ih2 (by omega)
  refine x_sub (lv' := [(0, .ref o0), (1, .int 0)]) [1, 0] rfl ?_
  refine x_loc (lv' := [(0, .ref o0), (1, .int (nI 0))]) (by simp only [nlit, nI_add, pk_mul]) ?_
  refine x_ov (os' := [(qm, (o0, cO 8 (mo A th su (nI sz) bl (nI ci) (nI ma) pa en wr))), (q_rounds, (A 3, cI Y 176 (iF (filN r 0 0 b)))), (q_block, (A 4, cI Y 16 (iF b))), (q_box, (A 2, cI Y 256 (iF sN)))]) (by rw [filN_0]) ?_
  exact L2 0 (Nat.le_refl _) (by omega)
set_option maxHeartbeats 4000000 in
set_option maxRecDepth 100000 in
theorem c_X8_feedB (Y : xD) (w : va_W) (o0 : Nat) (A : Nat → Nat) (th : Int32) (su : Int32) (sz : Nat) (bl : Int32) (ci : Nat) (ma : Nat) (pa : Int32) (en : Int32) (wr : Int32) (v : Int64) (x : Int32) (qm : Nat) (e0 : w[qm]? = some (o0, cO 8 (mo A th su (nI sz) bl (nI ci) (nI ma) pa en wr))) (N : xN w.length [qm]) (hx : x < 1 ∨ 8 < x) : Cf Y mX8_feed 1 [.ref o0, .long v, .int x] w (some (.int (-1))) [(qm, (o0, cO 8 (mo A (nI 0) su (nI sz) bl (nI ci) (nI ma) pa en wr)))] := by
  refine Ct.intro (T := tX8_feed) (by decide) oX8_feed (Nat.le_of_ble_eq_true rfl) (fun G C B => ?_)
  refine x_lay [(qm, (o0, cO 8 (mo A th su (nI sz) bl (nI ci) (nI ma) pa en wr)))] (lay_cons e0 lay_nil) ?_
  refine x_run C 0 2 (pc' := 2) (lv' := [(0, .ref o0), (1, .long v), (3, .int x)]) (st' := [.int 0, .ref o0]) rfl ?_
  refine x_put C 2 rfl pX8_117 N 0 rfl rfl rfl (Nat.le_of_ble_eq_true rfl) (os' := [(qm, (o0, cO 8 (mo A (nI 0) su (nI sz) bl (nI ci) (nI ma) pa en wr)))]) rfl ?_
  refine x_run C 3 3 (pc' := 9) (lv' := [(0, .ref o0), (1, .long v), (3, .int x)]) (st' := [.int 8, .int 1, .int x]) rfl ?_
  refine x_cs C 6 (As := [.int x, .int 1, .int 8]) (rest := []) rfl vX8_135 N (c_X8_inF Y _ x 1 8    hx) rfl rfl (Nat.le_of_ble_eq_true rfl) ⟨Nat.le_of_ble_eq_true rfl, Nat.le_of_ble_eq_true rfl⟩ ⟨Nat.zero_le _, Nat.zero_le _⟩ [] trivial (os' := [(qm, (o0, cO 8 (mo A (nI 0) su (nI sz) bl (nI ci) (nI ma) pa en wr)))]) rfl (st' := [.int 0]) rfl ?_
  refine x_st (st' := [.int (nI 0)]) (by simp only [nlit, nI_add, pk_mul]) ?_
  refine x_ifN_ne C 7 (by omega) rfl (tgt := 17) rfl (fun hc1 => absurd hc1 (by omega)) (fun hc1 => ?_)
  refine x_run C 8 1 (pc' := 16) (lv' := [(0, .ref o0), (1, .long v), (3, .int x)]) (st' := [.int (-1)]) rfl ?_
  exact x_iret C B rfl 9 rfl (Nat.zero_le _) (Nat.zero_le _) ⟨by first | rfl | (simp only [nlit, nI_add, pk_mul]; done), by first | rfl | (simp only [nlit, nI_add, pk_mul]; done)⟩
set_option maxHeartbeats 4000000 in
set_option maxRecDepth 100000 in
theorem c_X8_feedF (Y : xD) (w : va_W) (o0 : Nat) (A : Nat → Nat) (th : Int32) (su : Int32) (sz : Nat) (bl : Int32) (ci : Nat) (ma : Nat) (pa : Int32) (en : Int32) (wr : Int32) (v : Int64) (n : Nat) (qm : Nat) (e0 : w[qm]? = some (o0, cO 8 (mo A th su (nI sz) bl (nI ci) (nI ma) pa en wr))) (N : xN w.length [qm]) (h1 : 1 ≤ n) (h8 : n ≤ 8) (hs : sz ≤ 4000) (hf : 4000 < sz + n) : Cf Y mX8_feed 1 [.ref o0, .long v, .int (nI n)] w (some (.int (-2))) [(qm, (o0, cO 8 (mo A (nI 0) su (nI sz) bl (nI ci) (nI ma) pa en wr)))] := by
  refine Ct.intro (T := tX8_feed) (by decide) oX8_feed (Nat.le_of_ble_eq_true rfl) (fun G C B => ?_)
  refine x_lay [(qm, (o0, cO 8 (mo A th su (nI sz) bl (nI ci) (nI ma) pa en wr)))] (lay_cons e0 lay_nil) ?_
  refine x_run C 0 2 (pc' := 2) (lv' := [(0, .ref o0), (1, .long v), (3, .int (nI n))]) (st' := [.int 0, .ref o0]) rfl ?_
  refine x_put C 2 rfl pX8_117 N 0 rfl rfl rfl (Nat.le_of_ble_eq_true rfl) (os' := [(qm, (o0, cO 8 (mo A (nI 0) su (nI sz) bl (nI ci) (nI ma) pa en wr)))]) rfl ?_
  refine x_run C 3 3 (pc' := 9) (lv' := [(0, .ref o0), (1, .long v), (3, .int (nI n))]) (st' := [.int 8, .int 1, .int (nI n)]) rfl ?_
  refine x_st (st' := [.int (nI 8), .int (nI 1), .int (nI n)]) (by simp only [nlit, nI_add, pk_mul]) ?_
  refine x_cs C 6 (As := [.int (nI n), .int (nI 1), .int (nI 8)]) (rest := []) rfl vX8_135 N (c_X8_in Y _ n 1 8    (by first | assumption | omega) (by first | assumption | omega) (by first | assumption | omega)) rfl rfl (Nat.le_of_ble_eq_true rfl) ⟨Nat.le_of_ble_eq_true rfl, Nat.le_of_ble_eq_true rfl⟩ ⟨Nat.zero_le _, Nat.zero_le _⟩ [] trivial (os' := [(qm, (o0, cO 8 (mo A (nI 0) su (nI sz) bl (nI ci) (nI ma) pa en wr)))]) rfl (st' := [.int 1]) rfl ?_
  refine x_st (st' := [.int (nI 1)]) (by simp only [nlit, nI_add, pk_mul]) ?_
  refine x_ifN_ne C 7 (by omega) rfl (tgt := 17) rfl (fun hc1 => ?_) (fun hc1 => absurd hc1 (by omega))
  refine x_run C 10 1 (pc' := 18) (lv' := [(0, .ref o0), (1, .long v), (3, .int (nI n))]) (st' := [.ref o0]) rfl ?_
  refine x_get C 11 rfl fX8_139 N 0 rfl (v := .int (nI sz)) rfl ?_
  refine x_run C 12 3 (pc' := 26) (lv' := [(0, .ref o0), (1, .long v), (3, .int (nI n))]) (st' := [.int 4000, .int ((nI sz) + (nI n))]) rfl ?_
  refine x_st (st' := [.int (nI 4000), .int ((nI sz) + (nI n))]) (by simp only [nlit, nI_add, pk_mul]) ?_
  refine x_st (st' := [.int (nI 4000), .int (nI (sz + n))]) (by simp only [nlit, nI_add, pk_mul]) ?_
  refine x_icmpN_le C 15 (by omega) (by omega) rfl (tgt := 32) rfl (fun hc2 => ?_) (fun hc2 => ?_)
  · exact absurd hc2 (by omega)
  · refine x_run C 16 1 (pc' := 31) (lv' := [(0, .ref o0), (1, .long v), (3, .int (nI n))]) (st' := [.int (-2)]) rfl ?_
    exact x_iret C B rfl 17 rfl (Nat.zero_le _) (Nat.zero_le _) ⟨by first | contradiction | (simp only [nlit]; done) | (simp only [nlit]; simp only [nlit, nI_add, pk_mul]; done) | (simp only [nlit, nI_add, pk_mul]; done) | rfl | (simp only [nlit]; rfl) | (simp only [nlit, nI_add, pk_mul]; rfl), by first | contradiction | (simp only [nlit]; done) | (simp only [nlit]; simp only [nlit, nI_add, pk_mul]; done) | (simp only [nlit, nI_add, pk_mul]; done) | rfl | (simp only [nlit]; rfl) | (simp only [nlit, nI_add, pk_mul]; rfl)⟩
set_option maxHeartbeats 4000000 in
set_option maxRecDepth 100000 in
theorem c_X8_feed (Y : xD) (w : va_W) (o0 : Nat) (A : Nat → Nat) (th : Int32) (su : Int32) (sz : Nat) (bl : Int32) (ci : Nat) (ma : Nat) (pa : Int32) (en : Int32) (wr : Int32) (tq : Nat → Nat) (v : Int64) (n : Nat) (qm q_tape : Nat) (e0 : w[qm]? = some (o0, cO 8 (mo A th su (nI sz) bl (nI ci) (nI ma) pa en wr))) (e1 : w[q_tape]? = some (A 0, cI Y 4000 (iF tq))) (N : xN w.length [qm, q_tape]) (h1 : 1 ≤ n) (h8 : n ≤ 8) (hs : sz ≤ 4000) (hf : sz + n ≤ 4000) : Cf Y mX8_feed 1 [.ref o0, .long v, .int (nI n)] w (some (.int (nI (sz + n)))) [(qm, (o0, cO 8 (mo A (nI 0) su (nI (sz + n)) bl (nI ci) (nI ma) pa en wr))), (q_tape, (A 0, cI Y 4000 (iF (tapp tq sz v n n))))] := by
  refine Ct.intro (T := tX8_feed) (by decide) oX8_feed (Nat.le_of_ble_eq_true rfl) (fun G C B => ?_)
  refine x_lay [(qm, (o0, cO 8 (mo A th su (nI sz) bl (nI ci) (nI ma) pa en wr))), (q_tape, (A 0, cI Y 4000 (iF tq)))] (lay_cons e0 (lay_cons e1 lay_nil)) ?_
  refine x_run C 0 2 (pc' := 2) (lv' := [(0, .ref o0), (1, .long v), (3, .int (nI n))]) (st' := [.int 0, .ref o0]) rfl ?_
  refine x_put C 2 rfl pX8_117 N 0 rfl rfl rfl (Nat.le_of_ble_eq_true rfl) (os' := [(qm, (o0, cO 8 (mo A (nI 0) su (nI sz) bl (nI ci) (nI ma) pa en wr))), (q_tape, (A 0, cI Y 4000 (iF tq)))]) rfl ?_
  refine x_run C 3 3 (pc' := 9) (lv' := [(0, .ref o0), (1, .long v), (3, .int (nI n))]) (st' := [.int 8, .int 1, .int (nI n)]) rfl ?_
  refine x_st (st' := [.int (nI 8), .int (nI 1), .int (nI n)]) (by simp only [nlit, nI_add, pk_mul]) ?_
  refine x_cs C 6 (As := [.int (nI n), .int (nI 1), .int (nI 8)]) (rest := []) rfl vX8_135 N (c_X8_in Y _ n 1 8    (by first | assumption | omega) (by first | assumption | omega) (by first | assumption | omega)) rfl rfl (Nat.le_of_ble_eq_true rfl) ⟨Nat.le_of_ble_eq_true rfl, Nat.le_of_ble_eq_true rfl⟩ ⟨Nat.zero_le _, Nat.zero_le _⟩ [] trivial (os' := [(qm, (o0, cO 8 (mo A (nI 0) su (nI sz) bl (nI ci) (nI ma) pa en wr))), (q_tape, (A 0, cI Y 4000 (iF tq)))]) rfl (st' := [.int 1]) rfl ?_
  refine x_st (st' := [.int (nI 1)]) (by simp only [nlit, nI_add, pk_mul]) ?_
  refine x_ifN_ne C 7 (by omega) rfl (tgt := 17) rfl (fun hc1 => ?_) (fun hc1 => absurd hc1 (by omega))
  refine x_run C 10 1 (pc' := 18) (lv' := [(0, .ref o0), (1, .long v), (3, .int (nI n))]) (st' := [.ref o0]) rfl ?_
  refine x_get C 11 rfl fX8_139 N 0 rfl (v := .int (nI sz)) rfl ?_
  refine x_run C 12 3 (pc' := 26) (lv' := [(0, .ref o0), (1, .long v), (3, .int (nI n))]) (st' := [.int 4000, .int ((nI sz) + (nI n))]) rfl ?_
  refine x_st (st' := [.int (nI 4000), .int ((nI sz) + (nI n))]) (by simp only [nlit, nI_add, pk_mul]) ?_
  refine x_st (st' := [.int (nI 4000), .int (nI (sz + n))]) (by simp only [nlit, nI_add, pk_mul]) ?_
  refine x_icmpN_le C 15 (by omega) (by omega) rfl (tgt := 32) rfl (fun hc2 => ?_) (fun hc2 => ?_)
  · refine x_run C 18 4 (pc' := 37) (lv' := [(4, .int ((nI n) - 1)), (0, .ref o0), (1, .long v), (3, .int (nI n))]) (st' := []) rfl ?_
    have L37 : ∀ k : Nat, 0 ≤ k → k ≤ n → X G Y 0 0 37 [(0, .ref o0), (1, .long v), (3, .int (nI n)), (4, .int (nI (n - k) - 1))] [] (ovl w [(qm, (o0, cO 8 (mo A (nI 0) su (nI (sz + k)) bl (nI ci) (nI ma) pa en wr))), (q_tape, (A 0, cI Y 4000 (iF (tapp tq sz v n k))))]) := by
      intro k lo37 hi37
      revert lo37
      refine x_up (fun k => 0 ≤ k → X G Y 0 0 37 [(0, .ref o0), (1, .long v), (3, .int (nI n)), (4, .int (nI (n - k) - 1))] [] (ovl w [(qm, (o0, cO 8 (mo A (nI 0) su (nI (sz + k)) bl (nI ci) (nI ma) pa en wr))), (q_tape, (A 0, cI Y 4000 (iF (tapp tq sz v n k))))])) n ?_ ?_ k hi37
      · intro lo37
        refine x_run C 22 1 (pc' := 39) (lv' := [(0, .ref o0), (1, .long v), (3, .int (nI n)), (4, .int (nI (n - n) - 1))]) (st' := [.int (nI (n - n) - 1)]) rfl ?_
        refine x_if_lt C 23 rfl (tgt := 79) rfl (fun hc3 => ?_) (fun hc3 => ?_)
        · refine x_run C 45 1 (pc' := 80) (lv' := [(0, .ref o0), (1, .long v), (3, .int (nI n)), (4, .int (nI (n - n) - 1))]) (st' := [.ref o0]) rfl ?_
          refine x_get C 46 rfl fX8_139 N 0 rfl (v := .int (nI (sz + n))) rfl ?_
          exact x_iret C B rfl 47 rfl (Nat.zero_le _) (Nat.zero_le _) ⟨by first | contradiction | (simp only [if_pos hc3]; done) | (simp only [if_pos hc3]; simp only [nlit, nI_add, pk_mul]; done) | (simp only [if_pos hc3, nlit, nI_add, pk_mul]; done) | rfl | (simp only [if_pos hc3]; rfl) | (simp only [if_pos hc3, nlit, nI_add, pk_mul]; rfl), by first | contradiction | (simp only [if_pos hc3]; done) | (simp only [if_pos hc3]; simp only [nlit, nI_add, pk_mul]; done) | (simp only [if_pos hc3, nlit, nI_add, pk_mul]; done) | rfl | (simp only [if_pos hc3]; rfl) | (simp only [if_pos hc3, nlit, nI_add, pk_mul]; rfl)⟩
        · exact absurd hc3 (fun z => z (by rw [Nat.sub_self]; decide))
      · intro k hi37 ih37 lo37
        refine x_loc (lv' := [(0, .ref o0), (1, .long v), (3, .int (nI n)), (4, .int (nI (n - k - 1)))]) (by rw [dn_eq (by omega)]) ?_
        refine x_run C 22 1 (pc' := 39) (lv' := [(0, .ref o0), (1, .long v), (3, .int (nI n)), (4, .int (nI (n - k - 1)))]) (st' := [.int (nI (n - k - 1))]) rfl ?_
        refine x_if_lt C 23 rfl (tgt := 79) rfl (fun hc4 => absurd hc4 (nI_pos (by omega))) (fun hc4 => ?_)
        refine x_run C 24 1 (pc' := 43) (lv' := [(0, .ref o0), (1, .long v), (3, .int (nI n)), (4, .int (nI (n - k - 1)))]) (st' := [.ref o0]) rfl ?_
        refine x_get C 25 rfl fX8_7 N 0 rfl (v := .ref (A 0)) rfl ?_
        refine x_run C 26 1 (pc' := 47) (lv' := [(0, .ref o0), (1, .long v), (3, .int (nI n)), (4, .int (nI (n - k - 1)))]) (st' := [.ref o0, .ref (A 0)]) rfl ?_
        refine x_get C 27 rfl fX8_139 N 0 rfl (v := .int (nI (sz + k))) rfl ?_
        refine x_run C 28 5 (pc' := 57) (lv' := [(0, .ref o0), (1, .long v), (3, .int (nI n)), (4, .int (nI (n - k - 1)))]) (st' := [.long (jlshr v (8 * (nI (n - k - 1)))), .int (nI (sz + k)), .ref (A 0)]) rfl ?_
        refine x_ldc2 C 33 rfl (xg kX8_142 rfl) ?_
        refine x_run C 34 2 (pc' := 62) (lv' := [(0, .ref o0), (1, .long v), (3, .int (nI n)), (4, .int (nI (n - k - 1)))]) (st' := [.int (((jlshr v (8 * (nI (n - k - 1)))) &&& 255).toInt32), .int (nI (sz + k)), .ref (A 0)]) rfl ?_
        refine x_st (st' := [.int (nI (lby v (n - k - 1))), .int (nI (sz + k)), .ref (A 0)]) (by rw [fd_by v (by omega)]) ?_
        refine x_iastN C 36 rfl N 1 rfl (by omega) (by omega) (os' := [(qm, (o0, cO 8 (mo A (nI 0) su (nI (sz + k)) bl (nI ci) (nI ma) pa en wr))), (q_tape, (A 0, cI Y 4000 (upd (iF (tapp tq sz v n k)) (sz + k) (nI (lby v (n - k - 1))))))]) rfl ?_
        refine x_ov (os' := [(qm, (o0, cO 8 (mo A (nI 0) su (nI (sz + k)) bl (nI ci) (nI ma) pa en wr))), (q_tape, (A 0, cI Y 4000 (iF (updN (tapp tq sz v n k) (sz + k) (lby v (n - k - 1))))))]) (by rw [upd_iF]) ?_
        refine x_run C 37 2 (pc' := 65) (lv' := [(0, .ref o0), (1, .long v), (3, .int (nI n)), (4, .int (nI (n - k - 1)))]) (st' := [.ref o0, .ref o0]) rfl ?_
        refine x_get C 39 rfl fX8_139 N 0 rfl (v := .int (nI (sz + k))) rfl ?_
        refine x_run C 40 2 (pc' := 70) (lv' := [(0, .ref o0), (1, .long v), (3, .int (nI n)), (4, .int (nI (n - k - 1)))]) (st' := [.int ((nI (sz + k)) + 1), .ref o0]) rfl ?_
        refine x_st (st' := [.int (nI ((sz + k) + 1)), .ref o0]) (by simp only [nlit, nI_add, pk_mul]) ?_
        refine x_put C 42 rfl pX8_139 N 0 rfl rfl rfl (Nat.le_of_ble_eq_true rfl) (os' := [(qm, (o0, cO 8 (mo A (nI 0) su (nI ((sz + k) + 1)) bl (nI ci) (nI ma) pa en wr))), (q_tape, (A 0, cI Y 4000 (iF (updN (tapp tq sz v n k) (sz + k) (lby v (n - k - 1))))))]) rfl ?_
        refine x_run C 43 2 (pc' := 37) (lv' := [(4, .int ((nI (n - k - 1)) + (-1))), (0, .ref o0), (1, .long v), (3, .int (nI n))]) (st' := []) rfl ?_
        refine x_sub (lv' := [(0, .ref o0), (1, .long v), (3, .int (nI n)), (4, .int ((nI (n - k - 1)) + (-1)))]) [1, 2, 3, 0] rfl ?_
        refine x_loc (lv' := [(0, .ref o0), (1, .long v), (3, .int (nI n)), (4, .int (nI (n - (k + 1)) - 1))]) (by rw [show n - (k + 1) = n - k - 1 by omega, dn_m1]) ?_
        refine x_ov (os' := [(qm, (o0, cO 8 (mo A (nI 0) su (nI (sz + (k + 1))) bl (nI ci) (nI ma) pa en wr))), (q_tape, (A 0, cI Y 4000 (iF (tapp tq sz v n (k + 1)))))]) (by rw [tappN_s (by omega)]; simp only [nlit, nI_add, Nat.add_assoc]) ?_
        exact ih37 (by omega)
    refine x_sub (lv' := [(0, .ref o0), (1, .long v), (3, .int (nI n)), (4, .int ((nI n) - 1))]) [1, 2, 3, 0] rfl ?_
    refine x_loc (lv' := [(0, .ref o0), (1, .long v), (3, .int (nI n)), (4, .int (nI (n - 0) - 1))]) (by rw [Nat.sub_zero]) ?_
    refine x_ov (os' := [(qm, (o0, cO 8 (mo A (nI 0) su (nI (sz + 0)) bl (nI ci) (nI ma) pa en wr))), (q_tape, (A 0, cI Y 4000 (iF (tapp tq sz v n 0))))]) (by rw [tapp0]; rfl) ?_
    exact L37 0 (Nat.le_refl _) (by omega)
  · exact absurd hc2 (by omega)
set_option maxHeartbeats 4000000 in
set_option maxRecDepth 100000 in
theorem c_X8_keyS (Y : xD) (w : va_W) (o0 : Nat) (A : Nat → Nat) (th : Int32) (su : Int32) (sz : Nat) (bl : Int32) (ci : Nat) (ma : Nat) (pa : Int32) (en : Int32) (wr : Int32) (qm : Nat) (e0 : w[qm]? = some (o0, cO 8 (mo A th su (nI sz) bl (nI ci) (nI ma) pa en wr))) (N : xN w.length [qm]) (hm : 0 < ma) (h6 : ma ≤ 6) : Cf Y mX8_key 2 [.ref o0] w (some (.int (-3))) [(qm, (o0, cO 8 (mo A (nI 0) su (nI 0) bl (nI ci) (nI ma) pa en wr)))] := by
  refine Ct.intro (T := tX8_key) (by decide) oX8_key (Nat.le_of_ble_eq_true rfl) (fun G C B => ?_)
  refine x_lay [(qm, (o0, cO 8 (mo A th su (nI sz) bl (nI ci) (nI ma) pa en wr)))] (lay_cons e0 lay_nil) ?_
  refine x_run C 0 2 (pc' := 2) (lv' := [(0, .ref o0)]) (st' := [.int 0, .ref o0]) rfl ?_
  refine x_put C 2 rfl pX8_117 N 0 rfl rfl rfl (Nat.le_of_ble_eq_true rfl) (os' := [(qm, (o0, cO 8 (mo A (nI 0) su (nI sz) bl (nI ci) (nI ma) pa en wr)))]) rfl ?_
  refine x_run C 3 1 (pc' := 6) (lv' := [(0, .ref o0)]) (st' := [.ref o0]) rfl ?_
  refine x_cv C 4 (As := []) (rest := []) rfl vX8_144 N 0 rfl rfl (c_X8_uses Y _ o0 A (nI 0) su sz bl ci ma pa en wr qm (ovl_at 0 N rfl) (N.ov [0] (by decide) rfl) ) rfl rfl (Nat.le_of_ble_eq_true rfl) ⟨Nat.le_of_ble_eq_true rfl, Nat.le_of_ble_eq_true rfl⟩ ⟨Nat.zero_le _, Nat.zero_le _⟩ [0] ⟨rfl, trivial⟩ (os' := [(qm, (o0, cO 8 (mo A (nI 0) su (nI 0) bl (nI ci) (nI ma) pa en wr)))]) rfl (st' := [.int (nI sz)]) rfl ?_
  refine x_run C 5 2 (pc' := 11) (lv' := [(1, .int (nI sz)), (0, .ref o0)]) (st' := [.ref o0]) rfl ?_
  refine x_get C 7 rfl fX8_148 N 0 rfl (v := .int (nI ma)) rfl ?_
  refine x_ifN_le C 8 (by omega) rfl (tgt := 20) rfl (fun hc1 => ?_) (fun hc1 => ?_)
  · exact absurd hc1 (by omega)
  · refine x_run C 9 1 (pc' := 19) (lv' := [(1, .int (nI sz)), (0, .ref o0)]) (st' := [.int (-3)]) rfl ?_
    exact x_iret C B rfl 10 rfl (Nat.zero_le _) (Nat.zero_le _) ⟨by first | contradiction | (simp only [nlit]; done) | (simp only [nlit]; simp only [nlit, nI_add, pk_mul]; done) | (simp only [nlit, nI_add, pk_mul]; done) | rfl | (simp only [nlit]; rfl) | (simp only [nlit, nI_add, pk_mul]; rfl), by first | contradiction | (simp only [nlit]; done) | (simp only [nlit]; simp only [nlit, nI_add, pk_mul]; done) | (simp only [nlit, nI_add, pk_mul]; done) | rfl | (simp only [nlit]; rfl) | (simp only [nlit, nI_add, pk_mul]; rfl)⟩
set_option maxHeartbeats 4000000 in
set_option maxRecDepth 100000 in
theorem c_X8_keyH (Y : xD) (w : va_W) (o0 : Nat) (A : Nat → Nat) (th : Int32) (su : Int32) (sz : Nat) (bl : Int32) (ci : Nat) (pa : Int32) (en : Int32) (wr : Int32) (qm : Nat) (e0 : w[qm]? = some (o0, cO 8 (mo A th su (nI sz) bl (nI ci) (nI 0) pa en wr))) (N : xN w.length [qm]) (hs : sz < 16) : Cf Y mX8_key 2 [.ref o0] w (some (.int (-4))) [(qm, (o0, cO 8 (mo A (nI 0) su (nI 0) bl (nI ci) (nI 0) pa en wr)))] := by
  refine Ct.intro (T := tX8_key) (by decide) oX8_key (Nat.le_of_ble_eq_true rfl) (fun G C B => ?_)
  refine x_lay [(qm, (o0, cO 8 (mo A th su (nI sz) bl (nI ci) (nI 0) pa en wr)))] (lay_cons e0 lay_nil) ?_
  refine x_run C 0 2 (pc' := 2) (lv' := [(0, .ref o0)]) (st' := [.int 0, .ref o0]) rfl ?_
  refine x_put C 2 rfl pX8_117 N 0 rfl rfl rfl (Nat.le_of_ble_eq_true rfl) (os' := [(qm, (o0, cO 8 (mo A (nI 0) su (nI sz) bl (nI ci) (nI 0) pa en wr)))]) rfl ?_
  refine x_run C 3 1 (pc' := 6) (lv' := [(0, .ref o0)]) (st' := [.ref o0]) rfl ?_
  refine x_cv C 4 (As := []) (rest := []) rfl vX8_144 N 0 rfl rfl (c_X8_uses Y _ o0 A (nI 0) su sz bl ci 0 pa en wr qm (ovl_at 0 N rfl) (N.ov [0] (by decide) rfl) ) rfl rfl (Nat.le_of_ble_eq_true rfl) ⟨Nat.le_of_ble_eq_true rfl, Nat.le_of_ble_eq_true rfl⟩ ⟨Nat.zero_le _, Nat.zero_le _⟩ [0] ⟨rfl, trivial⟩ (os' := [(qm, (o0, cO 8 (mo A (nI 0) su (nI 0) bl (nI ci) (nI 0) pa en wr)))]) rfl (st' := [.int (nI sz)]) rfl ?_
  refine x_run C 5 2 (pc' := 11) (lv' := [(1, .int (nI sz)), (0, .ref o0)]) (st' := [.ref o0]) rfl ?_
  refine x_get C 7 rfl fX8_148 N 0 rfl (v := .int (nI 0)) rfl ?_
  refine x_ifN_le C 8 (by omega) rfl (tgt := 20) rfl (fun hc1 => ?_) (fun hc1 => absurd hc1 (by omega))
  refine x_run C 11 2 (pc' := 23) (lv' := [(1, .int (nI sz)), (0, .ref o0)]) (st' := [.int 16, .int (nI sz)]) rfl ?_
  refine x_st (st' := [.int (nI 16), .int (nI sz)]) (by simp only [nlit, nI_add, pk_mul]) ?_
  refine x_icmpN_ge C 13 (by omega) (by omega) rfl (tgt := 29) rfl (fun hc2 => ?_) (fun hc2 => ?_)
  · exact absurd hc2 (by omega)
  · refine x_run C 14 1 (pc' := 28) (lv' := [(1, .int (nI sz)), (0, .ref o0)]) (st' := [.int (-4)]) rfl ?_
    exact x_iret C B rfl 15 rfl (Nat.zero_le _) (Nat.zero_le _) ⟨by first | contradiction | (simp only [nlit]; done) | (simp only [nlit]; simp only [nlit, nI_add, pk_mul]; done) | (simp only [nlit, nI_add, pk_mul]; done) | rfl | (simp only [nlit]; rfl) | (simp only [nlit, nI_add, pk_mul]; rfl), by first | contradiction | (simp only [nlit]; done) | (simp only [nlit]; simp only [nlit, nI_add, pk_mul]; done) | (simp only [nlit, nI_add, pk_mul]; done) | rfl | (simp only [nlit]; rfl) | (simp only [nlit, nI_add, pk_mul]; rfl)⟩
set_option maxHeartbeats 4000000 in
set_option maxRecDepth 100000 in
theorem c_X8_key (Y : xD) (w : va_W) (o0 : Nat) (A : Nat → Nat) (th : Int32) (su : Int32) (sz : Nat) (bl : Int32) (ci : Nat) (pa : Int32) (en : Int32) (wr : Int32) (tq : Nat → Nat) (r : Nat → Nat) (b : Nat → Nat) (fk : Nat → Int32) (qm q_tape q_rounds q_block q_box : Nat) (e0 : w[qm]? = some (o0, cO 8 (mo A th su (nI sz) bl (nI ci) (nI 0) pa en wr))) (e1 : w[q_tape]? = some (A 0, cI Y 4000 (iF tq))) (e2 : w[q_rounds]? = some (A 3, cI Y 176 (iF r))) (e3 : w[q_block]? = some (A 4, cI Y 16 (iF b))) (e4 : w[q_box]? = some (A 2, cI Y 256 (iF sN))) (N : xN w.length [qm, q_tape, q_rounds, q_block, q_box]) (hs : 16 ≤ sz) (h4 : sz ≤ 4000) (hb : ∀ j, j < 16 → tq j = kb fk j) : Ct Y mX8_key 2 0 0 [.ref o0] w (fun v w' => v = (some (.int 1)) ∧ ∃ (r' : Nat → Nat) (b' : Nat → Nat), (∀ j, j < 176 → r' j = kb (ek fk 40).1 j) ∧ w' = ovl w [(qm, (o0, cO 8 (mo A (nI 0) su (nI 0) bl (nI ci) (nI 0) pa en wr))), (q_tape, (A 0, cI Y 4000 (iF tq))), (q_rounds, (A 3, cI Y 176 (iF r'))), (q_block, (A 4, cI Y 16 (iF b'))), (q_box, (A 2, cI Y 256 (iF sN)))]) := by
  refine Ct.intro (T := tX8_key) (by decide) oX8_key (Nat.le_of_ble_eq_true rfl) (fun G C B => ?_)
  refine x_lay [(qm, (o0, cO 8 (mo A th su (nI sz) bl (nI ci) (nI 0) pa en wr))), (q_tape, (A 0, cI Y 4000 (iF tq))), (q_rounds, (A 3, cI Y 176 (iF r))), (q_block, (A 4, cI Y 16 (iF b))), (q_box, (A 2, cI Y 256 (iF sN)))] (lay_cons e0 (lay_cons e1 (lay_cons e2 (lay_cons e3 (lay_cons e4 lay_nil))))) ?_
  refine x_run C 0 2 (pc' := 2) (lv' := [(0, .ref o0)]) (st' := [.int 0, .ref o0]) rfl ?_
  refine x_put C 2 rfl pX8_117 N 0 rfl rfl rfl (Nat.le_of_ble_eq_true rfl) (os' := [(qm, (o0, cO 8 (mo A (nI 0) su (nI sz) bl (nI ci) (nI 0) pa en wr))), (q_tape, (A 0, cI Y 4000 (iF tq))), (q_rounds, (A 3, cI Y 176 (iF r))), (q_block, (A 4, cI Y 16 (iF b))), (q_box, (A 2, cI Y 256 (iF sN)))]) rfl ?_
  refine x_run C 3 1 (pc' := 6) (lv' := [(0, .ref o0)]) (st' := [.ref o0]) rfl ?_
  refine x_cv C 4 (As := []) (rest := []) rfl vX8_144 N 0 rfl rfl (c_X8_uses Y _ o0 A (nI 0) su sz bl ci 0 pa en wr qm (ovl_at 0 N rfl) (N.ov [0] (by decide) rfl) ) rfl rfl (Nat.le_of_ble_eq_true rfl) ⟨Nat.le_of_ble_eq_true rfl, Nat.le_of_ble_eq_true rfl⟩ ⟨Nat.zero_le _, Nat.zero_le _⟩ [0] ⟨rfl, trivial⟩ (os' := [(qm, (o0, cO 8 (mo A (nI 0) su (nI 0) bl (nI ci) (nI 0) pa en wr))), (q_tape, (A 0, cI Y 4000 (iF tq))), (q_rounds, (A 3, cI Y 176 (iF r))), (q_block, (A 4, cI Y 16 (iF b))), (q_box, (A 2, cI Y 256 (iF sN)))]) rfl (st' := [.int (nI sz)]) rfl ?_
  refine x_run C 5 2 (pc' := 11) (lv' := [(1, .int (nI sz)), (0, .ref o0)]) (st' := [.ref o0]) rfl ?_
  refine x_get C 7 rfl fX8_148 N 0 rfl (v := .int (nI 0)) rfl ?_
  refine x_ifN_le C 8 (by omega) rfl (tgt := 20) rfl (fun hc1 => ?_) (fun hc1 => absurd hc1 (by omega))
  refine x_run C 11 2 (pc' := 23) (lv' := [(1, .int (nI sz)), (0, .ref o0)]) (st' := [.int 16, .int (nI sz)]) rfl ?_
  refine x_st (st' := [.int (nI 16), .int (nI sz)]) (by simp only [nlit, nI_add, pk_mul]) ?_
  refine x_icmpN_ge C 13 (by omega) (by omega) rfl (tgt := 29) rfl (fun hc2 => ?_) (fun hc2 => ?_)
  · refine x_run C 16 2 (pc' := 31) (lv' := [(2, .int 0), (1, .int (nI sz)), (0, .ref o0)]) (st' := []) rfl ?_
    have L31 : ∀ i : Nat, 0 ≤ i → i ≤ 16 → X G Y 0 0 31 [(0, .ref o0), (1, .int (nI sz)), (2, .int (nI i))] [] (ovl w [(qm, (o0, cO 8 (mo A (nI 0) su (nI 0) bl (nI ci) (nI 0) pa en wr))), (q_tape, (A 0, cI Y 4000 (iF tq))), (q_rounds, (A 3, cI Y 176 (iF r))), (q_block, (A 4, cI Y 16 (iF (filN b 0 i tq)))), (q_box, (A 2, cI Y 256 (iF sN)))]) := by
      intro i lo31 hi31
      revert lo31
      refine x_up (fun i => 0 ≤ i → X G Y 0 0 31 [(0, .ref o0), (1, .int (nI sz)), (2, .int (nI i))] [] (ovl w [(qm, (o0, cO 8 (mo A (nI 0) su (nI 0) bl (nI ci) (nI 0) pa en wr))), (q_tape, (A 0, cI Y 4000 (iF tq))), (q_rounds, (A 3, cI Y 176 (iF r))), (q_block, (A 4, cI Y 16 (iF (filN b 0 i tq)))), (q_box, (A 2, cI Y 256 (iF sN)))])) 16 ?_ ?_ i hi31
      · intro lo31
        refine x_run C 18 2 (pc' := 34) (lv' := [(0, .ref o0), (1, .int (nI sz)), (2, .int (nI 16))]) (st' := [.int 16, .int (nI 16)]) rfl ?_
        refine x_st (st' := [.int (nI 16), .int (nI 16)]) (by simp only [nlit, nI_add, pk_mul]) ?_
        refine x_icmpN_ge C 20 (by omega) (by omega) rfl (tgt := 55) rfl (fun hc3 => ?_) (fun hc3 => ?_)
        · refine x_run C 31 1 (pc' := 56) (lv' := [(0, .ref o0), (1, .int (nI sz)), (2, .int (nI 16))]) (st' := [.ref o0]) rfl ?_
          refine x_callV C 32 (As := []) (rest := []) rfl vX8_114 (ovl_at 0 N rfl) rfl (c_X8_spreads Y _ o0 A (nI 0) su 0 bl ci 0 pa en wr r (filN b 0 16 tq) fk qm q_rounds q_block q_box (ovl_at 0 N rfl) (ovl_at 2 N rfl) (ovl_at 3 N rfl) (ovl_at 4 N rfl) (N.ov [0, 2, 3, 4] (by decide) rfl) (fun j hj => (filN_z hj).trans (hb j hj))) rfl rfl (Nat.le_of_ble_eq_true rfl) ⟨(Nat.le_of_ble_eq_true rfl), (Nat.le_of_ble_eq_true rfl)⟩ ⟨Nat.zero_le _, Nat.zero_le _⟩ (fun v w_1 hp => ?_)
          obtain ⟨rfl, r'_1, hr_1, rfl⟩ := hp
          refine x_mer N [0, 2, 3, 4] ⟨rfl, rfl, rfl, rfl, trivial⟩ (os' := [(qm, (o0, cO 8 (mo A (nI 0) su (nI 0) bl (nI ci) (nI 0) pa en wr))), (q_tape, (A 0, cI Y 4000 (iF tq))), (q_rounds, (A 3, cI Y 176 (iF r'_1))), (q_block, (A 4, cI Y 16 (iF (filN b 0 16 tq)))), (q_box, (A 2, cI Y 256 (iF sN)))]) rfl ?_
          refine x_st (st' := []) rfl ?_
          refine x_run C 33 1 (pc' := 60) (lv' := [(0, .ref o0), (1, .int (nI sz)), (2, .int (nI 16))]) (st' := [.int 1]) rfl ?_
          exact x_iret C B rfl 34 rfl (Nat.zero_le _) (Nat.zero_le _) ⟨rfl, _, _, hr_1, rfl⟩
        · exact absurd hc3 (by omega)
      · intro i hi31 ih31 lo31
        refine x_run C 18 2 (pc' := 34) (lv' := [(0, .ref o0), (1, .int (nI sz)), (2, .int (nI i))]) (st' := [.int 16, .int (nI i)]) rfl ?_
        refine x_st (st' := [.int (nI 16), .int (nI i)]) (by simp only [nlit, nI_add, pk_mul]) ?_
        refine x_icmpN_ge C 20 (by omega) (by omega) rfl (tgt := 55) rfl (fun hc4 => ?_) (fun hc4 => ?_)
        · exact absurd hc4 (by omega)
        · refine x_run C 21 1 (pc' := 38) (lv' := [(0, .ref o0), (1, .int (nI sz)), (2, .int (nI i))]) (st' := [.ref o0]) rfl ?_
          refine x_get C 22 rfl fX8_22 N 0 rfl (v := .ref (A 4)) rfl ?_
          refine x_run C 23 2 (pc' := 43) (lv' := [(0, .ref o0), (1, .int (nI sz)), (2, .int (nI i))]) (st' := [.ref o0, .int (nI i), .ref (A 4)]) rfl ?_
          refine x_get C 25 rfl fX8_7 N 0 rfl (v := .ref (A 0)) rfl ?_
          refine x_run C 26 1 (pc' := 47) (lv' := [(0, .ref o0), (1, .int (nI sz)), (2, .int (nI i))]) (st' := [.int (nI i), .ref (A 0), .int (nI i), .ref (A 4)]) rfl ?_
          refine x_ialdN C 27 rfl N 1 rfl (by omega) (by omega) ?_
          refine x_st (st' := [.int (nI (tq i)), .int (nI i), .ref (A 4)]) rfl ?_
          refine x_iastN C 28 rfl N 3 rfl (by omega) (by omega) (os' := [(qm, (o0, cO 8 (mo A (nI 0) su (nI 0) bl (nI ci) (nI 0) pa en wr))), (q_tape, (A 0, cI Y 4000 (iF tq))), (q_rounds, (A 3, cI Y 176 (iF r))), (q_block, (A 4, cI Y 16 (upd (iF (filN b 0 i tq)) i (nI (tq i))))), (q_box, (A 2, cI Y 256 (iF sN)))]) rfl ?_
          refine x_ov (os' := [(qm, (o0, cO 8 (mo A (nI 0) su (nI 0) bl (nI ci) (nI 0) pa en wr))), (q_tape, (A 0, cI Y 4000 (iF tq))), (q_rounds, (A 3, cI Y 176 (iF r))), (q_block, (A 4, cI Y 16 (iF (updN (filN b 0 i tq) i (tq i))))), (q_box, (A 2, cI Y 256 (iF sN)))]) (by rw [upd_iF]) ?_
          refine x_run C 29 2 (pc' := 31) (lv' := [(2, .int ((nI i) + 1)), (0, .ref o0), (1, .int (nI sz))]) (st' := []) rfl ?_
          refine x_sub (lv' := [(0, .ref o0), (1, .int (nI sz)), (2, .int ((nI i) + 1))]) [1, 2, 0] rfl ?_
          refine x_loc (lv' := [(0, .ref o0), (1, .int (nI sz)), (2, .int (nI (i + 1)))]) (by simp only [nlit, nI_add, pk_mul]) ?_
          refine x_ov (os' := [(qm, (o0, cO 8 (mo A (nI 0) su (nI 0) bl (nI ci) (nI 0) pa en wr))), (q_tape, (A 0, cI Y 4000 (iF tq))), (q_rounds, (A 3, cI Y 176 (iF r))), (q_block, (A 4, cI Y 16 (iF (filN b 0 (i + 1) tq)))), (q_box, (A 2, cI Y 256 (iF sN)))]) (by rw [← filN_s0]) ?_
          exact ih31 (by omega)
    refine x_sub (lv' := [(0, .ref o0), (1, .int (nI sz)), (2, .int 0)]) [2, 1, 0] rfl ?_
    refine x_loc (lv' := [(0, .ref o0), (1, .int (nI sz)), (2, .int (nI 0))]) (by simp only [nlit, nI_add, pk_mul]) ?_
    refine x_ov (os' := [(qm, (o0, cO 8 (mo A (nI 0) su (nI 0) bl (nI ci) (nI 0) pa en wr))), (q_tape, (A 0, cI Y 4000 (iF tq))), (q_rounds, (A 3, cI Y 176 (iF r))), (q_block, (A 4, cI Y 16 (iF (filN b 0 0 tq)))), (q_box, (A 2, cI Y 256 (iF sN)))]) (by rw [filN_0]) ?_
    exact L31 0 (Nat.le_refl _) (by omega)
  · exact absurd hc2 (by omega)
set_option maxHeartbeats 4000000 in
set_option maxRecDepth 100000 in
theorem c_X8_makeB (Y : xD) (w : va_W) (o0 : Nat) (A : Nat → Nat) (th : Int32) (su : Int32) (sz : Nat) (bl : Int32) (ci : Nat) (ma : Nat) (pa : Int32) (en : Int32) (wr : Int32) (x : Int32) (t : Int32) (qm : Nat) (e0 : w[qm]? = some (o0, cO 8 (mo A th su (nI sz) bl (nI ci) (nI ma) pa en wr))) (N : xN w.length [qm]) (hx : x < 0 ∨ 3 < x) : Cf Y mX8_make 4 [.ref o0, .int x, .int t] w (some (.int (-1))) [(qm, (o0, cO 8 (mo A (nI 0) su (nI 0) bl (nI ci) (nI ma) pa en wr)))] := by
  refine Ct.intro (T := tX8_make) (by decide) oX8_make (Nat.le_of_ble_eq_true rfl) (fun G C B => ?_)
  refine x_lay [(qm, (o0, cO 8 (mo A th su (nI sz) bl (nI ci) (nI ma) pa en wr)))] (lay_cons e0 lay_nil) ?_
  refine x_run C 0 2 (pc' := 2) (lv' := [(0, .ref o0), (1, .int x), (2, .int t)]) (st' := [.int 0, .ref o0]) rfl ?_
  refine x_put C 2 rfl pX8_117 N 0 rfl rfl rfl (Nat.le_of_ble_eq_true rfl) (os' := [(qm, (o0, cO 8 (mo A (nI 0) su (nI sz) bl (nI ci) (nI ma) pa en wr)))]) rfl ?_
  refine x_run C 3 1 (pc' := 6) (lv' := [(0, .ref o0), (1, .int x), (2, .int t)]) (st' := [.ref o0]) rfl ?_
  refine x_cv C 4 (As := []) (rest := []) rfl vX8_144 N 0 rfl rfl (c_X8_uses Y _ o0 A (nI 0) su sz bl ci ma pa en wr qm (ovl_at 0 N rfl) (N.ov [0] (by decide) rfl) ) rfl rfl (Nat.le_of_ble_eq_true rfl) ⟨Nat.le_of_ble_eq_true rfl, Nat.le_of_ble_eq_true rfl⟩ ⟨Nat.zero_le _, Nat.zero_le _⟩ [0] ⟨rfl, trivial⟩ (os' := [(qm, (o0, cO 8 (mo A (nI 0) su (nI 0) bl (nI ci) (nI ma) pa en wr)))]) rfl (st' := [.int (nI sz)]) rfl ?_
  refine x_run C 5 4 (pc' := 13) (lv' := [(3, .int (nI sz)), (0, .ref o0), (1, .int x), (2, .int t)]) (st' := [.int 3, .int 0, .int x]) rfl ?_
  refine x_cs C 9 (As := [.int x, .int 0, .int 3]) (rest := []) rfl vX8_135 N (c_X8_inF Y _ x 0 3    hx) rfl rfl (Nat.le_of_ble_eq_true rfl) ⟨Nat.le_of_ble_eq_true rfl, Nat.le_of_ble_eq_true rfl⟩ ⟨Nat.zero_le _, Nat.zero_le _⟩ [] trivial (os' := [(qm, (o0, cO 8 (mo A (nI 0) su (nI 0) bl (nI ci) (nI ma) pa en wr)))]) rfl (st' := [.int 0]) rfl ?_
  refine x_st (st' := [.int (nI 0)]) (by simp only [nlit, nI_add, pk_mul]) ?_
  refine x_ifN_ne C 10 (by omega) rfl (tgt := 21) rfl (fun hc1 => absurd hc1 (by omega)) (fun hc1 => ?_)
  refine x_run C 11 1 (pc' := 20) (lv' := [(3, .int (nI sz)), (0, .ref o0), (1, .int x), (2, .int t)]) (st' := [.int (-1)]) rfl ?_
  exact x_iret C B rfl 12 rfl (Nat.zero_le _) (Nat.zero_le _) ⟨by first | rfl | (simp only [nlit, nI_add, pk_mul]; done), by first | rfl | (simp only [nlit, nI_add, pk_mul]; done)⟩
set_option maxHeartbeats 4000000 in
set_option maxRecDepth 100000 in
theorem c_X8_makeH0 (Y : xD) (w : va_W) (o0 : Nat) (A : Nat → Nat) (th : Int32) (su : Int32) (sz : Nat) (bl : Int32) (ci : Nat) (ma : Nat) (pa : Int32) (en : Int32) (wr : Int32) (t : Int32) (qm : Nat) (e0 : w[qm]? = some (o0, cO 8 (mo A th su (nI sz) bl (nI ci) (nI ma) pa en wr))) (N : xN w.length [qm]) (hs : sz < 16) : Cf Y mX8_make 4 [.ref o0, .int 0, .int t] w (some (.int (-4))) [(qm, (o0, cO 8 (mo A (nI 0) su (nI 0) bl (nI ci) (nI ma) pa en wr)))] := by
  refine Ct.intro (T := tX8_make) (by decide) oX8_make (Nat.le_of_ble_eq_true rfl) (fun G C B => ?_)
  refine x_lay [(qm, (o0, cO 8 (mo A th su (nI sz) bl (nI ci) (nI ma) pa en wr)))] (lay_cons e0 lay_nil) ?_
  refine x_run C 0 2 (pc' := 2) (lv' := [(0, .ref o0), (1, .int 0), (2, .int t)]) (st' := [.int 0, .ref o0]) rfl ?_
  refine x_put C 2 rfl pX8_117 N 0 rfl rfl rfl (Nat.le_of_ble_eq_true rfl) (os' := [(qm, (o0, cO 8 (mo A (nI 0) su (nI sz) bl (nI ci) (nI ma) pa en wr)))]) rfl ?_
  refine x_run C 3 1 (pc' := 6) (lv' := [(0, .ref o0), (1, .int 0), (2, .int t)]) (st' := [.ref o0]) rfl ?_
  refine x_cv C 4 (As := []) (rest := []) rfl vX8_144 N 0 rfl rfl (c_X8_uses Y _ o0 A (nI 0) su sz bl ci ma pa en wr qm (ovl_at 0 N rfl) (N.ov [0] (by decide) rfl) ) rfl rfl (Nat.le_of_ble_eq_true rfl) ⟨Nat.le_of_ble_eq_true rfl, Nat.le_of_ble_eq_true rfl⟩ ⟨Nat.zero_le _, Nat.zero_le _⟩ [0] ⟨rfl, trivial⟩ (os' := [(qm, (o0, cO 8 (mo A (nI 0) su (nI 0) bl (nI ci) (nI ma) pa en wr)))]) rfl (st' := [.int (nI sz)]) rfl ?_
  refine x_run C 5 4 (pc' := 13) (lv' := [(3, .int (nI sz)), (0, .ref o0), (1, .int 0), (2, .int t)]) (st' := [.int 3, .int 0, .int 0]) rfl ?_
  refine x_st (st' := [.int (nI 3), .int (nI 0), .int (nI 0)]) (by simp only [nlit, nI_add, pk_mul]) ?_
  refine x_cs C 9 (As := [.int (nI 0), .int (nI 0), .int (nI 3)]) (rest := []) rfl vX8_135 N (c_X8_in Y _ 0 0 3    (by first | assumption | omega) (by first | assumption | omega) (by first | assumption | omega)) rfl rfl (Nat.le_of_ble_eq_true rfl) ⟨Nat.le_of_ble_eq_true rfl, Nat.le_of_ble_eq_true rfl⟩ ⟨Nat.zero_le _, Nat.zero_le _⟩ [] trivial (os' := [(qm, (o0, cO 8 (mo A (nI 0) su (nI 0) bl (nI ci) (nI ma) pa en wr)))]) rfl (st' := [.int 1]) rfl ?_
  refine x_st (st' := [.int (nI 1)]) (by simp only [nlit, nI_add, pk_mul]) ?_
  refine x_ifN_ne C 10 (by omega) rfl (tgt := 21) rfl (fun hc1 => ?_) (fun hc1 => absurd hc1 (by omega))
  refine x_run C 13 3 (pc' := 24) (lv' := [(3, .int (nI sz)), (0, .ref o0), (1, .int 0), (2, .int t)]) (st' := [.int 3, .int 0, .int (nI sz)]) rfl ?_
  refine x_st (st' := [.int (nI 3), .int 0, .int (nI sz)]) (by simp only [nlit, nI_add, pk_mul]) ?_
  refine x_st (st' := [.int (nI 3), .int (nI 0), .int (nI sz)]) (by simp only [nlit, nI_add, pk_mul]) ?_
  refine x_icmpN_ne C 16 (by omega) (by omega) rfl (tgt := 32) rfl (fun hc2 => ?_) (fun hc2 => absurd hc2 (by omega))
  refine x_run C 19 1 (pc' := 34) (lv' := [(3, .int (nI sz)), (0, .ref o0), (1, .int 0), (2, .int t)]) (st' := [.int 16, .int (nI sz)]) rfl ?_
  refine x_st (st' := [.int (nI 16), .int (nI sz)]) (by simp only [nlit, nI_add, pk_mul]) ?_
  refine x_icmpN_ge C 20 (by omega) (by omega) rfl (tgt := 40) rfl (fun hc3 => ?_) (fun hc3 => ?_)
  · exact absurd hc3 (by omega)
  · refine x_run C 21 1 (pc' := 39) (lv' := [(3, .int (nI sz)), (0, .ref o0), (1, .int 0), (2, .int t)]) (st' := [.int (-4)]) rfl ?_
    exact x_iret C B rfl 22 rfl (Nat.zero_le _) (Nat.zero_le _) ⟨by first | contradiction | (simp only [nlit]; done) | (simp only [nlit]; simp only [nlit, nI_add, pk_mul]; done) | (simp only [nlit, nI_add, pk_mul]; done) | rfl | (simp only [nlit]; rfl) | (simp only [nlit, nI_add, pk_mul]; rfl), by first | contradiction | (simp only [nlit]; done) | (simp only [nlit]; simp only [nlit, nI_add, pk_mul]; done) | (simp only [nlit, nI_add, pk_mul]; done) | rfl | (simp only [nlit]; rfl) | (simp only [nlit, nI_add, pk_mul]; rfl)⟩
set_option maxHeartbeats 4000000 in
set_option maxRecDepth 100000 in
theorem c_X8_makeH1 (Y : xD) (w : va_W) (o0 : Nat) (A : Nat → Nat) (th : Int32) (su : Int32) (sz : Nat) (bl : Int32) (ci : Nat) (ma : Nat) (pa : Int32) (en : Int32) (wr : Int32) (t : Int32) (qm : Nat) (e0 : w[qm]? = some (o0, cO 8 (mo A th su (nI sz) bl (nI ci) (nI ma) pa en wr))) (N : xN w.length [qm]) (hs : sz < 16) : Cf Y mX8_make 4 [.ref o0, .int 1, .int t] w (some (.int (-4))) [(qm, (o0, cO 8 (mo A (nI 0) su (nI 0) bl (nI ci) (nI ma) pa en wr)))] := by
  refine Ct.intro (T := tX8_make) (by decide) oX8_make (Nat.le_of_ble_eq_true rfl) (fun G C B => ?_)
  refine x_lay [(qm, (o0, cO 8 (mo A th su (nI sz) bl (nI ci) (nI ma) pa en wr)))] (lay_cons e0 lay_nil) ?_
  refine x_run C 0 2 (pc' := 2) (lv' := [(0, .ref o0), (1, .int 1), (2, .int t)]) (st' := [.int 0, .ref o0]) rfl ?_
  refine x_put C 2 rfl pX8_117 N 0 rfl rfl rfl (Nat.le_of_ble_eq_true rfl) (os' := [(qm, (o0, cO 8 (mo A (nI 0) su (nI sz) bl (nI ci) (nI ma) pa en wr)))]) rfl ?_
  refine x_run C 3 1 (pc' := 6) (lv' := [(0, .ref o0), (1, .int 1), (2, .int t)]) (st' := [.ref o0]) rfl ?_
  refine x_cv C 4 (As := []) (rest := []) rfl vX8_144 N 0 rfl rfl (c_X8_uses Y _ o0 A (nI 0) su sz bl ci ma pa en wr qm (ovl_at 0 N rfl) (N.ov [0] (by decide) rfl) ) rfl rfl (Nat.le_of_ble_eq_true rfl) ⟨Nat.le_of_ble_eq_true rfl, Nat.le_of_ble_eq_true rfl⟩ ⟨Nat.zero_le _, Nat.zero_le _⟩ [0] ⟨rfl, trivial⟩ (os' := [(qm, (o0, cO 8 (mo A (nI 0) su (nI 0) bl (nI ci) (nI ma) pa en wr)))]) rfl (st' := [.int (nI sz)]) rfl ?_
  refine x_run C 5 4 (pc' := 13) (lv' := [(3, .int (nI sz)), (0, .ref o0), (1, .int 1), (2, .int t)]) (st' := [.int 3, .int 0, .int 1]) rfl ?_
  refine x_st (st' := [.int (nI 3), .int (nI 0), .int (nI 1)]) (by simp only [nlit, nI_add, pk_mul]) ?_
  refine x_cs C 9 (As := [.int (nI 1), .int (nI 0), .int (nI 3)]) (rest := []) rfl vX8_135 N (c_X8_in Y _ 1 0 3    (by first | assumption | omega) (by first | assumption | omega) (by first | assumption | omega)) rfl rfl (Nat.le_of_ble_eq_true rfl) ⟨Nat.le_of_ble_eq_true rfl, Nat.le_of_ble_eq_true rfl⟩ ⟨Nat.zero_le _, Nat.zero_le _⟩ [] trivial (os' := [(qm, (o0, cO 8 (mo A (nI 0) su (nI 0) bl (nI ci) (nI ma) pa en wr)))]) rfl (st' := [.int 1]) rfl ?_
  refine x_st (st' := [.int (nI 1)]) (by simp only [nlit, nI_add, pk_mul]) ?_
  refine x_ifN_ne C 10 (by omega) rfl (tgt := 21) rfl (fun hc1 => ?_) (fun hc1 => absurd hc1 (by omega))
  refine x_run C 13 3 (pc' := 24) (lv' := [(3, .int (nI sz)), (0, .ref o0), (1, .int 1), (2, .int t)]) (st' := [.int 3, .int 1, .int (nI sz)]) rfl ?_
  refine x_st (st' := [.int (nI 3), .int 1, .int (nI sz)]) (by simp only [nlit, nI_add, pk_mul]) ?_
  refine x_st (st' := [.int (nI 3), .int (nI 1), .int (nI sz)]) (by simp only [nlit, nI_add, pk_mul]) ?_
  refine x_icmpN_ne C 16 (by omega) (by omega) rfl (tgt := 32) rfl (fun hc2 => ?_) (fun hc2 => absurd hc2 (by omega))
  refine x_run C 19 1 (pc' := 34) (lv' := [(3, .int (nI sz)), (0, .ref o0), (1, .int 1), (2, .int t)]) (st' := [.int 16, .int (nI sz)]) rfl ?_
  refine x_st (st' := [.int (nI 16), .int (nI sz)]) (by simp only [nlit, nI_add, pk_mul]) ?_
  refine x_icmpN_ge C 20 (by omega) (by omega) rfl (tgt := 40) rfl (fun hc3 => ?_) (fun hc3 => ?_)
  · exact absurd hc3 (by omega)
  · refine x_run C 21 1 (pc' := 39) (lv' := [(3, .int (nI sz)), (0, .ref o0), (1, .int 1), (2, .int t)]) (st' := [.int (-4)]) rfl ?_
    exact x_iret C B rfl 22 rfl (Nat.zero_le _) (Nat.zero_le _) ⟨by first | contradiction | (simp only [nlit]; done) | (simp only [nlit]; simp only [nlit, nI_add, pk_mul]; done) | (simp only [nlit, nI_add, pk_mul]; done) | rfl | (simp only [nlit]; rfl) | (simp only [nlit, nI_add, pk_mul]; rfl), by first | contradiction | (simp only [nlit]; done) | (simp only [nlit]; simp only [nlit, nI_add, pk_mul]; done) | (simp only [nlit, nI_add, pk_mul]; done) | rfl | (simp only [nlit]; rfl) | (simp only [nlit, nI_add, pk_mul]; rfl)⟩
set_option maxHeartbeats 4000000 in
set_option maxRecDepth 100000 in
theorem c_X8_makeH2 (Y : xD) (w : va_W) (o0 : Nat) (A : Nat → Nat) (th : Int32) (su : Int32) (sz : Nat) (bl : Int32) (ci : Nat) (ma : Nat) (pa : Int32) (en : Int32) (wr : Int32) (t : Int32) (qm : Nat) (e0 : w[qm]? = some (o0, cO 8 (mo A th su (nI sz) bl (nI ci) (nI ma) pa en wr))) (N : xN w.length [qm]) (hs : sz < 16) : Cf Y mX8_make 4 [.ref o0, .int 2, .int t] w (some (.int (-4))) [(qm, (o0, cO 8 (mo A (nI 0) su (nI 0) bl (nI ci) (nI ma) pa en wr)))] := by
  refine Ct.intro (T := tX8_make) (by decide) oX8_make (Nat.le_of_ble_eq_true rfl) (fun G C B => ?_)
  refine x_lay [(qm, (o0, cO 8 (mo A th su (nI sz) bl (nI ci) (nI ma) pa en wr)))] (lay_cons e0 lay_nil) ?_
  refine x_run C 0 2 (pc' := 2) (lv' := [(0, .ref o0), (1, .int 2), (2, .int t)]) (st' := [.int 0, .ref o0]) rfl ?_
  refine x_put C 2 rfl pX8_117 N 0 rfl rfl rfl (Nat.le_of_ble_eq_true rfl) (os' := [(qm, (o0, cO 8 (mo A (nI 0) su (nI sz) bl (nI ci) (nI ma) pa en wr)))]) rfl ?_
  refine x_run C 3 1 (pc' := 6) (lv' := [(0, .ref o0), (1, .int 2), (2, .int t)]) (st' := [.ref o0]) rfl ?_
  refine x_cv C 4 (As := []) (rest := []) rfl vX8_144 N 0 rfl rfl (c_X8_uses Y _ o0 A (nI 0) su sz bl ci ma pa en wr qm (ovl_at 0 N rfl) (N.ov [0] (by decide) rfl) ) rfl rfl (Nat.le_of_ble_eq_true rfl) ⟨Nat.le_of_ble_eq_true rfl, Nat.le_of_ble_eq_true rfl⟩ ⟨Nat.zero_le _, Nat.zero_le _⟩ [0] ⟨rfl, trivial⟩ (os' := [(qm, (o0, cO 8 (mo A (nI 0) su (nI 0) bl (nI ci) (nI ma) pa en wr)))]) rfl (st' := [.int (nI sz)]) rfl ?_
  refine x_run C 5 4 (pc' := 13) (lv' := [(3, .int (nI sz)), (0, .ref o0), (1, .int 2), (2, .int t)]) (st' := [.int 3, .int 0, .int 2]) rfl ?_
  refine x_st (st' := [.int (nI 3), .int (nI 0), .int (nI 2)]) (by simp only [nlit, nI_add, pk_mul]) ?_
  refine x_cs C 9 (As := [.int (nI 2), .int (nI 0), .int (nI 3)]) (rest := []) rfl vX8_135 N (c_X8_in Y _ 2 0 3    (by first | assumption | omega) (by first | assumption | omega) (by first | assumption | omega)) rfl rfl (Nat.le_of_ble_eq_true rfl) ⟨Nat.le_of_ble_eq_true rfl, Nat.le_of_ble_eq_true rfl⟩ ⟨Nat.zero_le _, Nat.zero_le _⟩ [] trivial (os' := [(qm, (o0, cO 8 (mo A (nI 0) su (nI 0) bl (nI ci) (nI ma) pa en wr)))]) rfl (st' := [.int 1]) rfl ?_
  refine x_st (st' := [.int (nI 1)]) (by simp only [nlit, nI_add, pk_mul]) ?_
  refine x_ifN_ne C 10 (by omega) rfl (tgt := 21) rfl (fun hc1 => ?_) (fun hc1 => absurd hc1 (by omega))
  refine x_run C 13 3 (pc' := 24) (lv' := [(3, .int (nI sz)), (0, .ref o0), (1, .int 2), (2, .int t)]) (st' := [.int 3, .int 2, .int (nI sz)]) rfl ?_
  refine x_st (st' := [.int (nI 3), .int 2, .int (nI sz)]) (by simp only [nlit, nI_add, pk_mul]) ?_
  refine x_st (st' := [.int (nI 3), .int (nI 2), .int (nI sz)]) (by simp only [nlit, nI_add, pk_mul]) ?_
  refine x_icmpN_ne C 16 (by omega) (by omega) rfl (tgt := 32) rfl (fun hc2 => ?_) (fun hc2 => absurd hc2 (by omega))
  refine x_run C 19 1 (pc' := 34) (lv' := [(3, .int (nI sz)), (0, .ref o0), (1, .int 2), (2, .int t)]) (st' := [.int 16, .int (nI sz)]) rfl ?_
  refine x_st (st' := [.int (nI 16), .int (nI sz)]) (by simp only [nlit, nI_add, pk_mul]) ?_
  refine x_icmpN_ge C 20 (by omega) (by omega) rfl (tgt := 40) rfl (fun hc3 => ?_) (fun hc3 => ?_)
  · exact absurd hc3 (by omega)
  · refine x_run C 21 1 (pc' := 39) (lv' := [(3, .int (nI sz)), (0, .ref o0), (1, .int 2), (2, .int t)]) (st' := [.int (-4)]) rfl ?_
    exact x_iret C B rfl 22 rfl (Nat.zero_le _) (Nat.zero_le _) ⟨by first | contradiction | (simp only [nlit]; done) | (simp only [nlit]; simp only [nlit, nI_add, pk_mul]; done) | (simp only [nlit, nI_add, pk_mul]; done) | rfl | (simp only [nlit]; rfl) | (simp only [nlit, nI_add, pk_mul]; rfl), by first | contradiction | (simp only [nlit]; done) | (simp only [nlit]; simp only [nlit, nI_add, pk_mul]; done) | (simp only [nlit, nI_add, pk_mul]; done) | rfl | (simp only [nlit]; rfl) | (simp only [nlit, nI_add, pk_mul]; rfl)⟩
set_option maxHeartbeats 4000000 in
set_option maxRecDepth 100000 in
theorem c_X8_makeH3 (Y : xD) (w : va_W) (o0 : Nat) (A : Nat → Nat) (th : Int32) (su : Int32) (sz : Nat) (bl : Int32) (ci : Nat) (ma : Nat) (pa : Int32) (en : Int32) (wr : Int32) (t : Int32) (qm : Nat) (e0 : w[qm]? = some (o0, cO 8 (mo A th su (nI sz) bl (nI ci) (nI ma) pa en wr))) (N : xN w.length [qm]) (hs : sz < 32) : Cf Y mX8_make 4 [.ref o0, .int 3, .int t] w (some (.int (-4))) [(qm, (o0, cO 8 (mo A (nI 0) su (nI 0) bl (nI ci) (nI ma) pa en wr)))] := by
  refine Ct.intro (T := tX8_make) (by decide) oX8_make (Nat.le_of_ble_eq_true rfl) (fun G C B => ?_)
  refine x_lay [(qm, (o0, cO 8 (mo A th su (nI sz) bl (nI ci) (nI ma) pa en wr)))] (lay_cons e0 lay_nil) ?_
  refine x_run C 0 2 (pc' := 2) (lv' := [(0, .ref o0), (1, .int 3), (2, .int t)]) (st' := [.int 0, .ref o0]) rfl ?_
  refine x_put C 2 rfl pX8_117 N 0 rfl rfl rfl (Nat.le_of_ble_eq_true rfl) (os' := [(qm, (o0, cO 8 (mo A (nI 0) su (nI sz) bl (nI ci) (nI ma) pa en wr)))]) rfl ?_
  refine x_run C 3 1 (pc' := 6) (lv' := [(0, .ref o0), (1, .int 3), (2, .int t)]) (st' := [.ref o0]) rfl ?_
  refine x_cv C 4 (As := []) (rest := []) rfl vX8_144 N 0 rfl rfl (c_X8_uses Y _ o0 A (nI 0) su sz bl ci ma pa en wr qm (ovl_at 0 N rfl) (N.ov [0] (by decide) rfl) ) rfl rfl (Nat.le_of_ble_eq_true rfl) ⟨Nat.le_of_ble_eq_true rfl, Nat.le_of_ble_eq_true rfl⟩ ⟨Nat.zero_le _, Nat.zero_le _⟩ [0] ⟨rfl, trivial⟩ (os' := [(qm, (o0, cO 8 (mo A (nI 0) su (nI 0) bl (nI ci) (nI ma) pa en wr)))]) rfl (st' := [.int (nI sz)]) rfl ?_
  refine x_run C 5 4 (pc' := 13) (lv' := [(3, .int (nI sz)), (0, .ref o0), (1, .int 3), (2, .int t)]) (st' := [.int 3, .int 0, .int 3]) rfl ?_
  refine x_st (st' := [.int (nI 3), .int (nI 0), .int (nI 3)]) (by simp only [nlit, nI_add, pk_mul]) ?_
  refine x_cs C 9 (As := [.int (nI 3), .int (nI 0), .int (nI 3)]) (rest := []) rfl vX8_135 N (c_X8_in Y _ 3 0 3    (by first | assumption | omega) (by first | assumption | omega) (by first | assumption | omega)) rfl rfl (Nat.le_of_ble_eq_true rfl) ⟨Nat.le_of_ble_eq_true rfl, Nat.le_of_ble_eq_true rfl⟩ ⟨Nat.zero_le _, Nat.zero_le _⟩ [] trivial (os' := [(qm, (o0, cO 8 (mo A (nI 0) su (nI 0) bl (nI ci) (nI ma) pa en wr)))]) rfl (st' := [.int 1]) rfl ?_
  refine x_st (st' := [.int (nI 1)]) (by simp only [nlit, nI_add, pk_mul]) ?_
  refine x_ifN_ne C 10 (by omega) rfl (tgt := 21) rfl (fun hc1 => ?_) (fun hc1 => absurd hc1 (by omega))
  refine x_run C 13 3 (pc' := 24) (lv' := [(3, .int (nI sz)), (0, .ref o0), (1, .int 3), (2, .int t)]) (st' := [.int 3, .int 3, .int (nI sz)]) rfl ?_
  refine x_st (st' := [.int (nI 3), .int 3, .int (nI sz)]) (by simp only [nlit, nI_add, pk_mul]) ?_
  refine x_st (st' := [.int (nI 3), .int (nI 3), .int (nI sz)]) (by simp only [nlit, nI_add, pk_mul]) ?_
  refine x_icmpN_ne C 16 (by omega) (by omega) rfl (tgt := 32) rfl (fun hc2 => absurd hc2 (by omega)) (fun hc2 => ?_)
  refine x_run C 17 2 (pc' := 34) (lv' := [(3, .int (nI sz)), (0, .ref o0), (1, .int 3), (2, .int t)]) (st' := [.int 32, .int (nI sz)]) rfl ?_
  refine x_st (st' := [.int (nI 32), .int (nI sz)]) (by simp only [nlit, nI_add, pk_mul]) ?_
  refine x_icmpN_ge C 20 (by omega) (by omega) rfl (tgt := 40) rfl (fun hc3 => ?_) (fun hc3 => ?_)
  · exact absurd hc3 (by omega)
  · refine x_run C 21 1 (pc' := 39) (lv' := [(3, .int (nI sz)), (0, .ref o0), (1, .int 3), (2, .int t)]) (st' := [.int (-4)]) rfl ?_
    exact x_iret C B rfl 22 rfl (Nat.zero_le _) (Nat.zero_le _) ⟨by first | contradiction | (simp only [nlit]; done) | (simp only [nlit]; simp only [nlit, nI_add, pk_mul]; done) | (simp only [nlit, nI_add, pk_mul]; done) | rfl | (simp only [nlit]; rfl) | (simp only [nlit, nI_add, pk_mul]; rfl), by first | contradiction | (simp only [nlit]; done) | (simp only [nlit]; simp only [nlit, nI_add, pk_mul]; done) | (simp only [nlit, nI_add, pk_mul]; done) | rfl | (simp only [nlit]; rfl) | (simp only [nlit, nI_add, pk_mul]; rfl)⟩
set_option maxHeartbeats 4000000 in
set_option maxRecDepth 100000 in
theorem c_X8_make0 (Y : xD) (w : va_W) (o0 : Nat) (A : Nat → Nat) (th : Int32) (su : Int32) (sz : Nat) (bl : Int32) (ci : Nat) (ma : Nat) (pa : Int32) (en : Int32) (wr : Int32) (tq : Nat → Nat) (b : Nat → Nat) (rk : Nat → Nat) (o : Nat → Nat) (fr : Nat → Nat) (ks : Nat → Int32) (h : Int64) (l : Int64) (t : Int32) (qm q_tape q_block q_rounds q_box q_other q_result : Nat) (e0 : w[qm]? = some (o0, cO 8 (mo A th su (nI sz) bl (nI ci) (nI ma) pa en wr))) (e1 : w[q_tape]? = some (A 0, cI Y 4000 (iF tq))) (e2 : w[q_block]? = some (A 4, cI Y 16 (iF b))) (e3 : w[q_rounds]? = some (A 3, cI Y 176 (iF rk))) (e4 : w[q_box]? = some (A 2, cI Y 256 (iF sN))) (e5 : w[q_other]? = some (A 5, cI Y 16 (iF o))) (e6 : w[q_result]? = some (A 1, cI Y 16 (iF fr))) (N : xN w.length [qm, q_tape, q_block, q_rounds, q_box, q_other, q_result]) (hs : 16 ≤ sz) (h4 : sz ≤ 4000) (hT : ∀ j, j < 16 → tq j = byW h l j) (hky : ∀ j, j < 176 → rk j = kb ks j) : Ct Y mX8_make 4 0 0 [.ref o0, .int 0, .int t] w (fun v w' => v = (some (.int 1)) ∧ ∃ (b' : Nat → Nat) (o' : Nat → Nat) (fr' : Nat → Nat), (∀ j, j < 16 → fr' j = byW (enc ks h l).1 (enc ks h l).2 j) ∧ w' = ovl w [(qm, (o0, cO 8 (mo A (nI 0) su (nI 0) (bl + 1) (nI ci) (nI ma) pa en wr))), (q_tape, (A 0, cI Y 4000 (iF tq))), (q_block, (A 4, cI Y 16 (iF b'))), (q_rounds, (A 3, cI Y 176 (iF rk))), (q_box, (A 2, cI Y 256 (iF sN))), (q_other, (A 5, cI Y 16 (iF o'))), (q_result, (A 1, cI Y 16 (iF fr')))]) := by
  refine Ct.intro (T := tX8_make) (by decide) oX8_make (Nat.le_of_ble_eq_true rfl) (fun G C B => ?_)
  refine x_lay [(qm, (o0, cO 8 (mo A th su (nI sz) bl (nI ci) (nI ma) pa en wr))), (q_tape, (A 0, cI Y 4000 (iF tq))), (q_block, (A 4, cI Y 16 (iF b))), (q_rounds, (A 3, cI Y 176 (iF rk))), (q_box, (A 2, cI Y 256 (iF sN))), (q_other, (A 5, cI Y 16 (iF o))), (q_result, (A 1, cI Y 16 (iF fr)))] (lay_cons e0 (lay_cons e1 (lay_cons e2 (lay_cons e3 (lay_cons e4 (lay_cons e5 (lay_cons e6 lay_nil))))))) ?_
  refine x_run C 0 2 (pc' := 2) (lv' := [(0, .ref o0), (1, .int 0), (2, .int t)]) (st' := [.int 0, .ref o0]) rfl ?_
  refine x_put C 2 rfl pX8_117 N 0 rfl rfl rfl (Nat.le_of_ble_eq_true rfl) (os' := [(qm, (o0, cO 8 (mo A (nI 0) su (nI sz) bl (nI ci) (nI ma) pa en wr))), (q_tape, (A 0, cI Y 4000 (iF tq))), (q_block, (A 4, cI Y 16 (iF b))), (q_rounds, (A 3, cI Y 176 (iF rk))), (q_box, (A 2, cI Y 256 (iF sN))), (q_other, (A 5, cI Y 16 (iF o))), (q_result, (A 1, cI Y 16 (iF fr)))]) rfl ?_
  refine x_run C 3 1 (pc' := 6) (lv' := [(0, .ref o0), (1, .int 0), (2, .int t)]) (st' := [.ref o0]) rfl ?_
  refine x_cv C 4 (As := []) (rest := []) rfl vX8_144 N 0 rfl rfl (c_X8_uses Y _ o0 A (nI 0) su sz bl ci ma pa en wr qm (ovl_at 0 N rfl) (N.ov [0] (by decide) rfl) ) rfl rfl (Nat.le_of_ble_eq_true rfl) ⟨Nat.le_of_ble_eq_true rfl, Nat.le_of_ble_eq_true rfl⟩ ⟨Nat.zero_le _, Nat.zero_le _⟩ [0] ⟨rfl, trivial⟩ (os' := [(qm, (o0, cO 8 (mo A (nI 0) su (nI 0) bl (nI ci) (nI ma) pa en wr))), (q_tape, (A 0, cI Y 4000 (iF tq))), (q_block, (A 4, cI Y 16 (iF b))), (q_rounds, (A 3, cI Y 176 (iF rk))), (q_box, (A 2, cI Y 256 (iF sN))), (q_other, (A 5, cI Y 16 (iF o))), (q_result, (A 1, cI Y 16 (iF fr)))]) rfl (st' := [.int (nI sz)]) rfl ?_
  refine x_run C 5 4 (pc' := 13) (lv' := [(3, .int (nI sz)), (0, .ref o0), (1, .int 0), (2, .int t)]) (st' := [.int 3, .int 0, .int 0]) rfl ?_
  refine x_st (st' := [.int (nI 3), .int (nI 0), .int (nI 0)]) (by simp only [nlit, nI_add, pk_mul]) ?_
  refine x_cs C 9 (As := [.int (nI 0), .int (nI 0), .int (nI 3)]) (rest := []) rfl vX8_135 N (c_X8_in Y _ 0 0 3    (by first | assumption | omega) (by first | assumption | omega) (by first | assumption | omega)) rfl rfl (Nat.le_of_ble_eq_true rfl) ⟨Nat.le_of_ble_eq_true rfl, Nat.le_of_ble_eq_true rfl⟩ ⟨Nat.zero_le _, Nat.zero_le _⟩ [] trivial (os' := [(qm, (o0, cO 8 (mo A (nI 0) su (nI 0) bl (nI ci) (nI ma) pa en wr))), (q_tape, (A 0, cI Y 4000 (iF tq))), (q_block, (A 4, cI Y 16 (iF b))), (q_rounds, (A 3, cI Y 176 (iF rk))), (q_box, (A 2, cI Y 256 (iF sN))), (q_other, (A 5, cI Y 16 (iF o))), (q_result, (A 1, cI Y 16 (iF fr)))]) rfl (st' := [.int 1]) rfl ?_
  refine x_st (st' := [.int (nI 1)]) (by simp only [nlit, nI_add, pk_mul]) ?_
  refine x_ifN_ne C 10 (by omega) rfl (tgt := 21) rfl (fun hc1 => ?_) (fun hc1 => absurd hc1 (by omega))
  refine x_run C 13 3 (pc' := 24) (lv' := [(3, .int (nI sz)), (0, .ref o0), (1, .int 0), (2, .int t)]) (st' := [.int 3, .int 0, .int (nI sz)]) rfl ?_
  refine x_st (st' := [.int (nI 3), .int 0, .int (nI sz)]) (by simp only [nlit, nI_add, pk_mul]) ?_
  refine x_st (st' := [.int (nI 3), .int (nI 0), .int (nI sz)]) (by simp only [nlit, nI_add, pk_mul]) ?_
  refine x_icmpN_ne C 16 (by omega) (by omega) rfl (tgt := 32) rfl (fun hc2 => ?_) (fun hc2 => absurd hc2 (by omega))
  refine x_run C 19 1 (pc' := 34) (lv' := [(3, .int (nI sz)), (0, .ref o0), (1, .int 0), (2, .int t)]) (st' := [.int 16, .int (nI sz)]) rfl ?_
  refine x_st (st' := [.int (nI 16), .int (nI sz)]) (by simp only [nlit, nI_add, pk_mul]) ?_
  refine x_icmpN_ge C 20 (by omega) (by omega) rfl (tgt := 40) rfl (fun hc3 => ?_) (fun hc3 => ?_)
  · refine x_run C 23 1 (pc' := 41) (lv' := [(3, .int (nI sz)), (0, .ref o0), (1, .int 0), (2, .int t)]) (st' := [.int 0]) rfl ?_
    refine x_st (st' := [.int (nI 0)]) (by simp only [nlit, nI_add, pk_mul]) ?_
    refine x_ifN_ne C 24 (by omega) rfl (tgt := 81) rfl (fun hc4 => absurd hc4 (by omega)) (fun hc4 => ?_)
    refine x_run C 25 2 (pc' := 47) (lv' := [(4, .int 0), (3, .int (nI sz)), (0, .ref o0), (1, .int 0), (2, .int t)]) (st' := []) rfl ?_
    have L47 : ∀ i : Nat, 0 ≤ i → i ≤ 16 → X G Y 0 0 47 [(0, .ref o0), (1, .int 0), (2, .int t), (3, .int (nI sz)), (4, .int (nI i))] [] (ovl w [(qm, (o0, cO 8 (mo A (nI 0) su (nI 0) bl (nI ci) (nI ma) pa en wr))), (q_tape, (A 0, cI Y 4000 (iF tq))), (q_block, (A 4, cI Y 16 (iF (filN b 0 i tq)))), (q_rounds, (A 3, cI Y 176 (iF rk))), (q_box, (A 2, cI Y 256 (iF sN))), (q_other, (A 5, cI Y 16 (iF o))), (q_result, (A 1, cI Y 16 (iF fr)))]) := by
      intro i lo47 hi47
      revert lo47
      refine x_up (fun i => 0 ≤ i → X G Y 0 0 47 [(0, .ref o0), (1, .int 0), (2, .int t), (3, .int (nI sz)), (4, .int (nI i))] [] (ovl w [(qm, (o0, cO 8 (mo A (nI 0) su (nI 0) bl (nI ci) (nI ma) pa en wr))), (q_tape, (A 0, cI Y 4000 (iF tq))), (q_block, (A 4, cI Y 16 (iF (filN b 0 i tq)))), (q_rounds, (A 3, cI Y 176 (iF rk))), (q_box, (A 2, cI Y 256 (iF sN))), (q_other, (A 5, cI Y 16 (iF o))), (q_result, (A 1, cI Y 16 (iF fr)))])) 16 ?_ ?_ i hi47
      · intro lo47
        refine x_run C 27 2 (pc' := 51) (lv' := [(0, .ref o0), (1, .int 0), (2, .int t), (3, .int (nI sz)), (4, .int (nI 16))]) (st' := [.int 16, .int (nI 16)]) rfl ?_
        refine x_st (st' := [.int (nI 16), .int (nI 16)]) (by simp only [nlit, nI_add, pk_mul]) ?_
        refine x_icmpN_ge C 29 (by omega) (by omega) rfl (tgt := 74) rfl (fun hc5 => ?_) (fun hc5 => ?_)
        · refine x_run C 40 1 (pc' := 75) (lv' := [(0, .ref o0), (1, .int 0), (2, .int t), (3, .int (nI sz)), (4, .int (nI 16))]) (st' := [.ref o0]) rfl ?_
          refine x_callV C 41 (As := []) (rest := []) rfl vX8_124 (ovl_at 0 N rfl) rfl (c_X8_ciphers Y _ o0 A (nI 0) su 0 bl ci ma pa en wr (filN b 0 16 tq) rk o ks h l qm q_block q_rounds q_box q_other (ovl_at 0 N rfl) (ovl_at 2 N rfl) (ovl_at 3 N rfl) (ovl_at 4 N rfl) (ovl_at 5 N rfl) (N.ov [0, 2, 3, 4, 5] (by decide) rfl) (fun j hj => (filN_z hj).trans (hT j hj)) hky) rfl rfl (Nat.le_of_ble_eq_true rfl) ⟨(Nat.le_of_ble_eq_true rfl), (Nat.le_of_ble_eq_true rfl)⟩ ⟨Nat.zero_le _, Nat.zero_le _⟩ (fun v w_1 hp => ?_)
          obtain ⟨rfl, b'_1, o'_1, hb_1, rfl⟩ := hp
          refine x_mer N [0, 2, 3, 4, 5] ⟨rfl, rfl, rfl, rfl, rfl, trivial⟩ (os' := [(qm, (o0, cO 8 (mo A (nI 0) su (nI 0) (bl + 1) (nI ci) (nI ma) pa en wr))), (q_tape, (A 0, cI Y 4000 (iF tq))), (q_block, (A 4, cI Y 16 (iF b'_1))), (q_rounds, (A 3, cI Y 176 (iF rk))), (q_box, (A 2, cI Y 256 (iF sN))), (q_other, (A 5, cI Y 16 (iF o'_1))), (q_result, (A 1, cI Y 16 (iF fr)))]) rfl ?_
          refine x_st (st' := []) rfl ?_
          refine x_run C 42 1 (pc' := 131) (lv' := [(0, .ref o0), (1, .int 0), (2, .int t), (3, .int (nI sz)), (4, .int (nI 16))]) (st' := []) rfl ?_
          refine x_run C 70 2 (pc' := 134) (lv' := [(4, .int 0), (0, .ref o0), (1, .int 0), (2, .int t), (3, .int (nI sz))]) (st' := []) rfl ?_
          have L134 : ∀ i : Nat, 0 ≤ i → i ≤ 16 → X G Y 0 0 134 [(0, .ref o0), (1, .int 0), (2, .int t), (3, .int (nI sz)), (4, .int (nI i))] [] (ovl w [(qm, (o0, cO 8 (mo A (nI 0) su (nI 0) (bl + 1) (nI ci) (nI ma) pa en wr))), (q_tape, (A 0, cI Y 4000 (iF tq))), (q_block, (A 4, cI Y 16 (iF b'_1))), (q_rounds, (A 3, cI Y 176 (iF rk))), (q_box, (A 2, cI Y 256 (iF sN))), (q_other, (A 5, cI Y 16 (iF o'_1))), (q_result, (A 1, cI Y 16 (iF (filN fr 0 i b'_1))))]) := by
            intro i lo134 hi134
            revert lo134
            refine x_up (fun i => 0 ≤ i → X G Y 0 0 134 [(0, .ref o0), (1, .int 0), (2, .int t), (3, .int (nI sz)), (4, .int (nI i))] [] (ovl w [(qm, (o0, cO 8 (mo A (nI 0) su (nI 0) (bl + 1) (nI ci) (nI ma) pa en wr))), (q_tape, (A 0, cI Y 4000 (iF tq))), (q_block, (A 4, cI Y 16 (iF b'_1))), (q_rounds, (A 3, cI Y 176 (iF rk))), (q_box, (A 2, cI Y 256 (iF sN))), (q_other, (A 5, cI Y 16 (iF o'_1))), (q_result, (A 1, cI Y 16 (iF (filN fr 0 i b'_1))))])) 16 ?_ ?_ i hi134
            · intro lo134
              refine x_run C 72 2 (pc' := 138) (lv' := [(0, .ref o0), (1, .int 0), (2, .int t), (3, .int (nI sz)), (4, .int (nI 16))]) (st' := [.int 16, .int (nI 16)]) rfl ?_
              refine x_st (st' := [.int (nI 16), .int (nI 16)]) (by simp only [nlit, nI_add, pk_mul]) ?_
              refine x_icmpN_ge C 74 (by omega) (by omega) rfl (tgt := 190) rfl (fun hc6 => ?_) (fun hc6 => ?_)
              · refine x_run C 100 1 (pc' := 191) (lv' := [(0, .ref o0), (1, .int 0), (2, .int t), (3, .int (nI sz)), (4, .int (nI 16))]) (st' := [.int 1]) rfl ?_
                exact x_iret C B rfl 101 rfl (Nat.zero_le _) (Nat.zero_le _) ⟨rfl, _, _, _, (fun j hj => (filN_z hj).trans (hb_1 j hj)), rfl⟩
              · exact absurd hc6 (by omega)
            · intro i hi134 ih134 lo134
              refine x_run C 72 2 (pc' := 138) (lv' := [(0, .ref o0), (1, .int 0), (2, .int t), (3, .int (nI sz)), (4, .int (nI i))]) (st' := [.int 16, .int (nI i)]) rfl ?_
              refine x_st (st' := [.int (nI 16), .int (nI i)]) (by simp only [nlit, nI_add, pk_mul]) ?_
              refine x_icmpN_ge C 74 (by omega) (by omega) rfl (tgt := 190) rfl (fun hc7 => ?_) (fun hc7 => ?_)
              · exact absurd hc7 (by omega)
              · refine x_run C 75 1 (pc' := 142) (lv' := [(0, .ref o0), (1, .int 0), (2, .int t), (3, .int (nI sz)), (4, .int (nI i))]) (st' := [.ref o0]) rfl ?_
                refine x_get C 76 rfl fX8_13 N 0 rfl (v := .ref (A 1)) rfl ?_
                refine x_run C 77 2 (pc' := 148) (lv' := [(0, .ref o0), (1, .int 0), (2, .int t), (3, .int (nI sz)), (4, .int (nI i))]) (st' := [.int 0, .int (nI i), .ref (A 1)]) rfl ?_
                refine x_st (st' := [.int (nI 0), .int (nI i), .ref (A 1)]) (by simp only [nlit, nI_add, pk_mul]) ?_
                refine x_ifN_ne C 79 (by omega) rfl (tgt := 161) rfl (fun hc8 => absurd hc8 (by omega)) (fun hc8 => ?_)
                refine x_run C 80 1 (pc' := 152) (lv' := [(0, .ref o0), (1, .int 0), (2, .int t), (3, .int (nI sz)), (4, .int (nI i))]) (st' := [.ref o0, .int (nI i), .ref (A 1)]) rfl ?_
                refine x_get C 81 rfl fX8_22 N 0 rfl (v := .ref (A 4)) rfl ?_
                refine x_run C 82 1 (pc' := 157) (lv' := [(0, .ref o0), (1, .int 0), (2, .int t), (3, .int (nI sz)), (4, .int (nI i))]) (st' := [.int (nI i), .ref (A 4), .int (nI i), .ref (A 1)]) rfl ?_
                refine x_ialdN C 83 rfl N 2 rfl (by omega) (by omega) ?_
                refine x_st (st' := [.int (nI (b'_1 i)), .int (nI i), .ref (A 1)]) rfl ?_
                refine x_run C 84 1 (pc' := 183) (lv' := [(0, .ref o0), (1, .int 0), (2, .int t), (3, .int (nI sz)), (4, .int (nI i))]) (st' := [.int (nI (b'_1 i)), .int (nI i), .ref (A 1)]) rfl ?_
                refine x_iastN C 97 rfl N 6 rfl (by omega) (by omega) (os' := [(qm, (o0, cO 8 (mo A (nI 0) su (nI 0) (bl + 1) (nI ci) (nI ma) pa en wr))), (q_tape, (A 0, cI Y 4000 (iF tq))), (q_block, (A 4, cI Y 16 (iF b'_1))), (q_rounds, (A 3, cI Y 176 (iF rk))), (q_box, (A 2, cI Y 256 (iF sN))), (q_other, (A 5, cI Y 16 (iF o'_1))), (q_result, (A 1, cI Y 16 (upd (iF (filN fr 0 i b'_1)) i (nI (b'_1 i)))))]) rfl ?_
                refine x_ov (os' := [(qm, (o0, cO 8 (mo A (nI 0) su (nI 0) (bl + 1) (nI ci) (nI ma) pa en wr))), (q_tape, (A 0, cI Y 4000 (iF tq))), (q_block, (A 4, cI Y 16 (iF b'_1))), (q_rounds, (A 3, cI Y 176 (iF rk))), (q_box, (A 2, cI Y 256 (iF sN))), (q_other, (A 5, cI Y 16 (iF o'_1))), (q_result, (A 1, cI Y 16 (iF (updN (filN fr 0 i b'_1) i (b'_1 i)))))]) (by rw [upd_iF]) ?_
                refine x_run C 98 2 (pc' := 134) (lv' := [(4, .int ((nI i) + 1)), (0, .ref o0), (1, .int 0), (2, .int t), (3, .int (nI sz))]) (st' := []) rfl ?_
                refine x_sub (lv' := [(0, .ref o0), (1, .int 0), (2, .int t), (3, .int (nI sz)), (4, .int ((nI i) + 1))]) [1, 2, 3, 4, 0] rfl ?_
                refine x_loc (lv' := [(0, .ref o0), (1, .int 0), (2, .int t), (3, .int (nI sz)), (4, .int (nI (i + 1)))]) (by simp only [nlit, nI_add, pk_mul]) ?_
                refine x_ov (os' := [(qm, (o0, cO 8 (mo A (nI 0) su (nI 0) (bl + 1) (nI ci) (nI ma) pa en wr))), (q_tape, (A 0, cI Y 4000 (iF tq))), (q_block, (A 4, cI Y 16 (iF b'_1))), (q_rounds, (A 3, cI Y 176 (iF rk))), (q_box, (A 2, cI Y 256 (iF sN))), (q_other, (A 5, cI Y 16 (iF o'_1))), (q_result, (A 1, cI Y 16 (iF (filN fr 0 (i + 1) b'_1))))]) (by rw [← filN_s0]) ?_
                exact ih134 (by omega)
          refine x_sub (lv' := [(0, .ref o0), (1, .int 0), (2, .int t), (3, .int (nI sz)), (4, .int 0)]) [1, 2, 3, 4, 0] rfl ?_
          refine x_loc (lv' := [(0, .ref o0), (1, .int 0), (2, .int t), (3, .int (nI sz)), (4, .int (nI 0))]) (by simp only [nlit, nI_add, pk_mul]) ?_
          refine x_ov (os' := [(qm, (o0, cO 8 (mo A (nI 0) su (nI 0) (bl + 1) (nI ci) (nI ma) pa en wr))), (q_tape, (A 0, cI Y 4000 (iF tq))), (q_block, (A 4, cI Y 16 (iF b'_1))), (q_rounds, (A 3, cI Y 176 (iF rk))), (q_box, (A 2, cI Y 256 (iF sN))), (q_other, (A 5, cI Y 16 (iF o'_1))), (q_result, (A 1, cI Y 16 (iF (filN fr 0 0 b'_1))))]) (by rw [filN_0]) ?_
          exact L134 0 (Nat.le_refl _) (by omega)
        · exact absurd hc5 (by omega)
      · intro i hi47 ih47 lo47
        refine x_run C 27 2 (pc' := 51) (lv' := [(0, .ref o0), (1, .int 0), (2, .int t), (3, .int (nI sz)), (4, .int (nI i))]) (st' := [.int 16, .int (nI i)]) rfl ?_
        refine x_st (st' := [.int (nI 16), .int (nI i)]) (by simp only [nlit, nI_add, pk_mul]) ?_
        refine x_icmpN_ge C 29 (by omega) (by omega) rfl (tgt := 74) rfl (fun hc9 => ?_) (fun hc9 => ?_)
        · exact absurd hc9 (by omega)
        · refine x_run C 30 1 (pc' := 55) (lv' := [(0, .ref o0), (1, .int 0), (2, .int t), (3, .int (nI sz)), (4, .int (nI i))]) (st' := [.ref o0]) rfl ?_
          refine x_get C 31 rfl fX8_22 N 0 rfl (v := .ref (A 4)) rfl ?_
          refine x_run C 32 2 (pc' := 61) (lv' := [(0, .ref o0), (1, .int 0), (2, .int t), (3, .int (nI sz)), (4, .int (nI i))]) (st' := [.ref o0, .int (nI i), .ref (A 4)]) rfl ?_
          refine x_get C 34 rfl fX8_7 N 0 rfl (v := .ref (A 0)) rfl ?_
          refine x_run C 35 1 (pc' := 66) (lv' := [(0, .ref o0), (1, .int 0), (2, .int t), (3, .int (nI sz)), (4, .int (nI i))]) (st' := [.int (nI i), .ref (A 0), .int (nI i), .ref (A 4)]) rfl ?_
          refine x_ialdN C 36 rfl N 1 rfl (by omega) (by omega) ?_
          refine x_st (st' := [.int (nI (tq i)), .int (nI i), .ref (A 4)]) rfl ?_
          refine x_iastN C 37 rfl N 2 rfl (by omega) (by omega) (os' := [(qm, (o0, cO 8 (mo A (nI 0) su (nI 0) bl (nI ci) (nI ma) pa en wr))), (q_tape, (A 0, cI Y 4000 (iF tq))), (q_block, (A 4, cI Y 16 (upd (iF (filN b 0 i tq)) i (nI (tq i))))), (q_rounds, (A 3, cI Y 176 (iF rk))), (q_box, (A 2, cI Y 256 (iF sN))), (q_other, (A 5, cI Y 16 (iF o))), (q_result, (A 1, cI Y 16 (iF fr)))]) rfl ?_
          refine x_ov (os' := [(qm, (o0, cO 8 (mo A (nI 0) su (nI 0) bl (nI ci) (nI ma) pa en wr))), (q_tape, (A 0, cI Y 4000 (iF tq))), (q_block, (A 4, cI Y 16 (iF (updN (filN b 0 i tq) i (tq i))))), (q_rounds, (A 3, cI Y 176 (iF rk))), (q_box, (A 2, cI Y 256 (iF sN))), (q_other, (A 5, cI Y 16 (iF o))), (q_result, (A 1, cI Y 16 (iF fr)))]) (by rw [upd_iF]) ?_
          refine x_run C 38 2 (pc' := 47) (lv' := [(4, .int ((nI i) + 1)), (0, .ref o0), (1, .int 0), (2, .int t), (3, .int (nI sz))]) (st' := []) rfl ?_
          refine x_sub (lv' := [(0, .ref o0), (1, .int 0), (2, .int t), (3, .int (nI sz)), (4, .int ((nI i) + 1))]) [1, 2, 3, 4, 0] rfl ?_
          refine x_loc (lv' := [(0, .ref o0), (1, .int 0), (2, .int t), (3, .int (nI sz)), (4, .int (nI (i + 1)))]) (by simp only [nlit, nI_add, pk_mul]) ?_
          refine x_ov (os' := [(qm, (o0, cO 8 (mo A (nI 0) su (nI 0) bl (nI ci) (nI ma) pa en wr))), (q_tape, (A 0, cI Y 4000 (iF tq))), (q_block, (A 4, cI Y 16 (iF (filN b 0 (i + 1) tq)))), (q_rounds, (A 3, cI Y 176 (iF rk))), (q_box, (A 2, cI Y 256 (iF sN))), (q_other, (A 5, cI Y 16 (iF o))), (q_result, (A 1, cI Y 16 (iF fr)))]) (by rw [← filN_s0]) ?_
          exact ih47 (by omega)
    refine x_sub (lv' := [(0, .ref o0), (1, .int 0), (2, .int t), (3, .int (nI sz)), (4, .int 0)]) [2, 3, 4, 1, 0] rfl ?_
    refine x_loc (lv' := [(0, .ref o0), (1, .int 0), (2, .int t), (3, .int (nI sz)), (4, .int (nI 0))]) (by simp only [nlit, nI_add, pk_mul]) ?_
    refine x_ov (os' := [(qm, (o0, cO 8 (mo A (nI 0) su (nI 0) bl (nI ci) (nI ma) pa en wr))), (q_tape, (A 0, cI Y 4000 (iF tq))), (q_block, (A 4, cI Y 16 (iF (filN b 0 0 tq)))), (q_rounds, (A 3, cI Y 176 (iF rk))), (q_box, (A 2, cI Y 256 (iF sN))), (q_other, (A 5, cI Y 16 (iF o))), (q_result, (A 1, cI Y 16 (iF fr)))]) (by rw [filN_0]) ?_
    exact L47 0 (Nat.le_refl _) (by omega)
  · exact absurd hc3 (by omega)
set_option maxHeartbeats 4000000 in
set_option maxRecDepth 100000 in
theorem c_X8_make1 (Y : xD) (w : va_W) (o0 : Nat) (A : Nat → Nat) (th : Int32) (su : Int32) (sz : Nat) (bl : Int32) (ci : Nat) (ma : Nat) (pa : Int32) (en : Int32) (wr : Int32) (tq : Nat → Nat) (fr : Nat → Nat) (h : Int64) (l : Int64) (t : Int32) (qm q_tape q_result : Nat) (e0 : w[qm]? = some (o0, cO 8 (mo A th su (nI sz) bl (nI ci) (nI ma) pa en wr))) (e1 : w[q_tape]? = some (A 0, cI Y 4000 (iF tq))) (e2 : w[q_result]? = some (A 1, cI Y 16 (iF fr))) (N : xN w.length [qm, q_tape, q_result]) (hs : 16 ≤ sz) (h4 : sz ≤ 4000) (hT : ∀ j, j < 16 → tq j = byW h l j) : Ct Y mX8_make 4 0 0 [.ref o0, .int 1, .int t] w (fun v w' => v = (some (.int 1)) ∧ ∃ (tq' : Nat → Nat) (fr' : Nat → Nat), (∀ j, j < 16 → fr' j = byW (lbD h l).1 (lbD h l).2 j) ∧ w' = ovl w [(qm, (o0, cO 8 (mo A (nI 0) su (nI 0) bl (nI ci) (nI ma) pa en wr))), (q_tape, (A 0, cI Y 4000 (iF tq'))), (q_result, (A 1, cI Y 16 (iF fr')))]) := by
  refine Ct.intro (T := tX8_make) (by decide) oX8_make (Nat.le_of_ble_eq_true rfl) (fun G C B => ?_)
  refine x_lay [(qm, (o0, cO 8 (mo A th su (nI sz) bl (nI ci) (nI ma) pa en wr))), (q_tape, (A 0, cI Y 4000 (iF tq))), (q_result, (A 1, cI Y 16 (iF fr)))] (lay_cons e0 (lay_cons e1 (lay_cons e2 lay_nil))) ?_
  refine x_run C 0 2 (pc' := 2) (lv' := [(0, .ref o0), (1, .int 1), (2, .int t)]) (st' := [.int 0, .ref o0]) rfl ?_
  refine x_put C 2 rfl pX8_117 N 0 rfl rfl rfl (Nat.le_of_ble_eq_true rfl) (os' := [(qm, (o0, cO 8 (mo A (nI 0) su (nI sz) bl (nI ci) (nI ma) pa en wr))), (q_tape, (A 0, cI Y 4000 (iF tq))), (q_result, (A 1, cI Y 16 (iF fr)))]) rfl ?_
  refine x_run C 3 1 (pc' := 6) (lv' := [(0, .ref o0), (1, .int 1), (2, .int t)]) (st' := [.ref o0]) rfl ?_
  refine x_cv C 4 (As := []) (rest := []) rfl vX8_144 N 0 rfl rfl (c_X8_uses Y _ o0 A (nI 0) su sz bl ci ma pa en wr qm (ovl_at 0 N rfl) (N.ov [0] (by decide) rfl) ) rfl rfl (Nat.le_of_ble_eq_true rfl) ⟨Nat.le_of_ble_eq_true rfl, Nat.le_of_ble_eq_true rfl⟩ ⟨Nat.zero_le _, Nat.zero_le _⟩ [0] ⟨rfl, trivial⟩ (os' := [(qm, (o0, cO 8 (mo A (nI 0) su (nI 0) bl (nI ci) (nI ma) pa en wr))), (q_tape, (A 0, cI Y 4000 (iF tq))), (q_result, (A 1, cI Y 16 (iF fr)))]) rfl (st' := [.int (nI sz)]) rfl ?_
  refine x_run C 5 4 (pc' := 13) (lv' := [(3, .int (nI sz)), (0, .ref o0), (1, .int 1), (2, .int t)]) (st' := [.int 3, .int 0, .int 1]) rfl ?_
  refine x_st (st' := [.int (nI 3), .int (nI 0), .int (nI 1)]) (by simp only [nlit, nI_add, pk_mul]) ?_
  refine x_cs C 9 (As := [.int (nI 1), .int (nI 0), .int (nI 3)]) (rest := []) rfl vX8_135 N (c_X8_in Y _ 1 0 3    (by first | assumption | omega) (by first | assumption | omega) (by first | assumption | omega)) rfl rfl (Nat.le_of_ble_eq_true rfl) ⟨Nat.le_of_ble_eq_true rfl, Nat.le_of_ble_eq_true rfl⟩ ⟨Nat.zero_le _, Nat.zero_le _⟩ [] trivial (os' := [(qm, (o0, cO 8 (mo A (nI 0) su (nI 0) bl (nI ci) (nI ma) pa en wr))), (q_tape, (A 0, cI Y 4000 (iF tq))), (q_result, (A 1, cI Y 16 (iF fr)))]) rfl (st' := [.int 1]) rfl ?_
  refine x_st (st' := [.int (nI 1)]) (by simp only [nlit, nI_add, pk_mul]) ?_
  refine x_ifN_ne C 10 (by omega) rfl (tgt := 21) rfl (fun hc1 => ?_) (fun hc1 => absurd hc1 (by omega))
  refine x_run C 13 3 (pc' := 24) (lv' := [(3, .int (nI sz)), (0, .ref o0), (1, .int 1), (2, .int t)]) (st' := [.int 3, .int 1, .int (nI sz)]) rfl ?_
  refine x_st (st' := [.int (nI 3), .int 1, .int (nI sz)]) (by simp only [nlit, nI_add, pk_mul]) ?_
  refine x_st (st' := [.int (nI 3), .int (nI 1), .int (nI sz)]) (by simp only [nlit, nI_add, pk_mul]) ?_
  refine x_icmpN_ne C 16 (by omega) (by omega) rfl (tgt := 32) rfl (fun hc2 => ?_) (fun hc2 => absurd hc2 (by omega))
  refine x_run C 19 1 (pc' := 34) (lv' := [(3, .int (nI sz)), (0, .ref o0), (1, .int 1), (2, .int t)]) (st' := [.int 16, .int (nI sz)]) rfl ?_
  refine x_st (st' := [.int (nI 16), .int (nI sz)]) (by simp only [nlit, nI_add, pk_mul]) ?_
  refine x_icmpN_ge C 20 (by omega) (by omega) rfl (tgt := 40) rfl (fun hc3 => ?_) (fun hc3 => ?_)
  · refine x_run C 23 1 (pc' := 41) (lv' := [(3, .int (nI sz)), (0, .ref o0), (1, .int 1), (2, .int t)]) (st' := [.int 1]) rfl ?_
    refine x_st (st' := [.int (nI 1)]) (by simp only [nlit, nI_add, pk_mul]) ?_
    refine x_ifN_ne C 24 (by omega) rfl (tgt := 81) rfl (fun hc4 => ?_) (fun hc4 => absurd hc4 (by omega))
    refine x_run C 43 2 (pc' := 83) (lv' := [(3, .int (nI sz)), (0, .ref o0), (1, .int 1), (2, .int t)]) (st' := [.int 1, .int 1]) rfl ?_
    refine x_st (st' := [.int (nI 1), .int 1]) (by simp only [nlit, nI_add, pk_mul]) ?_
    refine x_st (st' := [.int (nI 1), .int (nI 1)]) (by simp only [nlit, nI_add, pk_mul]) ?_
    refine x_icmpN_ne C 45 (by omega) (by omega) rfl (tgt := 97) rfl (fun hc5 => absurd hc5 (by omega)) (fun hc5 => ?_)
    refine x_run C 46 1 (pc' := 87) (lv' := [(3, .int (nI sz)), (0, .ref o0), (1, .int 1), (2, .int t)]) (st' := [.ref o0]) rfl ?_
    refine x_get C 47 rfl fX8_7 N 0 rfl (v := .ref (A 0)) rfl ?_
    refine x_run C 48 1 (pc' := 91) (lv' := [(3, .int (nI sz)), (0, .ref o0), (1, .int 1), (2, .int t)]) (st' := [.int 0, .ref (A 0)]) rfl ?_
    refine x_callS C 49 (As := [.ref (A 0), .int 0]) (rest := []) rfl vX8_127 (c_X8_doubles Y _ (A 0) 4000 tq h l q_tape (ovl_at 1 N rfl) (N.ov [1] (by decide) rfl) (by decide) (by decide) hT) rfl rfl (Nat.le_of_ble_eq_true rfl) ⟨(Nat.le_of_ble_eq_true rfl), (Nat.le_of_ble_eq_true rfl)⟩ ⟨Nat.zero_le _, Nat.zero_le _⟩ (fun v w_1 hp => ?_)
    obtain ⟨rfl, f'_1, hd_1, rfl⟩ := hp
    refine x_mer N [1] ⟨rfl, trivial⟩ (os' := [(qm, (o0, cO 8 (mo A (nI 0) su (nI 0) bl (nI ci) (nI ma) pa en wr))), (q_tape, (A 0, cI Y 4000 (iF f'_1))), (q_result, (A 1, cI Y 16 (iF fr)))]) rfl ?_
    refine x_st (st' := []) rfl ?_
    refine x_run C 50 1 (pc' := 131) (lv' := [(3, .int (nI sz)), (0, .ref o0), (1, .int 1), (2, .int t)]) (st' := []) rfl ?_
    refine x_run C 70 2 (pc' := 134) (lv' := [(4, .int 0), (3, .int (nI sz)), (0, .ref o0), (1, .int 1), (2, .int t)]) (st' := []) rfl ?_
    have L134 : ∀ i : Nat, 0 ≤ i → i ≤ 16 → X G Y 0 0 134 [(0, .ref o0), (1, .int 1), (2, .int t), (3, .int (nI sz)), (4, .int (nI i))] [] (ovl w [(qm, (o0, cO 8 (mo A (nI 0) su (nI 0) bl (nI ci) (nI ma) pa en wr))), (q_tape, (A 0, cI Y 4000 (iF f'_1))), (q_result, (A 1, cI Y 16 (iF (filN fr 0 i f'_1))))]) := by
      intro i lo134 hi134
      revert lo134
      refine x_up (fun i => 0 ≤ i → X G Y 0 0 134 [(0, .ref o0), (1, .int 1), (2, .int t), (3, .int (nI sz)), (4, .int (nI i))] [] (ovl w [(qm, (o0, cO 8 (mo A (nI 0) su (nI 0) bl (nI ci) (nI ma) pa en wr))), (q_tape, (A 0, cI Y 4000 (iF f'_1))), (q_result, (A 1, cI Y 16 (iF (filN fr 0 i f'_1))))])) 16 ?_ ?_ i hi134
      · intro lo134
        refine x_run C 72 2 (pc' := 138) (lv' := [(0, .ref o0), (1, .int 1), (2, .int t), (3, .int (nI sz)), (4, .int (nI 16))]) (st' := [.int 16, .int (nI 16)]) rfl ?_
        refine x_st (st' := [.int (nI 16), .int (nI 16)]) (by simp only [nlit, nI_add, pk_mul]) ?_
        refine x_icmpN_ge C 74 (by omega) (by omega) rfl (tgt := 190) rfl (fun hc6 => ?_) (fun hc6 => ?_)
        · refine x_run C 100 1 (pc' := 191) (lv' := [(0, .ref o0), (1, .int 1), (2, .int t), (3, .int (nI sz)), (4, .int (nI 16))]) (st' := [.int 1]) rfl ?_
          exact x_iret C B rfl 101 rfl (Nat.zero_le _) (Nat.zero_le _) ⟨rfl, _, _, (fun j hj => (filN_z hj).trans (hd_1 j hj)), rfl⟩
        · exact absurd hc6 (by omega)
      · intro i hi134 ih134 lo134
        refine x_run C 72 2 (pc' := 138) (lv' := [(0, .ref o0), (1, .int 1), (2, .int t), (3, .int (nI sz)), (4, .int (nI i))]) (st' := [.int 16, .int (nI i)]) rfl ?_
        refine x_st (st' := [.int (nI 16), .int (nI i)]) (by simp only [nlit, nI_add, pk_mul]) ?_
        refine x_icmpN_ge C 74 (by omega) (by omega) rfl (tgt := 190) rfl (fun hc7 => ?_) (fun hc7 => ?_)
        · exact absurd hc7 (by omega)
        · refine x_run C 75 1 (pc' := 142) (lv' := [(0, .ref o0), (1, .int 1), (2, .int t), (3, .int (nI sz)), (4, .int (nI i))]) (st' := [.ref o0]) rfl ?_
          refine x_get C 76 rfl fX8_13 N 0 rfl (v := .ref (A 1)) rfl ?_
          refine x_run C 77 2 (pc' := 148) (lv' := [(0, .ref o0), (1, .int 1), (2, .int t), (3, .int (nI sz)), (4, .int (nI i))]) (st' := [.int 1, .int (nI i), .ref (A 1)]) rfl ?_
          refine x_st (st' := [.int (nI 1), .int (nI i), .ref (A 1)]) (by simp only [nlit, nI_add, pk_mul]) ?_
          refine x_ifN_ne C 79 (by omega) rfl (tgt := 161) rfl (fun hc8 => ?_) (fun hc8 => absurd hc8 (by omega))
          refine x_run C 85 2 (pc' := 163) (lv' := [(0, .ref o0), (1, .int 1), (2, .int t), (3, .int (nI sz)), (4, .int (nI i))]) (st' := [.int 1, .int 1, .int (nI i), .ref (A 1)]) rfl ?_
          refine x_st (st' := [.int (nI 1), .int 1, .int (nI i), .ref (A 1)]) (by simp only [nlit, nI_add, pk_mul]) ?_
          refine x_st (st' := [.int (nI 1), .int (nI 1), .int (nI i), .ref (A 1)]) (by simp only [nlit, nI_add, pk_mul]) ?_
          refine x_icmpN_ne C 87 (by omega) (by omega) rfl (tgt := 176) rfl (fun hc9 => absurd hc9 (by omega)) (fun hc9 => ?_)
          refine x_run C 88 1 (pc' := 167) (lv' := [(0, .ref o0), (1, .int 1), (2, .int t), (3, .int (nI sz)), (4, .int (nI i))]) (st' := [.ref o0, .int (nI i), .ref (A 1)]) rfl ?_
          refine x_get C 89 rfl fX8_7 N 0 rfl (v := .ref (A 0)) rfl ?_
          refine x_run C 90 1 (pc' := 172) (lv' := [(0, .ref o0), (1, .int 1), (2, .int t), (3, .int (nI sz)), (4, .int (nI i))]) (st' := [.int (nI i), .ref (A 0), .int (nI i), .ref (A 1)]) rfl ?_
          refine x_ialdN C 91 rfl N 1 rfl (by omega) (by omega) ?_
          refine x_st (st' := [.int (nI (f'_1 i)), .int (nI i), .ref (A 1)]) rfl ?_
          refine x_run C 92 1 (pc' := 183) (lv' := [(0, .ref o0), (1, .int 1), (2, .int t), (3, .int (nI sz)), (4, .int (nI i))]) (st' := [.int (nI (f'_1 i)), .int (nI i), .ref (A 1)]) rfl ?_
          refine x_iastN C 97 rfl N 2 rfl (by omega) (by omega) (os' := [(qm, (o0, cO 8 (mo A (nI 0) su (nI 0) bl (nI ci) (nI ma) pa en wr))), (q_tape, (A 0, cI Y 4000 (iF f'_1))), (q_result, (A 1, cI Y 16 (upd (iF (filN fr 0 i f'_1)) i (nI (f'_1 i)))))]) rfl ?_
          refine x_ov (os' := [(qm, (o0, cO 8 (mo A (nI 0) su (nI 0) bl (nI ci) (nI ma) pa en wr))), (q_tape, (A 0, cI Y 4000 (iF f'_1))), (q_result, (A 1, cI Y 16 (iF (updN (filN fr 0 i f'_1) i (f'_1 i)))))]) (by rw [upd_iF]) ?_
          refine x_run C 98 2 (pc' := 134) (lv' := [(4, .int ((nI i) + 1)), (0, .ref o0), (1, .int 1), (2, .int t), (3, .int (nI sz))]) (st' := []) rfl ?_
          refine x_sub (lv' := [(0, .ref o0), (1, .int 1), (2, .int t), (3, .int (nI sz)), (4, .int ((nI i) + 1))]) [1, 2, 3, 4, 0] rfl ?_
          refine x_loc (lv' := [(0, .ref o0), (1, .int 1), (2, .int t), (3, .int (nI sz)), (4, .int (nI (i + 1)))]) (by simp only [nlit, nI_add, pk_mul]) ?_
          refine x_ov (os' := [(qm, (o0, cO 8 (mo A (nI 0) su (nI 0) bl (nI ci) (nI ma) pa en wr))), (q_tape, (A 0, cI Y 4000 (iF f'_1))), (q_result, (A 1, cI Y 16 (iF (filN fr 0 (i + 1) f'_1))))]) (by rw [← filN_s0]) ?_
          exact ih134 (by omega)
    refine x_sub (lv' := [(0, .ref o0), (1, .int 1), (2, .int t), (3, .int (nI sz)), (4, .int 0)]) [2, 3, 4, 1, 0] rfl ?_
    refine x_loc (lv' := [(0, .ref o0), (1, .int 1), (2, .int t), (3, .int (nI sz)), (4, .int (nI 0))]) (by simp only [nlit, nI_add, pk_mul]) ?_
    refine x_ov (os' := [(qm, (o0, cO 8 (mo A (nI 0) su (nI 0) bl (nI ci) (nI ma) pa en wr))), (q_tape, (A 0, cI Y 4000 (iF f'_1))), (q_result, (A 1, cI Y 16 (iF (filN fr 0 0 f'_1))))]) (by rw [filN_0]) ?_
    exact L134 0 (Nat.le_refl _) (by omega)
  · exact absurd hc3 (by omega)
set_option maxHeartbeats 4000000 in
set_option maxRecDepth 100000 in
theorem c_X8_make2 (Y : xD) (w : va_W) (o0 : Nat) (A : Nat → Nat) (th : Int32) (su : Int32) (sz : Nat) (bl : Int32) (ci : Nat) (ma : Nat) (pa : Int32) (en : Int32) (wr : Int32) (tq : Nat → Nat) (mk : Nat → Nat) (b : Nat → Nat) (rk : Nat → Nat) (o : Nat → Nat) (hh : Nat → Nat) (ks : Nat → Int32) (fr : Nat → Nat) (h : Int64) (l : Int64) (t : Int32) (qm q_tape q_mask q_block q_rounds q_box q_other q_hash q_result : Nat) (e0 : w[qm]? = some (o0, cO 8 (mo A th su (nI sz) bl (nI ci) (nI ma) pa en wr))) (e1 : w[q_tape]? = some (A 0, cI Y 4000 (iF tq))) (e2 : w[q_mask]? = some (A 27, cI Y 16 (iF mk))) (e3 : w[q_block]? = some (A 4, cI Y 16 (iF b))) (e4 : w[q_rounds]? = some (A 3, cI Y 176 (iF rk))) (e5 : w[q_box]? = some (A 2, cI Y 256 (iF sN))) (e6 : w[q_other]? = some (A 5, cI Y 16 (iF o))) (e7 : w[q_hash]? = some (A 29, cI Y 16 (iF hh))) (e8 : w[q_result]? = some (A 1, cI Y 16 (iF fr))) (N : xN w.length [qm, q_tape, q_mask, q_block, q_rounds, q_box, q_other, q_hash, q_result]) (hs : 16 ≤ sz) (h4 : sz ≤ 4000) (hT : ∀ j, j < 16 → tq (0 + j) = byW h l j) (hky : ∀ j, j < 176 → rk j = kb ks j) : Ct Y mX8_make 4 0 0 [.ref o0, .int 2, .int t] w (fun v w' => v = (some (.int 1)) ∧ ∃ (mk' : Nat → Nat) (b' : Nat → Nat) (o' : Nat → Nat) (hh' : Nat → Nat) (fr' : Nat → Nat), (∀ j, j < 16 → fr' j = byW (hs1 ks h l t).1 (hs1 ks h l t).2 j) ∧ w' = ovl w [(qm, (o0, cO 8 (mo A (nI 0) su (nI 0) (bl + 1) (nI ci) (nI ma) pa en wr))), (q_tape, (A 0, cI Y 4000 (iF tq))), (q_mask, (A 27, cI Y 16 (iF mk'))), (q_block, (A 4, cI Y 16 (iF b'))), (q_rounds, (A 3, cI Y 176 (iF rk))), (q_box, (A 2, cI Y 256 (iF sN))), (q_other, (A 5, cI Y 16 (iF o'))), (q_hash, (A 29, cI Y 16 (iF hh'))), (q_result, (A 1, cI Y 16 (iF fr')))]) := by
  refine Ct.intro (T := tX8_make) (by decide) oX8_make (Nat.le_of_ble_eq_true rfl) (fun G C B => ?_)
  refine x_lay [(qm, (o0, cO 8 (mo A th su (nI sz) bl (nI ci) (nI ma) pa en wr))), (q_tape, (A 0, cI Y 4000 (iF tq))), (q_mask, (A 27, cI Y 16 (iF mk))), (q_block, (A 4, cI Y 16 (iF b))), (q_rounds, (A 3, cI Y 176 (iF rk))), (q_box, (A 2, cI Y 256 (iF sN))), (q_other, (A 5, cI Y 16 (iF o))), (q_hash, (A 29, cI Y 16 (iF hh))), (q_result, (A 1, cI Y 16 (iF fr)))] (lay_cons e0 (lay_cons e1 (lay_cons e2 (lay_cons e3 (lay_cons e4 (lay_cons e5 (lay_cons e6 (lay_cons e7 (lay_cons e8 lay_nil))))))))) ?_
  refine x_run C 0 2 (pc' := 2) (lv' := [(0, .ref o0), (1, .int 2), (2, .int t)]) (st' := [.int 0, .ref o0]) rfl ?_
  refine x_put C 2 rfl pX8_117 N 0 rfl rfl rfl (Nat.le_of_ble_eq_true rfl) (os' := [(qm, (o0, cO 8 (mo A (nI 0) su (nI sz) bl (nI ci) (nI ma) pa en wr))), (q_tape, (A 0, cI Y 4000 (iF tq))), (q_mask, (A 27, cI Y 16 (iF mk))), (q_block, (A 4, cI Y 16 (iF b))), (q_rounds, (A 3, cI Y 176 (iF rk))), (q_box, (A 2, cI Y 256 (iF sN))), (q_other, (A 5, cI Y 16 (iF o))), (q_hash, (A 29, cI Y 16 (iF hh))), (q_result, (A 1, cI Y 16 (iF fr)))]) rfl ?_
  refine x_run C 3 1 (pc' := 6) (lv' := [(0, .ref o0), (1, .int 2), (2, .int t)]) (st' := [.ref o0]) rfl ?_
  refine x_cv C 4 (As := []) (rest := []) rfl vX8_144 N 0 rfl rfl (c_X8_uses Y _ o0 A (nI 0) su sz bl ci ma pa en wr qm (ovl_at 0 N rfl) (N.ov [0] (by decide) rfl) ) rfl rfl (Nat.le_of_ble_eq_true rfl) ⟨Nat.le_of_ble_eq_true rfl, Nat.le_of_ble_eq_true rfl⟩ ⟨Nat.zero_le _, Nat.zero_le _⟩ [0] ⟨rfl, trivial⟩ (os' := [(qm, (o0, cO 8 (mo A (nI 0) su (nI 0) bl (nI ci) (nI ma) pa en wr))), (q_tape, (A 0, cI Y 4000 (iF tq))), (q_mask, (A 27, cI Y 16 (iF mk))), (q_block, (A 4, cI Y 16 (iF b))), (q_rounds, (A 3, cI Y 176 (iF rk))), (q_box, (A 2, cI Y 256 (iF sN))), (q_other, (A 5, cI Y 16 (iF o))), (q_hash, (A 29, cI Y 16 (iF hh))), (q_result, (A 1, cI Y 16 (iF fr)))]) rfl (st' := [.int (nI sz)]) rfl ?_
  refine x_run C 5 4 (pc' := 13) (lv' := [(3, .int (nI sz)), (0, .ref o0), (1, .int 2), (2, .int t)]) (st' := [.int 3, .int 0, .int 2]) rfl ?_
  refine x_st (st' := [.int (nI 3), .int (nI 0), .int (nI 2)]) (by simp only [nlit, nI_add, pk_mul]) ?_
  refine x_cs C 9 (As := [.int (nI 2), .int (nI 0), .int (nI 3)]) (rest := []) rfl vX8_135 N (c_X8_in Y _ 2 0 3    (by first | assumption | omega) (by first | assumption | omega) (by first | assumption | omega)) rfl rfl (Nat.le_of_ble_eq_true rfl) ⟨Nat.le_of_ble_eq_true rfl, Nat.le_of_ble_eq_true rfl⟩ ⟨Nat.zero_le _, Nat.zero_le _⟩ [] trivial (os' := [(qm, (o0, cO 8 (mo A (nI 0) su (nI 0) bl (nI ci) (nI ma) pa en wr))), (q_tape, (A 0, cI Y 4000 (iF tq))), (q_mask, (A 27, cI Y 16 (iF mk))), (q_block, (A 4, cI Y 16 (iF b))), (q_rounds, (A 3, cI Y 176 (iF rk))), (q_box, (A 2, cI Y 256 (iF sN))), (q_other, (A 5, cI Y 16 (iF o))), (q_hash, (A 29, cI Y 16 (iF hh))), (q_result, (A 1, cI Y 16 (iF fr)))]) rfl (st' := [.int 1]) rfl ?_
  refine x_st (st' := [.int (nI 1)]) (by simp only [nlit, nI_add, pk_mul]) ?_
  refine x_ifN_ne C 10 (by omega) rfl (tgt := 21) rfl (fun hc1 => ?_) (fun hc1 => absurd hc1 (by omega))
  refine x_run C 13 3 (pc' := 24) (lv' := [(3, .int (nI sz)), (0, .ref o0), (1, .int 2), (2, .int t)]) (st' := [.int 3, .int 2, .int (nI sz)]) rfl ?_
  refine x_st (st' := [.int (nI 3), .int 2, .int (nI sz)]) (by simp only [nlit, nI_add, pk_mul]) ?_
  refine x_st (st' := [.int (nI 3), .int (nI 2), .int (nI sz)]) (by simp only [nlit, nI_add, pk_mul]) ?_
  refine x_icmpN_ne C 16 (by omega) (by omega) rfl (tgt := 32) rfl (fun hc2 => ?_) (fun hc2 => absurd hc2 (by omega))
  refine x_run C 19 1 (pc' := 34) (lv' := [(3, .int (nI sz)), (0, .ref o0), (1, .int 2), (2, .int t)]) (st' := [.int 16, .int (nI sz)]) rfl ?_
  refine x_st (st' := [.int (nI 16), .int (nI sz)]) (by simp only [nlit, nI_add, pk_mul]) ?_
  refine x_icmpN_ge C 20 (by omega) (by omega) rfl (tgt := 40) rfl (fun hc3 => ?_) (fun hc3 => ?_)
  · refine x_run C 23 1 (pc' := 41) (lv' := [(3, .int (nI sz)), (0, .ref o0), (1, .int 2), (2, .int t)]) (st' := [.int 2]) rfl ?_
    refine x_st (st' := [.int (nI 2)]) (by simp only [nlit, nI_add, pk_mul]) ?_
    refine x_ifN_ne C 24 (by omega) rfl (tgt := 81) rfl (fun hc4 => ?_) (fun hc4 => absurd hc4 (by omega))
    refine x_run C 43 2 (pc' := 83) (lv' := [(3, .int (nI sz)), (0, .ref o0), (1, .int 2), (2, .int t)]) (st' := [.int 1, .int 2]) rfl ?_
    refine x_st (st' := [.int (nI 1), .int 2]) (by simp only [nlit, nI_add, pk_mul]) ?_
    refine x_st (st' := [.int (nI 1), .int (nI 2)]) (by simp only [nlit, nI_add, pk_mul]) ?_
    refine x_icmpN_ne C 45 (by omega) (by omega) rfl (tgt := 97) rfl (fun hc5 => ?_) (fun hc5 => absurd hc5 (by omega))
    refine x_run C 51 2 (pc' := 99) (lv' := [(3, .int (nI sz)), (0, .ref o0), (1, .int 2), (2, .int t)]) (st' := [.int 2, .int 2]) rfl ?_
    refine x_st (st' := [.int (nI 2), .int 2]) (by simp only [nlit, nI_add, pk_mul]) ?_
    refine x_st (st' := [.int (nI 2), .int (nI 2)]) (by simp only [nlit, nI_add, pk_mul]) ?_
    refine x_icmpN_ne C 53 (by omega) (by omega) rfl (tgt := 115) rfl (fun hc6 => absurd hc6 (by omega)) (fun hc6 => ?_)
    refine x_run C 54 2 (pc' := 104) (lv' := [(3, .int (nI sz)), (0, .ref o0), (1, .int 2), (2, .int t)]) (st' := [.ref o0, .ref o0]) rfl ?_
    refine x_get C 56 rfl fX8_7 N 0 rfl (v := .ref (A 0)) rfl ?_
    refine x_run C 57 2 (pc' := 109) (lv' := [(3, .int (nI sz)), (0, .ref o0), (1, .int 2), (2, .int t)]) (st' := [.int t, .int 0, .ref (A 0), .ref o0]) rfl ?_
    refine x_st (st' := [.int t, .int (nI 0), .ref (A 0), .ref o0]) (by simp only [nlit, nI_add, pk_mul]) ?_
    refine x_callV C 59 (As := [.ref (A 0), .int (nI 0), .int t]) (rest := []) rfl vX8_151 (ovl_at 0 N rfl) rfl (c_X8_hashOne Y _ o0 A (nI 0) su 0 bl ci ma pa en wr (A 0) 4000 tq 0 mk b rk o hh ks h l t qm q_tape q_mask q_block q_rounds q_box q_other q_hash (ovl_at 0 N rfl) (ovl_at 1 N rfl) (ovl_at 2 N rfl) (ovl_at 3 N rfl) (ovl_at 4 N rfl) (ovl_at 5 N rfl) (ovl_at 6 N rfl) (ovl_at 7 N rfl) (N.ov [0, 1, 2, 3, 4, 5, 6, 7] (by decide) rfl) (by decide) (by decide) hT hky) rfl rfl (Nat.le_of_ble_eq_true rfl) ⟨(Nat.le_of_ble_eq_true rfl), (Nat.le_of_ble_eq_true rfl)⟩ ⟨Nat.zero_le _, Nat.zero_le _⟩ (fun v w_1 hp => ?_)
    obtain ⟨rfl, mk'_1, b'_1, o'_1, hh'_1, hq_1, rfl⟩ := hp
    refine x_mer N [0, 1, 2, 3, 4, 5, 6, 7] ⟨rfl, rfl, rfl, rfl, rfl, rfl, rfl, rfl, trivial⟩ (os' := [(qm, (o0, cO 8 (mo A (nI 0) su (nI 0) (bl + 1) (nI ci) (nI ma) pa en wr))), (q_tape, (A 0, cI Y 4000 (iF tq))), (q_mask, (A 27, cI Y 16 (iF mk'_1))), (q_block, (A 4, cI Y 16 (iF b'_1))), (q_rounds, (A 3, cI Y 176 (iF rk))), (q_box, (A 2, cI Y 256 (iF sN))), (q_other, (A 5, cI Y 16 (iF o'_1))), (q_hash, (A 29, cI Y 16 (iF hh'_1))), (q_result, (A 1, cI Y 16 (iF fr)))]) rfl ?_
    refine x_st (st' := []) rfl ?_
    refine x_run C 60 1 (pc' := 131) (lv' := [(3, .int (nI sz)), (0, .ref o0), (1, .int 2), (2, .int t)]) (st' := []) rfl ?_
    refine x_run C 70 2 (pc' := 134) (lv' := [(4, .int 0), (3, .int (nI sz)), (0, .ref o0), (1, .int 2), (2, .int t)]) (st' := []) rfl ?_
    have L134 : ∀ i : Nat, 0 ≤ i → i ≤ 16 → X G Y 0 0 134 [(0, .ref o0), (1, .int 2), (2, .int t), (3, .int (nI sz)), (4, .int (nI i))] [] (ovl w [(qm, (o0, cO 8 (mo A (nI 0) su (nI 0) (bl + 1) (nI ci) (nI ma) pa en wr))), (q_tape, (A 0, cI Y 4000 (iF tq))), (q_mask, (A 27, cI Y 16 (iF mk'_1))), (q_block, (A 4, cI Y 16 (iF b'_1))), (q_rounds, (A 3, cI Y 176 (iF rk))), (q_box, (A 2, cI Y 256 (iF sN))), (q_other, (A 5, cI Y 16 (iF o'_1))), (q_hash, (A 29, cI Y 16 (iF hh'_1))), (q_result, (A 1, cI Y 16 (iF (filN fr 0 i hh'_1))))]) := by
      intro i lo134 hi134
      revert lo134
      refine x_up (fun i => 0 ≤ i → X G Y 0 0 134 [(0, .ref o0), (1, .int 2), (2, .int t), (3, .int (nI sz)), (4, .int (nI i))] [] (ovl w [(qm, (o0, cO 8 (mo A (nI 0) su (nI 0) (bl + 1) (nI ci) (nI ma) pa en wr))), (q_tape, (A 0, cI Y 4000 (iF tq))), (q_mask, (A 27, cI Y 16 (iF mk'_1))), (q_block, (A 4, cI Y 16 (iF b'_1))), (q_rounds, (A 3, cI Y 176 (iF rk))), (q_box, (A 2, cI Y 256 (iF sN))), (q_other, (A 5, cI Y 16 (iF o'_1))), (q_hash, (A 29, cI Y 16 (iF hh'_1))), (q_result, (A 1, cI Y 16 (iF (filN fr 0 i hh'_1))))])) 16 ?_ ?_ i hi134
      · intro lo134
        refine x_run C 72 2 (pc' := 138) (lv' := [(0, .ref o0), (1, .int 2), (2, .int t), (3, .int (nI sz)), (4, .int (nI 16))]) (st' := [.int 16, .int (nI 16)]) rfl ?_
        refine x_st (st' := [.int (nI 16), .int (nI 16)]) (by simp only [nlit, nI_add, pk_mul]) ?_
        refine x_icmpN_ge C 74 (by omega) (by omega) rfl (tgt := 190) rfl (fun hc7 => ?_) (fun hc7 => ?_)
        · refine x_run C 100 1 (pc' := 191) (lv' := [(0, .ref o0), (1, .int 2), (2, .int t), (3, .int (nI sz)), (4, .int (nI 16))]) (st' := [.int 1]) rfl ?_
          exact x_iret C B rfl 101 rfl (Nat.zero_le _) (Nat.zero_le _) ⟨rfl, _, _, _, _, _, (fun j hj => (filN_z hj).trans (hq_1 j hj)), rfl⟩
        · exact absurd hc7 (by omega)
      · intro i hi134 ih134 lo134
        refine x_run C 72 2 (pc' := 138) (lv' := [(0, .ref o0), (1, .int 2), (2, .int t), (3, .int (nI sz)), (4, .int (nI i))]) (st' := [.int 16, .int (nI i)]) rfl ?_
        refine x_st (st' := [.int (nI 16), .int (nI i)]) (by simp only [nlit, nI_add, pk_mul]) ?_
        refine x_icmpN_ge C 74 (by omega) (by omega) rfl (tgt := 190) rfl (fun hc8 => ?_) (fun hc8 => ?_)
        · exact absurd hc8 (by omega)
        · refine x_run C 75 1 (pc' := 142) (lv' := [(0, .ref o0), (1, .int 2), (2, .int t), (3, .int (nI sz)), (4, .int (nI i))]) (st' := [.ref o0]) rfl ?_
          refine x_get C 76 rfl fX8_13 N 0 rfl (v := .ref (A 1)) rfl ?_
          refine x_run C 77 2 (pc' := 148) (lv' := [(0, .ref o0), (1, .int 2), (2, .int t), (3, .int (nI sz)), (4, .int (nI i))]) (st' := [.int 2, .int (nI i), .ref (A 1)]) rfl ?_
          refine x_st (st' := [.int (nI 2), .int (nI i), .ref (A 1)]) (by simp only [nlit, nI_add, pk_mul]) ?_
          refine x_ifN_ne C 79 (by omega) rfl (tgt := 161) rfl (fun hc9 => ?_) (fun hc9 => absurd hc9 (by omega))
          refine x_run C 85 2 (pc' := 163) (lv' := [(0, .ref o0), (1, .int 2), (2, .int t), (3, .int (nI sz)), (4, .int (nI i))]) (st' := [.int 1, .int 2, .int (nI i), .ref (A 1)]) rfl ?_
          refine x_st (st' := [.int (nI 1), .int 2, .int (nI i), .ref (A 1)]) (by simp only [nlit, nI_add, pk_mul]) ?_
          refine x_st (st' := [.int (nI 1), .int (nI 2), .int (nI i), .ref (A 1)]) (by simp only [nlit, nI_add, pk_mul]) ?_
          refine x_icmpN_ne C 87 (by omega) (by omega) rfl (tgt := 176) rfl (fun hc10 => ?_) (fun hc10 => absurd hc10 (by omega))
          refine x_run C 93 1 (pc' := 177) (lv' := [(0, .ref o0), (1, .int 2), (2, .int t), (3, .int (nI sz)), (4, .int (nI i))]) (st' := [.ref o0, .int (nI i), .ref (A 1)]) rfl ?_
          refine x_get C 94 rfl fX8_98 N 0 rfl (v := .ref (A 29)) rfl ?_
          refine x_run C 95 1 (pc' := 182) (lv' := [(0, .ref o0), (1, .int 2), (2, .int t), (3, .int (nI sz)), (4, .int (nI i))]) (st' := [.int (nI i), .ref (A 29), .int (nI i), .ref (A 1)]) rfl ?_
          refine x_ialdN C 96 rfl N 7 rfl (by omega) (by omega) ?_
          refine x_st (st' := [.int (nI (hh'_1 i)), .int (nI i), .ref (A 1)]) rfl ?_
          refine x_iastN C 97 rfl N 8 rfl (by omega) (by omega) (os' := [(qm, (o0, cO 8 (mo A (nI 0) su (nI 0) (bl + 1) (nI ci) (nI ma) pa en wr))), (q_tape, (A 0, cI Y 4000 (iF tq))), (q_mask, (A 27, cI Y 16 (iF mk'_1))), (q_block, (A 4, cI Y 16 (iF b'_1))), (q_rounds, (A 3, cI Y 176 (iF rk))), (q_box, (A 2, cI Y 256 (iF sN))), (q_other, (A 5, cI Y 16 (iF o'_1))), (q_hash, (A 29, cI Y 16 (iF hh'_1))), (q_result, (A 1, cI Y 16 (upd (iF (filN fr 0 i hh'_1)) i (nI (hh'_1 i)))))]) rfl ?_
          refine x_ov (os' := [(qm, (o0, cO 8 (mo A (nI 0) su (nI 0) (bl + 1) (nI ci) (nI ma) pa en wr))), (q_tape, (A 0, cI Y 4000 (iF tq))), (q_mask, (A 27, cI Y 16 (iF mk'_1))), (q_block, (A 4, cI Y 16 (iF b'_1))), (q_rounds, (A 3, cI Y 176 (iF rk))), (q_box, (A 2, cI Y 256 (iF sN))), (q_other, (A 5, cI Y 16 (iF o'_1))), (q_hash, (A 29, cI Y 16 (iF hh'_1))), (q_result, (A 1, cI Y 16 (iF (updN (filN fr 0 i hh'_1) i (hh'_1 i)))))]) (by rw [upd_iF]) ?_
          refine x_run C 98 2 (pc' := 134) (lv' := [(4, .int ((nI i) + 1)), (0, .ref o0), (1, .int 2), (2, .int t), (3, .int (nI sz))]) (st' := []) rfl ?_
          refine x_sub (lv' := [(0, .ref o0), (1, .int 2), (2, .int t), (3, .int (nI sz)), (4, .int ((nI i) + 1))]) [1, 2, 3, 4, 0] rfl ?_
          refine x_loc (lv' := [(0, .ref o0), (1, .int 2), (2, .int t), (3, .int (nI sz)), (4, .int (nI (i + 1)))]) (by simp only [nlit, nI_add, pk_mul]) ?_
          refine x_ov (os' := [(qm, (o0, cO 8 (mo A (nI 0) su (nI 0) (bl + 1) (nI ci) (nI ma) pa en wr))), (q_tape, (A 0, cI Y 4000 (iF tq))), (q_mask, (A 27, cI Y 16 (iF mk'_1))), (q_block, (A 4, cI Y 16 (iF b'_1))), (q_rounds, (A 3, cI Y 176 (iF rk))), (q_box, (A 2, cI Y 256 (iF sN))), (q_other, (A 5, cI Y 16 (iF o'_1))), (q_hash, (A 29, cI Y 16 (iF hh'_1))), (q_result, (A 1, cI Y 16 (iF (filN fr 0 (i + 1) hh'_1))))]) (by rw [← filN_s0]) ?_
          exact ih134 (by omega)
    refine x_sub (lv' := [(0, .ref o0), (1, .int 2), (2, .int t), (3, .int (nI sz)), (4, .int 0)]) [2, 3, 4, 1, 0] rfl ?_
    refine x_loc (lv' := [(0, .ref o0), (1, .int 2), (2, .int t), (3, .int (nI sz)), (4, .int (nI 0))]) (by simp only [nlit, nI_add, pk_mul]) ?_
    refine x_ov (os' := [(qm, (o0, cO 8 (mo A (nI 0) su (nI 0) (bl + 1) (nI ci) (nI ma) pa en wr))), (q_tape, (A 0, cI Y 4000 (iF tq))), (q_mask, (A 27, cI Y 16 (iF mk'_1))), (q_block, (A 4, cI Y 16 (iF b'_1))), (q_rounds, (A 3, cI Y 176 (iF rk))), (q_box, (A 2, cI Y 256 (iF sN))), (q_other, (A 5, cI Y 16 (iF o'_1))), (q_hash, (A 29, cI Y 16 (iF hh'_1))), (q_result, (A 1, cI Y 16 (iF (filN fr 0 0 hh'_1))))]) (by rw [filN_0]) ?_
    exact L134 0 (Nat.le_refl _) (by omega)
  · exact absurd hc3 (by omega)
set_option maxHeartbeats 4000000 in
set_option maxRecDepth 100000 in
theorem c_X8_make3 (Y : xD) (w : va_W) (o0 : Nat) (A : Nat → Nat) (th : Int32) (su : Int32) (sz : Nat) (bl : Int32) (ci : Nat) (ma : Nat) (pa : Int32) (en : Int32) (wr : Int32) (tq : Nat → Nat) (mk : Nat → Nat) (b : Nat → Nat) (rk : Nat → Nat) (o : Nat → Nat) (hh : Nat → Nat) (ks : Nat → Int32) (sd : Nat → Nat) (fr : Nat → Nat) (h : Int64) (l : Int64) (h2 : Int64) (l2 : Int64) (t : Int32) (qm q_tape q_mask q_block q_rounds q_box q_other q_hash q_second q_result : Nat) (e0 : w[qm]? = some (o0, cO 8 (mo A th su (nI sz) bl (nI ci) (nI ma) pa en wr))) (e1 : w[q_tape]? = some (A 0, cI Y 4000 (iF tq))) (e2 : w[q_mask]? = some (A 27, cI Y 16 (iF mk))) (e3 : w[q_block]? = some (A 4, cI Y 16 (iF b))) (e4 : w[q_rounds]? = some (A 3, cI Y 176 (iF rk))) (e5 : w[q_box]? = some (A 2, cI Y 256 (iF sN))) (e6 : w[q_other]? = some (A 5, cI Y 16 (iF o))) (e7 : w[q_hash]? = some (A 29, cI Y 16 (iF hh))) (e8 : w[q_second]? = some (A 28, cI Y 16 (iF sd))) (e9 : w[q_result]? = some (A 1, cI Y 16 (iF fr))) (N : xN w.length [qm, q_tape, q_mask, q_block, q_rounds, q_box, q_other, q_hash, q_second, q_result]) (hs : 32 ≤ sz) (h4 : sz ≤ 4000) (hT : ∀ j, j < 16 → tq (0 + j) = byW h l j) (hT2 : ∀ j, j < 16 → tq (16 + j) = byW h2 l2 j) (hky : ∀ j, j < 176 → rk j = kb ks j) : Ct Y mX8_make 4 0 0 [.ref o0, .int 3, .int t] w (fun v w' => v = (some (.int 1)) ∧ ∃ (mk' : Nat → Nat) (b' : Nat → Nat) (o' : Nat → Nat) (hh' : Nat → Nat) (sd' : Nat → Nat) (fr' : Nat → Nat), (∀ j, j < 16 → fr' j = byW (hs2 ks h l h2 l2 t).1 (hs2 ks h l h2 l2 t).2 j) ∧ w' = ovl w [(qm, (o0, cO 8 (mo A (nI 0) su (nI 0) (bl + 1) (nI ci) (nI ma) pa en wr))), (q_tape, (A 0, cI Y 4000 (iF tq))), (q_mask, (A 27, cI Y 16 (iF mk'))), (q_block, (A 4, cI Y 16 (iF b'))), (q_rounds, (A 3, cI Y 176 (iF rk))), (q_box, (A 2, cI Y 256 (iF sN))), (q_other, (A 5, cI Y 16 (iF o'))), (q_hash, (A 29, cI Y 16 (iF hh'))), (q_second, (A 28, cI Y 16 (iF sd'))), (q_result, (A 1, cI Y 16 (iF fr')))]) := by
  refine Ct.intro (T := tX8_make) (by decide) oX8_make (Nat.le_of_ble_eq_true rfl) (fun G C B => ?_)
  refine x_lay [(qm, (o0, cO 8 (mo A th su (nI sz) bl (nI ci) (nI ma) pa en wr))), (q_tape, (A 0, cI Y 4000 (iF tq))), (q_mask, (A 27, cI Y 16 (iF mk))), (q_block, (A 4, cI Y 16 (iF b))), (q_rounds, (A 3, cI Y 176 (iF rk))), (q_box, (A 2, cI Y 256 (iF sN))), (q_other, (A 5, cI Y 16 (iF o))), (q_hash, (A 29, cI Y 16 (iF hh))), (q_second, (A 28, cI Y 16 (iF sd))), (q_result, (A 1, cI Y 16 (iF fr)))] (lay_cons e0 (lay_cons e1 (lay_cons e2 (lay_cons e3 (lay_cons e4 (lay_cons e5 (lay_cons e6 (lay_cons e7 (lay_cons e8 (lay_cons e9 lay_nil)))))))))) ?_
  refine x_run C 0 2 (pc' := 2) (lv' := [(0, .ref o0), (1, .int 3), (2, .int t)]) (st' := [.int 0, .ref o0]) rfl ?_
  refine x_put C 2 rfl pX8_117 N 0 rfl rfl rfl (Nat.le_of_ble_eq_true rfl) (os' := [(qm, (o0, cO 8 (mo A (nI 0) su (nI sz) bl (nI ci) (nI ma) pa en wr))), (q_tape, (A 0, cI Y 4000 (iF tq))), (q_mask, (A 27, cI Y 16 (iF mk))), (q_block, (A 4, cI Y 16 (iF b))), (q_rounds, (A 3, cI Y 176 (iF rk))), (q_box, (A 2, cI Y 256 (iF sN))), (q_other, (A 5, cI Y 16 (iF o))), (q_hash, (A 29, cI Y 16 (iF hh))), (q_second, (A 28, cI Y 16 (iF sd))), (q_result, (A 1, cI Y 16 (iF fr)))]) rfl ?_
  refine x_run C 3 1 (pc' := 6) (lv' := [(0, .ref o0), (1, .int 3), (2, .int t)]) (st' := [.ref o0]) rfl ?_
  refine x_cv C 4 (As := []) (rest := []) rfl vX8_144 N 0 rfl rfl (c_X8_uses Y _ o0 A (nI 0) su sz bl ci ma pa en wr qm (ovl_at 0 N rfl) (N.ov [0] (by decide) rfl) ) rfl rfl (Nat.le_of_ble_eq_true rfl) ⟨Nat.le_of_ble_eq_true rfl, Nat.le_of_ble_eq_true rfl⟩ ⟨Nat.zero_le _, Nat.zero_le _⟩ [0] ⟨rfl, trivial⟩ (os' := [(qm, (o0, cO 8 (mo A (nI 0) su (nI 0) bl (nI ci) (nI ma) pa en wr))), (q_tape, (A 0, cI Y 4000 (iF tq))), (q_mask, (A 27, cI Y 16 (iF mk))), (q_block, (A 4, cI Y 16 (iF b))), (q_rounds, (A 3, cI Y 176 (iF rk))), (q_box, (A 2, cI Y 256 (iF sN))), (q_other, (A 5, cI Y 16 (iF o))), (q_hash, (A 29, cI Y 16 (iF hh))), (q_second, (A 28, cI Y 16 (iF sd))), (q_result, (A 1, cI Y 16 (iF fr)))]) rfl (st' := [.int (nI sz)]) rfl ?_
  refine x_run C 5 4 (pc' := 13) (lv' := [(3, .int (nI sz)), (0, .ref o0), (1, .int 3), (2, .int t)]) (st' := [.int 3, .int 0, .int 3]) rfl ?_
  refine x_st (st' := [.int (nI 3), .int (nI 0), .int (nI 3)]) (by simp only [nlit, nI_add, pk_mul]) ?_
  refine x_cs C 9 (As := [.int (nI 3), .int (nI 0), .int (nI 3)]) (rest := []) rfl vX8_135 N (c_X8_in Y _ 3 0 3    (by first | assumption | omega) (by first | assumption | omega) (by first | assumption | omega)) rfl rfl (Nat.le_of_ble_eq_true rfl) ⟨Nat.le_of_ble_eq_true rfl, Nat.le_of_ble_eq_true rfl⟩ ⟨Nat.zero_le _, Nat.zero_le _⟩ [] trivial (os' := [(qm, (o0, cO 8 (mo A (nI 0) su (nI 0) bl (nI ci) (nI ma) pa en wr))), (q_tape, (A 0, cI Y 4000 (iF tq))), (q_mask, (A 27, cI Y 16 (iF mk))), (q_block, (A 4, cI Y 16 (iF b))), (q_rounds, (A 3, cI Y 176 (iF rk))), (q_box, (A 2, cI Y 256 (iF sN))), (q_other, (A 5, cI Y 16 (iF o))), (q_hash, (A 29, cI Y 16 (iF hh))), (q_second, (A 28, cI Y 16 (iF sd))), (q_result, (A 1, cI Y 16 (iF fr)))]) rfl (st' := [.int 1]) rfl ?_
  refine x_st (st' := [.int (nI 1)]) (by simp only [nlit, nI_add, pk_mul]) ?_
  refine x_ifN_ne C 10 (by omega) rfl (tgt := 21) rfl (fun hc1 => ?_) (fun hc1 => absurd hc1 (by omega))
  refine x_run C 13 3 (pc' := 24) (lv' := [(3, .int (nI sz)), (0, .ref o0), (1, .int 3), (2, .int t)]) (st' := [.int 3, .int 3, .int (nI sz)]) rfl ?_
  refine x_st (st' := [.int (nI 3), .int 3, .int (nI sz)]) (by simp only [nlit, nI_add, pk_mul]) ?_
  refine x_st (st' := [.int (nI 3), .int (nI 3), .int (nI sz)]) (by simp only [nlit, nI_add, pk_mul]) ?_
  refine x_icmpN_ne C 16 (by omega) (by omega) rfl (tgt := 32) rfl (fun hc2 => absurd hc2 (by omega)) (fun hc2 => ?_)
  refine x_run C 17 2 (pc' := 34) (lv' := [(3, .int (nI sz)), (0, .ref o0), (1, .int 3), (2, .int t)]) (st' := [.int 32, .int (nI sz)]) rfl ?_
  refine x_st (st' := [.int (nI 32), .int (nI sz)]) (by simp only [nlit, nI_add, pk_mul]) ?_
  refine x_icmpN_ge C 20 (by omega) (by omega) rfl (tgt := 40) rfl (fun hc3 => ?_) (fun hc3 => ?_)
  · refine x_run C 23 1 (pc' := 41) (lv' := [(3, .int (nI sz)), (0, .ref o0), (1, .int 3), (2, .int t)]) (st' := [.int 3]) rfl ?_
    refine x_st (st' := [.int (nI 3)]) (by simp only [nlit, nI_add, pk_mul]) ?_
    refine x_ifN_ne C 24 (by omega) rfl (tgt := 81) rfl (fun hc4 => ?_) (fun hc4 => absurd hc4 (by omega))
    refine x_run C 43 2 (pc' := 83) (lv' := [(3, .int (nI sz)), (0, .ref o0), (1, .int 3), (2, .int t)]) (st' := [.int 1, .int 3]) rfl ?_
    refine x_st (st' := [.int (nI 1), .int 3]) (by simp only [nlit, nI_add, pk_mul]) ?_
    refine x_st (st' := [.int (nI 1), .int (nI 3)]) (by simp only [nlit, nI_add, pk_mul]) ?_
    refine x_icmpN_ne C 45 (by omega) (by omega) rfl (tgt := 97) rfl (fun hc5 => ?_) (fun hc5 => absurd hc5 (by omega))
    refine x_run C 51 2 (pc' := 99) (lv' := [(3, .int (nI sz)), (0, .ref o0), (1, .int 3), (2, .int t)]) (st' := [.int 2, .int 3]) rfl ?_
    refine x_st (st' := [.int (nI 2), .int 3]) (by simp only [nlit, nI_add, pk_mul]) ?_
    refine x_st (st' := [.int (nI 2), .int (nI 3)]) (by simp only [nlit, nI_add, pk_mul]) ?_
    refine x_icmpN_ne C 53 (by omega) (by omega) rfl (tgt := 115) rfl (fun hc6 => ?_) (fun hc6 => absurd hc6 (by omega))
    refine x_run C 61 2 (pc' := 117) (lv' := [(3, .int (nI sz)), (0, .ref o0), (1, .int 3), (2, .int t)]) (st' := [.ref o0, .ref o0]) rfl ?_
    refine x_get C 63 rfl fX8_7 N 0 rfl (v := .ref (A 0)) rfl ?_
    refine x_run C 64 2 (pc' := 122) (lv' := [(3, .int (nI sz)), (0, .ref o0), (1, .int 3), (2, .int t)]) (st' := [.ref o0, .int 0, .ref (A 0), .ref o0]) rfl ?_
    refine x_get C 66 rfl fX8_7 N 0 rfl (v := .ref (A 0)) rfl ?_
    refine x_run C 67 2 (pc' := 128) (lv' := [(3, .int (nI sz)), (0, .ref o0), (1, .int 3), (2, .int t)]) (st' := [.int t, .int 16, .ref (A 0), .int 0, .ref (A 0), .ref o0]) rfl ?_
    refine x_st (st' := [.int t, .int (nI 16), .ref (A 0), .int (nI 0), .ref (A 0), .ref o0]) (by simp only [nlit, nI_add, pk_mul]) ?_
    refine x_callV C 69 (As := [.ref (A 0), .int (nI 0), .ref (A 0), .int (nI 16), .int t]) (rest := []) rfl vX8_155 (ovl_at 0 N rfl) rfl (c_X8_hashTwoS Y _ o0 A (nI 0) su 0 bl ci ma pa en wr (A 0) 4000 tq 0 16 mk b rk o hh ks sd h l h2 l2 t qm q_tape q_mask q_block q_rounds q_box q_other q_hash q_second (ovl_at 0 N rfl) (ovl_at 1 N rfl) (ovl_at 2 N rfl) (ovl_at 3 N rfl) (ovl_at 4 N rfl) (ovl_at 5 N rfl) (ovl_at 6 N rfl) (ovl_at 7 N rfl) (ovl_at 8 N rfl) (N.ov [0, 1, 2, 3, 4, 5, 6, 7, 8] (by decide) rfl) (by decide) (by decide) (by decide) (by decide) hT hT2 hky) rfl rfl (Nat.le_of_ble_eq_true rfl) ⟨(Nat.le_of_ble_eq_true rfl), (Nat.le_of_ble_eq_true rfl)⟩ ⟨Nat.zero_le _, Nat.zero_le _⟩ (fun v w_1 hp => ?_)
    obtain ⟨rfl, mk'_1, b'_1, o'_1, hh'_1, sd'_1, hq_1, rfl⟩ := hp
    refine x_mer N [0, 1, 2, 3, 4, 5, 6, 7, 8] ⟨rfl, rfl, rfl, rfl, rfl, rfl, rfl, rfl, rfl, trivial⟩ (os' := [(qm, (o0, cO 8 (mo A (nI 0) su (nI 0) (bl + 1) (nI ci) (nI ma) pa en wr))), (q_tape, (A 0, cI Y 4000 (iF tq))), (q_mask, (A 27, cI Y 16 (iF mk'_1))), (q_block, (A 4, cI Y 16 (iF b'_1))), (q_rounds, (A 3, cI Y 176 (iF rk))), (q_box, (A 2, cI Y 256 (iF sN))), (q_other, (A 5, cI Y 16 (iF o'_1))), (q_hash, (A 29, cI Y 16 (iF hh'_1))), (q_second, (A 28, cI Y 16 (iF sd'_1))), (q_result, (A 1, cI Y 16 (iF fr)))]) rfl ?_
    refine x_st (st' := []) rfl ?_
    refine x_run C 70 2 (pc' := 134) (lv' := [(4, .int 0), (3, .int (nI sz)), (0, .ref o0), (1, .int 3), (2, .int t)]) (st' := []) rfl ?_
    have L134 : ∀ i : Nat, 0 ≤ i → i ≤ 16 → X G Y 0 0 134 [(0, .ref o0), (1, .int 3), (2, .int t), (3, .int (nI sz)), (4, .int (nI i))] [] (ovl w [(qm, (o0, cO 8 (mo A (nI 0) su (nI 0) (bl + 1) (nI ci) (nI ma) pa en wr))), (q_tape, (A 0, cI Y 4000 (iF tq))), (q_mask, (A 27, cI Y 16 (iF mk'_1))), (q_block, (A 4, cI Y 16 (iF b'_1))), (q_rounds, (A 3, cI Y 176 (iF rk))), (q_box, (A 2, cI Y 256 (iF sN))), (q_other, (A 5, cI Y 16 (iF o'_1))), (q_hash, (A 29, cI Y 16 (iF hh'_1))), (q_second, (A 28, cI Y 16 (iF sd'_1))), (q_result, (A 1, cI Y 16 (iF (filN fr 0 i hh'_1))))]) := by
      intro i lo134 hi134
      revert lo134
      refine x_up (fun i => 0 ≤ i → X G Y 0 0 134 [(0, .ref o0), (1, .int 3), (2, .int t), (3, .int (nI sz)), (4, .int (nI i))] [] (ovl w [(qm, (o0, cO 8 (mo A (nI 0) su (nI 0) (bl + 1) (nI ci) (nI ma) pa en wr))), (q_tape, (A 0, cI Y 4000 (iF tq))), (q_mask, (A 27, cI Y 16 (iF mk'_1))), (q_block, (A 4, cI Y 16 (iF b'_1))), (q_rounds, (A 3, cI Y 176 (iF rk))), (q_box, (A 2, cI Y 256 (iF sN))), (q_other, (A 5, cI Y 16 (iF o'_1))), (q_hash, (A 29, cI Y 16 (iF hh'_1))), (q_second, (A 28, cI Y 16 (iF sd'_1))), (q_result, (A 1, cI Y 16 (iF (filN fr 0 i hh'_1))))])) 16 ?_ ?_ i hi134
      · intro lo134
        refine x_run C 72 2 (pc' := 138) (lv' := [(0, .ref o0), (1, .int 3), (2, .int t), (3, .int (nI sz)), (4, .int (nI 16))]) (st' := [.int 16, .int (nI 16)]) rfl ?_
        refine x_st (st' := [.int (nI 16), .int (nI 16)]) (by simp only [nlit, nI_add, pk_mul]) ?_
        refine x_icmpN_ge C 74 (by omega) (by omega) rfl (tgt := 190) rfl (fun hc7 => ?_) (fun hc7 => ?_)
        · refine x_run C 100 1 (pc' := 191) (lv' := [(0, .ref o0), (1, .int 3), (2, .int t), (3, .int (nI sz)), (4, .int (nI 16))]) (st' := [.int 1]) rfl ?_
          exact x_iret C B rfl 101 rfl (Nat.zero_le _) (Nat.zero_le _) ⟨rfl, _, _, _, _, _, _, (fun j hj => (filN_z hj).trans (hq_1 j hj)), rfl⟩
        · exact absurd hc7 (by omega)
      · intro i hi134 ih134 lo134
        refine x_run C 72 2 (pc' := 138) (lv' := [(0, .ref o0), (1, .int 3), (2, .int t), (3, .int (nI sz)), (4, .int (nI i))]) (st' := [.int 16, .int (nI i)]) rfl ?_
        refine x_st (st' := [.int (nI 16), .int (nI i)]) (by simp only [nlit, nI_add, pk_mul]) ?_
        refine x_icmpN_ge C 74 (by omega) (by omega) rfl (tgt := 190) rfl (fun hc8 => ?_) (fun hc8 => ?_)
        · exact absurd hc8 (by omega)
        · refine x_run C 75 1 (pc' := 142) (lv' := [(0, .ref o0), (1, .int 3), (2, .int t), (3, .int (nI sz)), (4, .int (nI i))]) (st' := [.ref o0]) rfl ?_
          refine x_get C 76 rfl fX8_13 N 0 rfl (v := .ref (A 1)) rfl ?_
          refine x_run C 77 2 (pc' := 148) (lv' := [(0, .ref o0), (1, .int 3), (2, .int t), (3, .int (nI sz)), (4, .int (nI i))]) (st' := [.int 3, .int (nI i), .ref (A 1)]) rfl ?_
          refine x_st (st' := [.int (nI 3), .int (nI i), .ref (A 1)]) (by simp only [nlit, nI_add, pk_mul]) ?_
          refine x_ifN_ne C 79 (by omega) rfl (tgt := 161) rfl (fun hc9 => ?_) (fun hc9 => absurd hc9 (by omega))
          refine x_run C 85 2 (pc' := 163) (lv' := [(0, .ref o0), (1, .int 3), (2, .int t), (3, .int (nI sz)), (4, .int (nI i))]) (st' := [.int 1, .int 3, .int (nI i), .ref (A 1)]) rfl ?_
          refine x_st (st' := [.int (nI 1), .int 3, .int (nI i), .ref (A 1)]) (by simp only [nlit, nI_add, pk_mul]) ?_
          refine x_st (st' := [.int (nI 1), .int (nI 3), .int (nI i), .ref (A 1)]) (by simp only [nlit, nI_add, pk_mul]) ?_
          refine x_icmpN_ne C 87 (by omega) (by omega) rfl (tgt := 176) rfl (fun hc10 => ?_) (fun hc10 => absurd hc10 (by omega))
          refine x_run C 93 1 (pc' := 177) (lv' := [(0, .ref o0), (1, .int 3), (2, .int t), (3, .int (nI sz)), (4, .int (nI i))]) (st' := [.ref o0, .int (nI i), .ref (A 1)]) rfl ?_
          refine x_get C 94 rfl fX8_98 N 0 rfl (v := .ref (A 29)) rfl ?_
          refine x_run C 95 1 (pc' := 182) (lv' := [(0, .ref o0), (1, .int 3), (2, .int t), (3, .int (nI sz)), (4, .int (nI i))]) (st' := [.int (nI i), .ref (A 29), .int (nI i), .ref (A 1)]) rfl ?_
          refine x_ialdN C 96 rfl N 7 rfl (by omega) (by omega) ?_
          refine x_st (st' := [.int (nI (hh'_1 i)), .int (nI i), .ref (A 1)]) rfl ?_
          refine x_iastN C 97 rfl N 9 rfl (by omega) (by omega) (os' := [(qm, (o0, cO 8 (mo A (nI 0) su (nI 0) (bl + 1) (nI ci) (nI ma) pa en wr))), (q_tape, (A 0, cI Y 4000 (iF tq))), (q_mask, (A 27, cI Y 16 (iF mk'_1))), (q_block, (A 4, cI Y 16 (iF b'_1))), (q_rounds, (A 3, cI Y 176 (iF rk))), (q_box, (A 2, cI Y 256 (iF sN))), (q_other, (A 5, cI Y 16 (iF o'_1))), (q_hash, (A 29, cI Y 16 (iF hh'_1))), (q_second, (A 28, cI Y 16 (iF sd'_1))), (q_result, (A 1, cI Y 16 (upd (iF (filN fr 0 i hh'_1)) i (nI (hh'_1 i)))))]) rfl ?_
          refine x_ov (os' := [(qm, (o0, cO 8 (mo A (nI 0) su (nI 0) (bl + 1) (nI ci) (nI ma) pa en wr))), (q_tape, (A 0, cI Y 4000 (iF tq))), (q_mask, (A 27, cI Y 16 (iF mk'_1))), (q_block, (A 4, cI Y 16 (iF b'_1))), (q_rounds, (A 3, cI Y 176 (iF rk))), (q_box, (A 2, cI Y 256 (iF sN))), (q_other, (A 5, cI Y 16 (iF o'_1))), (q_hash, (A 29, cI Y 16 (iF hh'_1))), (q_second, (A 28, cI Y 16 (iF sd'_1))), (q_result, (A 1, cI Y 16 (iF (updN (filN fr 0 i hh'_1) i (hh'_1 i)))))]) (by rw [upd_iF]) ?_
          refine x_run C 98 2 (pc' := 134) (lv' := [(4, .int ((nI i) + 1)), (0, .ref o0), (1, .int 3), (2, .int t), (3, .int (nI sz))]) (st' := []) rfl ?_
          refine x_sub (lv' := [(0, .ref o0), (1, .int 3), (2, .int t), (3, .int (nI sz)), (4, .int ((nI i) + 1))]) [1, 2, 3, 4, 0] rfl ?_
          refine x_loc (lv' := [(0, .ref o0), (1, .int 3), (2, .int t), (3, .int (nI sz)), (4, .int (nI (i + 1)))]) (by simp only [nlit, nI_add, pk_mul]) ?_
          refine x_ov (os' := [(qm, (o0, cO 8 (mo A (nI 0) su (nI 0) (bl + 1) (nI ci) (nI ma) pa en wr))), (q_tape, (A 0, cI Y 4000 (iF tq))), (q_mask, (A 27, cI Y 16 (iF mk'_1))), (q_block, (A 4, cI Y 16 (iF b'_1))), (q_rounds, (A 3, cI Y 176 (iF rk))), (q_box, (A 2, cI Y 256 (iF sN))), (q_other, (A 5, cI Y 16 (iF o'_1))), (q_hash, (A 29, cI Y 16 (iF hh'_1))), (q_second, (A 28, cI Y 16 (iF sd'_1))), (q_result, (A 1, cI Y 16 (iF (filN fr 0 (i + 1) hh'_1))))]) (by rw [← filN_s0]) ?_
          exact ih134 (by omega)
    refine x_sub (lv' := [(0, .ref o0), (1, .int 3), (2, .int t), (3, .int (nI sz)), (4, .int 0)]) [2, 3, 4, 1, 0] rfl ?_
    refine x_loc (lv' := [(0, .ref o0), (1, .int 3), (2, .int t), (3, .int (nI sz)), (4, .int (nI 0))]) (by simp only [nlit, nI_add, pk_mul]) ?_
    refine x_ov (os' := [(qm, (o0, cO 8 (mo A (nI 0) su (nI 0) (bl + 1) (nI ci) (nI ma) pa en wr))), (q_tape, (A 0, cI Y 4000 (iF tq))), (q_mask, (A 27, cI Y 16 (iF mk'_1))), (q_block, (A 4, cI Y 16 (iF b'_1))), (q_rounds, (A 3, cI Y 176 (iF rk))), (q_box, (A 2, cI Y 256 (iF sN))), (q_other, (A 5, cI Y 16 (iF o'_1))), (q_hash, (A 29, cI Y 16 (iF hh'_1))), (q_second, (A 28, cI Y 16 (iF sd'_1))), (q_result, (A 1, cI Y 16 (iF (filN fr 0 0 hh'_1))))]) (by rw [filN_0]) ?_
    exact L134 0 (Nat.le_refl _) (by omega)
  · exact absurd hc3 (by omega)
