theorem c_X8_times2 (Y : xD) (w : va_W) (a : Nat)    (ha : a < 256) : Cf Y mX8_times 0 [.int (nI a), .int 2] w (some (.int (nI (x2 a)))) [] := by
  have h := c_X8_times Y w (nI a) 2
  rw [tm2 a ha] at h
  exact h
theorem c_X8_times3 (Y : xD) (w : va_W) (a : Nat)    (ha : a < 256) : Cf Y mX8_times 0 [.int (nI a), .int 3] w (some (.int (nI (x3 a)))) [] := by
  have h := c_X8_times Y w (nI a) 3
  rw [tm3 a ha] at h
  exact h
/-- the states of the rounds -/
def aesS (k : Nat → Int32) (h l : Int64) (m : Nat) : c4 := if m < 10 then rnds k (c4of k h l) m else lst k (rnds k (c4of k h l) 9)
theorem aesS_s {k : Nat → Int32} {h l : Int64} {m : Nat} (hm : m < 10) : ∀ j, j < 16 → stB (aesS k h l (m + 1)) j = (if 1 + m < 10 then mx (sr (stB (aesS k h l m))) j else sr (stB (aesS k h l m)) j) ^^^ kb k (16 * (1 + m) + j) := by
  intro j hj
  unfold aesS
  rw [if_pos hm]
  by_cases h9 : m + 1 < 10
  · rw [if_pos h9, if_pos (by omega), Nat.add_comm 1 m]
    exact rnd_B k m _ j hj
  · rw [if_neg h9, if_neg (by omega), show m = 9 by omega]
    exact lst_B k _ j hj
theorem sr_c {b b' : Nat → Nat} (h : ∀ j, j < 16 → b j = b' j) : ∀ j, j < 16 → sr b j = sr b' j := by
  intro j hj
  unfold sr
  rw [h _ (by omega)]
theorem inv_A {b o : Nat → Nat} {c q : Nat} (hq : q < 4) (h : ∀ j, j < 4 * c + q → o j = sr b j) : ∀ j, j < 4 * c + (q + 1) → updN o (q + 4 * c) (sN (b (q + 4 * ((c + q) % 4)))) j = sr b j := by
  intro j hj
  by_cases e : j = q + 4 * c
  · subst e
    rw [updN_s]
    unfold sr
    rw [show (q + 4 * c) % 4 = q by omega, show (q + 4 * c) / 4 = c by omega]
  · rw [updN_n _ _ e]
    exact h j (by omega)
theorem inv_B {b g : Nat → Nat} {x v : Nat} (h : ∀ j, j < x → b j = g j) (hv : v = g x) : ∀ j, j < x + 1 → updN b x v j = g j := by
  intro j hj
  by_cases e : j = x
  · subst e
    rw [updN_s, hv]
  · rw [updN_n _ _ e]
    exact h j (by omega)
theorem mxV {o : Nat → Nat} {d u : Nat} (hu : u < 4) : mx o (4 * d + u) = x2 (o (4 * d + u)) ^^^ x3 (o (4 * d + (u + 1) % 4)) ^^^ o (4 * d + (u + 2) % 4) ^^^ o (4 * d + (u + 3) % 4) := by
  unfold mx
  rw [show (4 * d + u) / 4 = d by omega, show (4 * d + u) % 4 = u by omega]
theorem mx_c {o o' : Nat → Nat} (h : ∀ j, j < 16 → o j = o' j) : ∀ j, j < 16 → mx o j = mx o' j := by
  intro j hj
  unfold mx
  rw [h _ (by omega), h _ (by omega), h _ (by omega), h _ (by omega)]
theorem round_1 {k : Nat → Int32} {h l : Int64} {m d u : Nat} {o rk : Nat → Nat} (hm : m < 10) (hO : ∀ j, j < 16 → o j = sr (stB (aesS k h l m)) j) (hK : ∀ j, j < 176 → rk j = kb k j) (hd : d < 4) (hu : u < 4) (h9 : 1 + m < 10) : x2 (o (4 * d + u)) ^^^ x3 (o (4 * d + (u + 1) % 4)) ^^^ o (4 * d + (u + 2) % 4) ^^^ o (4 * d + (u + 3) % 4) ^^^ rk (16 * (1 + m) + 4 * d + u) = stB (aesS k h l (m + 1)) (4 * d + u) := by
  rw [aesS_s hm _ (by omega), if_pos h9, ← mxV hu, mx_c hO _ (by omega), hK _ (by omega), Nat.add_assoc]
theorem round_2 {k : Nat → Int32} {h l : Int64} {m d u : Nat} {o rk : Nat → Nat} (hm : m < 10) (hO : ∀ j, j < 16 → o j = sr (stB (aesS k h l m)) j) (hK : ∀ j, j < 176 → rk j = kb k j) (hd : d < 4) (hu : u < 4) (h9 : 10 ≤ 1 + m) : o (4 * d + u) ^^^ rk (16 * (1 + m) + 4 * d + u) = stB (aesS k h l (m + 1)) (4 * d + u) := by
  rw [aesS_s hm _ (by omega), if_neg (by omega), hO _ (by omega), hK _ (by omega), Nat.add_assoc]
theorem aes_end {k : Nat → Int32} {h l : Int64} {b : Nat → Nat} (hb : ∀ j, j < 16 → b j = stB (aesS k h l 10) j) : ∀ j, j < 16 → b j = byW (enc k h l).1 (enc k h l).2 j := by
  intro j hj
  rw [enc_B k h l j hj, hb j hj]
  rfl
theorem aes_0 {k : Nat → Int32} {h l : Int64} {b rk : Nat → Nat} (hb : ∀ j, j < 16 → b j = byW h l j) (hK : ∀ j, j < 176 → rk j = kb k j) : ∀ j, j < 16 → filN b 0 16 (fun j => b j ^^^ rk j) j = stB (aesS k h l 0) j := by
  intro j hj
  rw [filN_z hj]
  show b j ^^^ rk j = stB (c4of k h l) j
  rw [c4of_B k h l j hj, hb j hj, hK j (by omega)]
set_option maxHeartbeats 4000000 in
set_option maxRecDepth 100000 in
theorem c_X8_ciphers (Y : xD) (w : va_W) (o0 : Nat) (A : Nat → Nat) (th : Int32) (su : Int32) (sz : Nat) (bl : Int32) (ci : Nat) (ma : Nat) (pa : Int32) (en : Int32) (wr : Int32) (b : Nat → Nat) (rk : Nat → Nat) (o : Nat → Nat) (ks : Nat → Int32) (h : Int64) (l : Int64) (qm q_block q_rounds q_box q_other : Nat) (e0 : w[qm]? = some (o0, cO 8 (mo A th su (nI sz) bl (nI ci) (nI ma) pa en wr))) (e1 : w[q_block]? = some (A 4, cI Y 16 (iF b))) (e2 : w[q_rounds]? = some (A 3, cI Y 176 (iF rk))) (e3 : w[q_box]? = some (A 2, cI Y 256 (iF sN))) (e4 : w[q_other]? = some (A 5, cI Y 16 (iF o))) (N : xN w.length [qm, q_block, q_rounds, q_box, q_other]) (hb : ∀ j, j < 16 → b j = byW h l j) (hK : ∀ j, j < 176 → rk j = kb ks j) : Ct Y mX8_ciphers 1 0 0 [.ref o0] w (fun v w' => v = none ∧ ∃ (b' : Nat → Nat) (o' : Nat → Nat), (∀ j, j < 16 → b' j = byW (enc ks h l).1 (enc ks h l).2 j) ∧ w' = ovl w [(qm, (o0, cO 8 (mo A th su (nI sz) (bl + 1) (nI ci) (nI ma) pa en wr))), (q_block, (A 4, cI Y 16 (iF b'))), (q_rounds, (A 3, cI Y 176 (iF rk))), (q_box, (A 2, cI Y 256 (iF sN))), (q_other, (A 5, cI Y 16 (iF o')))]) := by
  refine Ct.intro (T := tX8_ciphers) (by decide) oX8_ciphers (Nat.le_of_ble_eq_true rfl) (fun G C B => ?_)
  refine x_lay [(qm, (o0, cO 8 (mo A th su (nI sz) bl (nI ci) (nI ma) pa en wr))), (q_block, (A 4, cI Y 16 (iF b))), (q_rounds, (A 3, cI Y 176 (iF rk))), (q_box, (A 2, cI Y 256 (iF sN))), (q_other, (A 5, cI Y 16 (iF o)))] (lay_cons e0 (lay_cons e1 (lay_cons e2 (lay_cons e3 (lay_cons e4 lay_nil))))) ?_
  refine x_run C 0 2 (pc' := 2) (lv' := [(0, .ref o0)]) (st' := [.ref o0, .ref o0]) rfl ?_
  refine x_get C 2 rfl fX8_121 N 0 rfl (v := .int bl) rfl ?_
  refine x_run C 3 2 (pc' := 7) (lv' := [(0, .ref o0)]) (st' := [.int (bl + 1), .ref o0]) rfl ?_
  refine x_put C 5 rfl pX8_121 N 0 rfl rfl rfl (Nat.le_of_ble_eq_true rfl) (os' := [(qm, (o0, cO 8 (mo A th su (nI sz) (bl + 1) (nI ci) (nI ma) pa en wr))), (q_block, (A 4, cI Y 16 (iF b))), (q_rounds, (A 3, cI Y 176 (iF rk))), (q_box, (A 2, cI Y 256 (iF sN))), (q_other, (A 5, cI Y 16 (iF o)))]) rfl ?_
  refine x_run C 6 2 (pc' := 12) (lv' := [(1, .int 0), (0, .ref o0)]) (st' := []) rfl ?_
  have L12 : ∀ i : Nat, 0 ≤ i → i ≤ 16 → X G Y 0 0 12 [(0, .ref o0), (1, .int (nI i))] [] (ovl w [(qm, (o0, cO 8 (mo A th su (nI sz) (bl + 1) (nI ci) (nI ma) pa en wr))), (q_block, (A 4, cI Y 16 (iF (filN b 0 i (fun j => b j ^^^ rk j))))), (q_rounds, (A 3, cI Y 176 (iF rk))), (q_box, (A 2, cI Y 256 (iF sN))), (q_other, (A 5, cI Y 16 (iF o)))]) := by
    intro i lo12 hi12
    revert lo12
    refine x_up (fun i => 0 ≤ i → X G Y 0 0 12 [(0, .ref o0), (1, .int (nI i))] [] (ovl w [(qm, (o0, cO 8 (mo A th su (nI sz) (bl + 1) (nI ci) (nI ma) pa en wr))), (q_block, (A 4, cI Y 16 (iF (filN b 0 i (fun j => b j ^^^ rk j))))), (q_rounds, (A 3, cI Y 176 (iF rk))), (q_box, (A 2, cI Y 256 (iF sN))), (q_other, (A 5, cI Y 16 (iF o)))])) 16 ?_ ?_ i hi12
    · intro lo12
      refine x_run C 8 2 (pc' := 15) (lv' := [(0, .ref o0), (1, .int (nI 16))]) (st' := [.int 16, .int (nI 16)]) rfl ?_
      refine x_st (st' := [.int (nI 16), .int (nI 16)]) (by simp only [nlit, nI_add, pk_mul]) ?_
      refine x_icmpN_ge C 10 (by omega) (by omega) rfl (tgt := 39) rfl (fun hc1 => ?_) (fun hc1 => ?_)
      · refine x_run C 24 2 (pc' := 41) (lv' := [(1, .int 1), (0, .ref o0)]) (st' := []) rfl ?_
        have L41 : ∀ m : Nat, 0 ≤ m → m ≤ 10 → ∀ b1 : Nat → Nat, ∀ o1 : Nat → Nat, (∀ j, j < 16 → b1 j = stB (aesS ks h l m) j) → X G Y 0 0 41 [(0, .ref o0), (1, .int (nI (1 + m)))] [] (ovl w [(qm, (o0, cO 8 (mo A th su (nI sz) (bl + 1) (nI ci) (nI ma) pa en wr))), (q_block, (A 4, cI Y 16 (iF b1))), (q_rounds, (A 3, cI Y 176 (iF rk))), (q_box, (A 2, cI Y 256 (iF sN))), (q_other, (A 5, cI Y 16 (iF o1)))]) := by
          intro m lo41 hi41
          revert lo41
          refine x_up (fun m => 0 ≤ m → ∀ b1 : Nat → Nat, ∀ o1 : Nat → Nat, (∀ j, j < 16 → b1 j = stB (aesS ks h l m) j) → X G Y 0 0 41 [(0, .ref o0), (1, .int (nI (1 + m)))] [] (ovl w [(qm, (o0, cO 8 (mo A th su (nI sz) (bl + 1) (nI ci) (nI ma) pa en wr))), (q_block, (A 4, cI Y 16 (iF b1))), (q_rounds, (A 3, cI Y 176 (iF rk))), (q_box, (A 2, cI Y 256 (iF sN))), (q_other, (A 5, cI Y 16 (iF o1)))])) 10 ?_ ?_ m hi41
          · intro lo41 b1 o1 iv41
            refine x_run C 26 2 (pc' := 44) (lv' := [(0, .ref o0), (1, .int (nI (1 + 10)))]) (st' := [.int 11, .int (nI (1 + 10))]) rfl ?_
            refine x_st (st' := [.int (nI 11), .int (nI (1 + 10))]) (by simp only [nlit, nI_add, pk_mul]) ?_
            refine x_icmpN_ge C 28 (by omega) (by omega) rfl (tgt := 235) rfl (fun hc2 => ?_) (fun hc2 => ?_)
            · exact x_vret C B rfl 153 rfl (Nat.zero_le _) (Nat.zero_le _) ⟨rfl, _, _, aes_end iv41, rfl⟩
            · exact absurd hc2 (by omega)
          · intro m hi41 ih41 lo41 b1 o1 iv41
            refine x_run C 26 2 (pc' := 44) (lv' := [(0, .ref o0), (1, .int (nI (1 + m)))]) (st' := [.int 11, .int (nI (1 + m))]) rfl ?_
            refine x_st (st' := [.int (nI 11), .int (nI (1 + m))]) (by simp only [nlit, nI_add, pk_mul]) ?_
            refine x_icmpN_ge C 28 (by omega) (by omega) rfl (tgt := 235) rfl (fun hc3 => ?_) (fun hc3 => ?_)
            · exact absurd hc3 (by omega)
            · refine x_run C 29 2 (pc' := 49) (lv' := [(2, .int 0), (0, .ref o0), (1, .int (nI (1 + m)))]) (st' := []) rfl ?_
              have L49 : ∀ c : Nat, 0 ≤ c → c ≤ 4 → ∀ o2 : Nat → Nat, (∀ j, j < 4 * c → o2 j = sr b1 j) → X G Y 0 0 49 [(0, .ref o0), (1, .int (nI (1 + m))), (2, .int (nI c))] [] (ovl w [(qm, (o0, cO 8 (mo A th su (nI sz) (bl + 1) (nI ci) (nI ma) pa en wr))), (q_block, (A 4, cI Y 16 (iF b1))), (q_rounds, (A 3, cI Y 176 (iF rk))), (q_box, (A 2, cI Y 256 (iF sN))), (q_other, (A 5, cI Y 16 (iF o2)))]) := by
                intro c lo49 hi49
                revert lo49
                refine x_up (fun c => 0 ≤ c → ∀ o2 : Nat → Nat, (∀ j, j < 4 * c → o2 j = sr b1 j) → X G Y 0 0 49 [(0, .ref o0), (1, .int (nI (1 + m))), (2, .int (nI c))] [] (ovl w [(qm, (o0, cO 8 (mo A th su (nI sz) (bl + 1) (nI ci) (nI ma) pa en wr))), (q_block, (A 4, cI Y 16 (iF b1))), (q_rounds, (A 3, cI Y 176 (iF rk))), (q_box, (A 2, cI Y 256 (iF sN))), (q_other, (A 5, cI Y 16 (iF o2)))])) 4 ?_ ?_ c hi49
                · intro lo49 o2 iv49
                  refine x_run C 31 2 (pc' := 51) (lv' := [(0, .ref o0), (1, .int (nI (1 + m))), (2, .int (nI 4))]) (st' := [.int 4, .int (nI 4)]) rfl ?_
                  refine x_st (st' := [.int (nI 4), .int (nI 4)]) (by simp only [nlit, nI_add, pk_mul]) ?_
                  refine x_icmpN_ge C 33 (by omega) (by omega) rfl (tgt := 102) rfl (fun hc4 => ?_) (fun hc4 => ?_)
                  · refine x_run C 66 2 (pc' := 104) (lv' := [(2, .int 0), (0, .ref o0), (1, .int (nI (1 + m)))]) (st' := []) rfl ?_
                    have hO : ∀ j, j < 16 → o2 j = sr (stB (aesS ks h l m)) j := fun j hj => (iv49 j (by omega)).trans (sr_c iv41 j hj)
                    have L104 : ∀ d : Nat, 0 ≤ d → d ≤ 4 → ∀ b3 : Nat → Nat, (∀ j, j < 4 * d → b3 j = stB (aesS ks h l (m + 1)) j) → X G Y 0 0 104 [(0, .ref o0), (1, .int (nI (1 + m))), (2, .int (nI (4 * d)))] [] (ovl w [(qm, (o0, cO 8 (mo A th su (nI sz) (bl + 1) (nI ci) (nI ma) pa en wr))), (q_block, (A 4, cI Y 16 (iF b3))), (q_rounds, (A 3, cI Y 176 (iF rk))), (q_box, (A 2, cI Y 256 (iF sN))), (q_other, (A 5, cI Y 16 (iF o2)))]) := by
                      intro d lo104 hi104
                      revert lo104
                      refine x_up (fun d => 0 ≤ d → ∀ b3 : Nat → Nat, (∀ j, j < 4 * d → b3 j = stB (aesS ks h l (m + 1)) j) → X G Y 0 0 104 [(0, .ref o0), (1, .int (nI (1 + m))), (2, .int (nI (4 * d)))] [] (ovl w [(qm, (o0, cO 8 (mo A th su (nI sz) (bl + 1) (nI ci) (nI ma) pa en wr))), (q_block, (A 4, cI Y 16 (iF b3))), (q_rounds, (A 3, cI Y 176 (iF rk))), (q_box, (A 2, cI Y 256 (iF sN))), (q_other, (A 5, cI Y 16 (iF o2)))])) 4 ?_ ?_ d hi104
                      · intro lo104 b3 iv104
                        refine x_run C 68 2 (pc' := 107) (lv' := [(0, .ref o0), (1, .int (nI (1 + m))), (2, .int (nI (4 * 4)))]) (st' := [.int 16, .int (nI (4 * 4))]) rfl ?_
                        refine x_st (st' := [.int (nI 16), .int (nI (4 * 4))]) (by simp only [nlit, nI_add, pk_mul]) ?_
                        refine x_icmpN_ge C 70 (by omega) (by omega) rfl (tgt := 229) rfl (fun hc5 => ?_) (fun hc5 => ?_)
                        · refine x_run C 151 2 (pc' := 41) (lv' := [(1, .int ((nI (1 + m)) + 1)), (0, .ref o0), (2, .int (nI (4 * 4)))]) (st' := []) rfl ?_
                          refine x_sub (lv' := [(0, .ref o0), (1, .int ((nI (1 + m)) + 1))]) [1, 0] rfl ?_
                          refine x_loc (lv' := [(0, .ref o0), (1, .int (nI (1 + (m + 1))))]) (by simp only [nlit, nI_add, Nat.add_assoc]) ?_
                          exact ih41 (by omega) _ _ (fun j hj => iv104 j (by omega))
                        · exact absurd hc5 (by omega)
                      · intro d hi104 ih104 lo104 b3 iv104
                        refine x_run C 68 2 (pc' := 107) (lv' := [(0, .ref o0), (1, .int (nI (1 + m))), (2, .int (nI (4 * d)))]) (st' := [.int 16, .int (nI (4 * d))]) rfl ?_
                        refine x_st (st' := [.int (nI 16), .int (nI (4 * d))]) (by simp only [nlit, nI_add, pk_mul]) ?_
                        refine x_icmpN_ge C 70 (by omega) (by omega) rfl (tgt := 229) rfl (fun hc6 => ?_) (fun hc6 => ?_)
                        · exact absurd hc6 (by omega)
                        · refine x_run C 71 2 (pc' := 112) (lv' := [(3, .int 0), (0, .ref o0), (1, .int (nI (1 + m))), (2, .int (nI (4 * d)))]) (st' := []) rfl ?_
                          have L112 : ∀ u : Nat, 0 ≤ u → u ≤ 4 → ∀ b4 : Nat → Nat, (∀ j, j < 4 * d + u → b4 j = stB (aesS ks h l (m + 1)) j) → X G Y 0 0 112 [(0, .ref o0), (1, .int (nI (1 + m))), (2, .int (nI (4 * d))), (3, .int (nI u))] [] (ovl w [(qm, (o0, cO 8 (mo A th su (nI sz) (bl + 1) (nI ci) (nI ma) pa en wr))), (q_block, (A 4, cI Y 16 (iF b4))), (q_rounds, (A 3, cI Y 176 (iF rk))), (q_box, (A 2, cI Y 256 (iF sN))), (q_other, (A 5, cI Y 16 (iF o2)))]) := by
                            intro u lo112 hi112
                            revert lo112
                            refine x_up (fun u => 0 ≤ u → ∀ b4 : Nat → Nat, (∀ j, j < 4 * d + u → b4 j = stB (aesS ks h l (m + 1)) j) → X G Y 0 0 112 [(0, .ref o0), (1, .int (nI (1 + m))), (2, .int (nI (4 * d))), (3, .int (nI u))] [] (ovl w [(qm, (o0, cO 8 (mo A th su (nI sz) (bl + 1) (nI ci) (nI ma) pa en wr))), (q_block, (A 4, cI Y 16 (iF b4))), (q_rounds, (A 3, cI Y 176 (iF rk))), (q_box, (A 2, cI Y 256 (iF sN))), (q_other, (A 5, cI Y 16 (iF o2)))])) 4 ?_ ?_ u hi112
                            · intro lo112 b4 iv112
                              refine x_run C 73 2 (pc' := 114) (lv' := [(0, .ref o0), (1, .int (nI (1 + m))), (2, .int (nI (4 * d))), (3, .int (nI 4))]) (st' := [.int 4, .int (nI 4)]) rfl ?_
                              refine x_st (st' := [.int (nI 4), .int (nI 4)]) (by simp only [nlit, nI_add, pk_mul]) ?_
                              refine x_icmpN_ge C 75 (by omega) (by omega) rfl (tgt := 223) rfl (fun hc7 => ?_) (fun hc7 => ?_)
                              · refine x_run C 149 2 (pc' := 104) (lv' := [(2, .int ((nI (4 * d)) + 4)), (0, .ref o0), (1, .int (nI (1 + m))), (3, .int (nI 4))]) (st' := []) rfl ?_
                                refine x_sub (lv' := [(0, .ref o0), (1, .int (nI (1 + m))), (2, .int ((nI (4 * d)) + 4))]) [1, 2, 0] rfl ?_
                                refine x_loc (lv' := [(0, .ref o0), (1, .int (nI (1 + m))), (2, .int (nI (4 * (d + 1))))]) (by simp only [nlit, nI_add, Nat.mul_add, Nat.mul_one]) ?_
                                exact ih104 (by omega) _ (fun j hj => iv112 j (by omega))
                              · exact absurd hc7 (by omega)
                            · intro u hi112 ih112 lo112 b4 iv112
                              refine x_run C 73 2 (pc' := 114) (lv' := [(0, .ref o0), (1, .int (nI (1 + m))), (2, .int (nI (4 * d))), (3, .int (nI u))]) (st' := [.int 4, .int (nI u)]) rfl ?_
                              refine x_st (st' := [.int (nI 4), .int (nI u)]) (by simp only [nlit, nI_add, pk_mul]) ?_
                              refine x_icmpN_ge C 75 (by omega) (by omega) rfl (tgt := 223) rfl (fun hc8 => ?_) (fun hc8 => ?_)
                              · exact absurd hc8 (by omega)
                              · refine x_run C 76 1 (pc' := 118) (lv' := [(0, .ref o0), (1, .int (nI (1 + m))), (2, .int (nI (4 * d))), (3, .int (nI u))]) (st' := [.ref o0]) rfl ?_
                                refine x_get C 77 rfl fX8_25 N 0 rfl (v := .ref (A 5)) rfl ?_
                                refine x_run C 78 3 (pc' := 124) (lv' := [(0, .ref o0), (1, .int (nI (1 + m))), (2, .int (nI (4 * d))), (3, .int (nI u))]) (st' := [.int ((nI (4 * d)) + (nI u)), .ref (A 5)]) rfl ?_
                                refine x_st (st' := [.int (nI ((4 * d) + u)), .ref (A 5)]) (by simp only [nlit, nI_add, pk_mul]) ?_
                                refine x_ialdN C 81 rfl N 4 rfl (by omega) (by omega) ?_
                                refine x_st (st' := [.int (nI (o2 ((4 * d) + u)))]) rfl ?_
                                refine x_run C 82 2 (pc' := 128) (lv' := [(4, .int (nI (o2 ((4 * d) + u)))), (0, .ref o0), (1, .int (nI (1 + m))), (2, .int (nI (4 * d))), (3, .int (nI u))]) (st' := [.ref o0]) rfl ?_
                                refine x_get C 84 rfl fX8_25 N 0 rfl (v := .ref (A 5)) rfl ?_
                                refine x_run C 85 7 (pc' := 138) (lv' := [(4, .int (nI (o2 ((4 * d) + u)))), (0, .ref o0), (1, .int (nI (1 + m))), (2, .int (nI (4 * d))), (3, .int (nI u))]) (st' := [.int ((nI (4 * d)) + (jrem ((nI u) + 1) 4)), .ref (A 5)]) rfl ?_
                                refine x_st (st' := [.int (nI ((4 * d) + ((u + 1) % 4))), .ref (A 5)]) (by simp only [nlit, nI_add, pk_mul, pk_rem (show (u + 1) < 2 ^ 31 by omega) (show 0 < 4 by decide) (show 4 < 2 ^ 31 by decide), jrem]) ?_
                                refine x_ialdN C 92 rfl N 4 rfl (by omega) (by omega) ?_
                                refine x_st (st' := [.int (nI (o2 ((4 * d) + ((u + 1) % 4))))]) rfl ?_
                                refine x_run C 93 3 (pc' := 144) (lv' := [(5, .int (nI (o2 ((4 * d) + ((u + 1) % 4))))), (4, .int (nI (o2 ((4 * d) + u)))), (0, .ref o0), (1, .int (nI (1 + m))), (2, .int (nI (4 * d))), (3, .int (nI u))]) (st' := [.int 2, .int (nI (o2 ((4 * d) + u)))]) rfl ?_
                                refine x_cs C 96 (As := [.int (nI (o2 ((4 * d) + u))), .int 2]) (rest := []) rfl vX8_110 N (c_X8_times2 Y _ (o2 ((4 * d) + u))    (by rw [hO _ (by omega)]; exact sN_lt _)) rfl rfl (Nat.le_of_ble_eq_true rfl) ⟨Nat.le_of_ble_eq_true rfl, Nat.le_of_ble_eq_true rfl⟩ ⟨Nat.zero_le _, Nat.zero_le _⟩ [] trivial (os' := [(qm, (o0, cO 8 (mo A th su (nI sz) (bl + 1) (nI ci) (nI ma) pa en wr))), (q_block, (A 4, cI Y 16 (iF b4))), (q_rounds, (A 3, cI Y 176 (iF rk))), (q_box, (A 2, cI Y 256 (iF sN))), (q_other, (A 5, cI Y 16 (iF o2)))]) rfl (st' := [.int (nI (x2 (o2 ((4 * d) + u))))]) rfl ?_
                                refine x_run C 97 2 (pc' := 150) (lv' := [(5, .int (nI (o2 ((4 * d) + ((u + 1) % 4))))), (4, .int (nI (o2 ((4 * d) + u)))), (0, .ref o0), (1, .int (nI (1 + m))), (2, .int (nI (4 * d))), (3, .int (nI u))]) (st' := [.int 3, .int (nI (o2 ((4 * d) + ((u + 1) % 4)))), .int (nI (x2 (o2 ((4 * d) + u))))]) rfl ?_
                                refine x_cs C 99 (As := [.int (nI (o2 ((4 * d) + ((u + 1) % 4)))), .int 3]) (rest := [.int (nI (x2 (o2 ((4 * d) + u))))]) rfl vX8_110 N (c_X8_times3 Y _ (o2 ((4 * d) + ((u + 1) % 4)))    (by rw [hO _ (by omega)]; exact sN_lt _)) rfl rfl (Nat.le_of_ble_eq_true rfl) ⟨Nat.le_of_ble_eq_true rfl, Nat.le_of_ble_eq_true rfl⟩ ⟨Nat.zero_le _, Nat.zero_le _⟩ [] trivial (os' := [(qm, (o0, cO 8 (mo A th su (nI sz) (bl + 1) (nI ci) (nI ma) pa en wr))), (q_block, (A 4, cI Y 16 (iF b4))), (q_rounds, (A 3, cI Y 176 (iF rk))), (q_box, (A 2, cI Y 256 (iF sN))), (q_other, (A 5, cI Y 16 (iF o2)))]) rfl (st' := [.int (nI (x3 (o2 ((4 * d) + ((u + 1) % 4))))), .int (nI (x2 (o2 ((4 * d) + u))))]) rfl ?_
                                refine x_run C 100 2 (pc' := 155) (lv' := [(5, .int (nI (o2 ((4 * d) + ((u + 1) % 4))))), (4, .int (nI (o2 ((4 * d) + u)))), (0, .ref o0), (1, .int (nI (1 + m))), (2, .int (nI (4 * d))), (3, .int (nI u))]) (st' := [.ref o0, .int ((nI (x2 (o2 ((4 * d) + u)))) ^^^ (nI (x3 (o2 ((4 * d) + ((u + 1) % 4))))))]) rfl ?_
                                refine x_get C 102 rfl fX8_25 N 0 rfl (v := .ref (A 5)) rfl ?_
                                refine x_run C 103 7 (pc' := 165) (lv' := [(5, .int (nI (o2 ((4 * d) + ((u + 1) % 4))))), (4, .int (nI (o2 ((4 * d) + u)))), (0, .ref o0), (1, .int (nI (1 + m))), (2, .int (nI (4 * d))), (3, .int (nI u))]) (st' := [.int ((nI (4 * d)) + (jrem ((nI u) + 2) 4)), .ref (A 5), .int ((nI (x2 (o2 ((4 * d) + u)))) ^^^ (nI (x3 (o2 ((4 * d) + ((u + 1) % 4))))))]) rfl ?_
                                refine x_st (st' := [.int (nI ((4 * d) + ((u + 2) % 4))), .ref (A 5), .int ((nI (x2 (o2 ((4 * d) + u)))) ^^^ (nI (x3 (o2 ((4 * d) + ((u + 1) % 4))))))]) (by simp only [nlit, nI_add, pk_mul, pk_rem (show (u + 2) < 2 ^ 31 by omega) (show 0 < 4 by decide) (show 4 < 2 ^ 31 by decide), jrem]) ?_
                                refine x_ialdN C 110 rfl N 4 rfl (by omega) (by omega) ?_
                                refine x_st (st' := [.int (nI (o2 ((4 * d) + ((u + 2) % 4)))), .int ((nI (x2 (o2 ((4 * d) + u)))) ^^^ (nI (x3 (o2 ((4 * d) + ((u + 1) % 4))))))]) rfl ?_
                                refine x_run C 111 2 (pc' := 168) (lv' := [(5, .int (nI (o2 ((4 * d) + ((u + 1) % 4))))), (4, .int (nI (o2 ((4 * d) + u)))), (0, .ref o0), (1, .int (nI (1 + m))), (2, .int (nI (4 * d))), (3, .int (nI u))]) (st' := [.ref o0, .int (((nI (x2 (o2 ((4 * d) + u)))) ^^^ (nI (x3 (o2 ((4 * d) + ((u + 1) % 4)))))) ^^^ (nI (o2 ((4 * d) + ((u + 2) % 4)))))]) rfl ?_
                                refine x_get C 113 rfl fX8_25 N 0 rfl (v := .ref (A 5)) rfl ?_
                                refine x_run C 114 7 (pc' := 178) (lv' := [(5, .int (nI (o2 ((4 * d) + ((u + 1) % 4))))), (4, .int (nI (o2 ((4 * d) + u)))), (0, .ref o0), (1, .int (nI (1 + m))), (2, .int (nI (4 * d))), (3, .int (nI u))]) (st' := [.int ((nI (4 * d)) + (jrem ((nI u) + 3) 4)), .ref (A 5), .int (((nI (x2 (o2 ((4 * d) + u)))) ^^^ (nI (x3 (o2 ((4 * d) + ((u + 1) % 4)))))) ^^^ (nI (o2 ((4 * d) + ((u + 2) % 4)))))]) rfl ?_
                                refine x_st (st' := [.int (nI ((4 * d) + ((u + 3) % 4))), .ref (A 5), .int (((nI (x2 (o2 ((4 * d) + u)))) ^^^ (nI (x3 (o2 ((4 * d) + ((u + 1) % 4)))))) ^^^ (nI (o2 ((4 * d) + ((u + 2) % 4)))))]) (by simp only [nlit, nI_add, pk_mul, pk_rem (show (u + 3) < 2 ^ 31 by omega) (show 0 < 4 by decide) (show 4 < 2 ^ 31 by decide), jrem]) ?_
                                refine x_ialdN C 121 rfl N 4 rfl (by omega) (by omega) ?_
                                refine x_st (st' := [.int (nI (o2 ((4 * d) + ((u + 3) % 4)))), .int (((nI (x2 (o2 ((4 * d) + u)))) ^^^ (nI (x3 (o2 ((4 * d) + ((u + 1) % 4)))))) ^^^ (nI (o2 ((4 * d) + ((u + 2) % 4)))))]) rfl ?_
                                refine x_run C 122 3 (pc' := 183) (lv' := [(6, .int ((((nI (x2 (o2 ((4 * d) + u)))) ^^^ (nI (x3 (o2 ((4 * d) + ((u + 1) % 4)))))) ^^^ (nI (o2 ((4 * d) + ((u + 2) % 4))))) ^^^ (nI (o2 ((4 * d) + ((u + 3) % 4)))))), (5, .int (nI (o2 ((4 * d) + ((u + 1) % 4))))), (4, .int (nI (o2 ((4 * d) + u)))), (0, .ref o0), (1, .int (nI (1 + m))), (2, .int (nI (4 * d))), (3, .int (nI u))]) (st' := [.ref o0]) rfl ?_
                                refine x_get C 125 rfl fX8_22 N 0 rfl (v := .ref (A 4)) rfl ?_
                                refine x_run C 126 5 (pc' := 192) (lv' := [(6, .int ((((nI (x2 (o2 ((4 * d) + u)))) ^^^ (nI (x3 (o2 ((4 * d) + ((u + 1) % 4)))))) ^^^ (nI (o2 ((4 * d) + ((u + 2) % 4))))) ^^^ (nI (o2 ((4 * d) + ((u + 3) % 4)))))), (5, .int (nI (o2 ((4 * d) + ((u + 1) % 4))))), (4, .int (nI (o2 ((4 * d) + u)))), (0, .ref o0), (1, .int (nI (1 + m))), (2, .int (nI (4 * d))), (3, .int (nI u))]) (st' := [.int 10, .int (nI (1 + m)), .int ((nI (4 * d)) + (nI u)), .ref (A 4)]) rfl ?_
                                refine x_st (st' := [.int (nI 10), .int (nI (1 + m)), .int ((nI (4 * d)) + (nI u)), .ref (A 4)]) (by simp only [nlit, nI_add, pk_mul]) ?_
                                refine x_icmpN_ge C 131 (by omega) (by omega) rfl (tgt := 200) rfl (fun hc9 => ?_) (fun hc9 => ?_)
                                · refine x_run C 134 2 (pc' := 203) (lv' := [(6, .int ((((nI (x2 (o2 ((4 * d) + u)))) ^^^ (nI (x3 (o2 ((4 * d) + ((u + 1) % 4)))))) ^^^ (nI (o2 ((4 * d) + ((u + 2) % 4))))) ^^^ (nI (o2 ((4 * d) + ((u + 3) % 4)))))), (5, .int (nI (o2 ((4 * d) + ((u + 1) % 4))))), (4, .int (nI (o2 ((4 * d) + u)))), (0, .ref o0), (1, .int (nI (1 + m))), (2, .int (nI (4 * d))), (3, .int (nI u))]) (st' := [.ref o0, .int (nI (o2 ((4 * d) + u))), .int ((nI (4 * d)) + (nI u)), .ref (A 4)]) rfl ?_
                                  refine x_get C 136 rfl fX8_19 N 0 rfl (v := .ref (A 3)) rfl ?_
                                  refine x_run C 137 7 (pc' := 214) (lv' := [(6, .int ((((nI (x2 (o2 ((4 * d) + u)))) ^^^ (nI (x3 (o2 ((4 * d) + ((u + 1) % 4)))))) ^^^ (nI (o2 ((4 * d) + ((u + 2) % 4))))) ^^^ (nI (o2 ((4 * d) + ((u + 3) % 4)))))), (5, .int (nI (o2 ((4 * d) + ((u + 1) % 4))))), (4, .int (nI (o2 ((4 * d) + u)))), (0, .ref o0), (1, .int (nI (1 + m))), (2, .int (nI (4 * d))), (3, .int (nI u))]) (st' := [.int (((16 * (nI (1 + m))) + (nI (4 * d))) + (nI u)), .ref (A 3), .int (nI (o2 ((4 * d) + u))), .int ((nI (4 * d)) + (nI u)), .ref (A 4)]) rfl ?_
                                  refine x_st (st' := [.int (nI (((16 * (1 + m)) + (4 * d)) + u)), .ref (A 3), .int (nI (o2 ((4 * d) + u))), .int ((nI (4 * d)) + (nI u)), .ref (A 4)]) (by simp only [nlit, nI_add, pk_mul]) ?_
                                  refine x_ialdN C 144 rfl N 2 rfl (by omega) (by omega) ?_
                                  refine x_st (st' := [.int (nI (rk (((16 * (1 + m)) + (4 * d)) + u))), .int (nI (o2 ((4 * d) + u))), .int ((nI (4 * d)) + (nI u)), .ref (A 4)]) rfl ?_
                                  refine x_run C 145 1 (pc' := 216) (lv' := [(6, .int ((((nI (x2 (o2 ((4 * d) + u)))) ^^^ (nI (x3 (o2 ((4 * d) + ((u + 1) % 4)))))) ^^^ (nI (o2 ((4 * d) + ((u + 2) % 4))))) ^^^ (nI (o2 ((4 * d) + ((u + 3) % 4)))))), (5, .int (nI (o2 ((4 * d) + ((u + 1) % 4))))), (4, .int (nI (o2 ((4 * d) + u)))), (0, .ref o0), (1, .int (nI (1 + m))), (2, .int (nI (4 * d))), (3, .int (nI u))]) (st' := [.int ((nI (o2 ((4 * d) + u))) ^^^ (nI (rk (((16 * (1 + m)) + (4 * d)) + u)))), .int ((nI (4 * d)) + (nI u)), .ref (A 4)]) rfl ?_
                                  refine x_st (st' := [.int ((nI (o2 ((4 * d) + u))) ^^^ (nI (rk (((16 * (1 + m)) + (4 * d)) + u)))), .int (nI ((4 * d) + u)), .ref (A 4)]) (by simp only [nlit, nI_add, pk_mul]) ?_
                                  refine x_st (st' := [.int (nI ((o2 ((4 * d) + u)) ^^^ (rk (((16 * (1 + m)) + (4 * d)) + u)))), .int (nI ((4 * d) + u)), .ref (A 4)]) (by simp only [nlit, nI_add, pk_mul, nx_xor]) ?_
                                  refine x_iastN C 146 rfl N 1 rfl (by omega) (by omega) (os' := [(qm, (o0, cO 8 (mo A th su (nI sz) (bl + 1) (nI ci) (nI ma) pa en wr))), (q_block, (A 4, cI Y 16 (upd (iF b4) ((4 * d) + u) (nI ((o2 ((4 * d) + u)) ^^^ (rk (((16 * (1 + m)) + (4 * d)) + u))))))), (q_rounds, (A 3, cI Y 176 (iF rk))), (q_box, (A 2, cI Y 256 (iF sN))), (q_other, (A 5, cI Y 16 (iF o2)))]) rfl ?_
                                  refine x_ov (os' := [(qm, (o0, cO 8 (mo A th su (nI sz) (bl + 1) (nI ci) (nI ma) pa en wr))), (q_block, (A 4, cI Y 16 (iF (updN b4 ((4 * d) + u) ((o2 ((4 * d) + u)) ^^^ (rk (((16 * (1 + m)) + (4 * d)) + u))))))), (q_rounds, (A 3, cI Y 176 (iF rk))), (q_box, (A 2, cI Y 256 (iF sN))), (q_other, (A 5, cI Y 16 (iF o2)))]) (by rw [upd_iF]) ?_
                                  refine x_run C 147 2 (pc' := 112) (lv' := [(3, .int ((nI u) + 1)), (6, .int ((((nI (x2 (o2 ((4 * d) + u)))) ^^^ (nI (x3 (o2 ((4 * d) + ((u + 1) % 4)))))) ^^^ (nI (o2 ((4 * d) + ((u + 2) % 4))))) ^^^ (nI (o2 ((4 * d) + ((u + 3) % 4)))))), (5, .int (nI (o2 ((4 * d) + ((u + 1) % 4))))), (4, .int (nI (o2 ((4 * d) + u)))), (0, .ref o0), (1, .int (nI (1 + m))), (2, .int (nI (4 * d)))]) (st' := []) rfl ?_
                                  refine x_sub (lv' := [(0, .ref o0), (1, .int (nI (1 + m))), (2, .int (nI (4 * d))), (3, .int ((nI u) + 1))]) [4, 5, 6, 0] rfl ?_
                                  refine x_loc (lv' := [(0, .ref o0), (1, .int (nI (1 + m))), (2, .int (nI (4 * d))), (3, .int (nI (u + 1)))]) (by simp only [nlit, nI_add, pk_mul]) ?_
                                  exact ih112 (by omega) _ (inv_B iv112 (by first | exact round_1 (by omega) hO hK (by omega) (by omega) (by omega) | exact round_2 (by omega) hO hK (by omega) (by omega) (by omega)))
                                · refine x_run C 132 2 (pc' := 202) (lv' := [(6, .int ((((nI (x2 (o2 ((4 * d) + u)))) ^^^ (nI (x3 (o2 ((4 * d) + ((u + 1) % 4)))))) ^^^ (nI (o2 ((4 * d) + ((u + 2) % 4))))) ^^^ (nI (o2 ((4 * d) + ((u + 3) % 4)))))), (5, .int (nI (o2 ((4 * d) + ((u + 1) % 4))))), (4, .int (nI (o2 ((4 * d) + u)))), (0, .ref o0), (1, .int (nI (1 + m))), (2, .int (nI (4 * d))), (3, .int (nI u))]) (st' := [.int ((((nI (x2 (o2 ((4 * d) + u)))) ^^^ (nI (x3 (o2 ((4 * d) + ((u + 1) % 4)))))) ^^^ (nI (o2 ((4 * d) + ((u + 2) % 4))))) ^^^ (nI (o2 ((4 * d) + ((u + 3) % 4))))), .int ((nI (4 * d)) + (nI u)), .ref (A 4)]) rfl ?_
                                  refine x_run C 135 1 (pc' := 203) (lv' := [(6, .int ((((nI (x2 (o2 ((4 * d) + u)))) ^^^ (nI (x3 (o2 ((4 * d) + ((u + 1) % 4)))))) ^^^ (nI (o2 ((4 * d) + ((u + 2) % 4))))) ^^^ (nI (o2 ((4 * d) + ((u + 3) % 4)))))), (5, .int (nI (o2 ((4 * d) + ((u + 1) % 4))))), (4, .int (nI (o2 ((4 * d) + u)))), (0, .ref o0), (1, .int (nI (1 + m))), (2, .int (nI (4 * d))), (3, .int (nI u))]) (st' := [.ref o0, .int ((((nI (x2 (o2 ((4 * d) + u)))) ^^^ (nI (x3 (o2 ((4 * d) + ((u + 1) % 4)))))) ^^^ (nI (o2 ((4 * d) + ((u + 2) % 4))))) ^^^ (nI (o2 ((4 * d) + ((u + 3) % 4))))), .int ((nI (4 * d)) + (nI u)), .ref (A 4)]) rfl ?_
                                  refine x_get C 136 rfl fX8_19 N 0 rfl (v := .ref (A 3)) rfl ?_
                                  refine x_run C 137 7 (pc' := 214) (lv' := [(6, .int ((((nI (x2 (o2 ((4 * d) + u)))) ^^^ (nI (x3 (o2 ((4 * d) + ((u + 1) % 4)))))) ^^^ (nI (o2 ((4 * d) + ((u + 2) % 4))))) ^^^ (nI (o2 ((4 * d) + ((u + 3) % 4)))))), (5, .int (nI (o2 ((4 * d) + ((u + 1) % 4))))), (4, .int (nI (o2 ((4 * d) + u)))), (0, .ref o0), (1, .int (nI (1 + m))), (2, .int (nI (4 * d))), (3, .int (nI u))]) (st' := [.int (((16 * (nI (1 + m))) + (nI (4 * d))) + (nI u)), .ref (A 3), .int ((((nI (x2 (o2 ((4 * d) + u)))) ^^^ (nI (x3 (o2 ((4 * d) + ((u + 1) % 4)))))) ^^^ (nI (o2 ((4 * d) + ((u + 2) % 4))))) ^^^ (nI (o2 ((4 * d) + ((u + 3) % 4))))), .int ((nI (4 * d)) + (nI u)), .ref (A 4)]) rfl ?_
                                  refine x_st (st' := [.int (nI (((16 * (1 + m)) + (4 * d)) + u)), .ref (A 3), .int ((((nI (x2 (o2 ((4 * d) + u)))) ^^^ (nI (x3 (o2 ((4 * d) + ((u + 1) % 4)))))) ^^^ (nI (o2 ((4 * d) + ((u + 2) % 4))))) ^^^ (nI (o2 ((4 * d) + ((u + 3) % 4))))), .int ((nI (4 * d)) + (nI u)), .ref (A 4)]) (by simp only [nlit, nI_add, pk_mul]) ?_
                                  refine x_ialdN C 144 rfl N 2 rfl (by omega) (by omega) ?_
                                  refine x_st (st' := [.int (nI (rk (((16 * (1 + m)) + (4 * d)) + u))), .int ((((nI (x2 (o2 ((4 * d) + u)))) ^^^ (nI (x3 (o2 ((4 * d) + ((u + 1) % 4)))))) ^^^ (nI (o2 ((4 * d) + ((u + 2) % 4))))) ^^^ (nI (o2 ((4 * d) + ((u + 3) % 4))))), .int ((nI (4 * d)) + (nI u)), .ref (A 4)]) rfl ?_
                                  refine x_run C 145 1 (pc' := 216) (lv' := [(6, .int ((((nI (x2 (o2 ((4 * d) + u)))) ^^^ (nI (x3 (o2 ((4 * d) + ((u + 1) % 4)))))) ^^^ (nI (o2 ((4 * d) + ((u + 2) % 4))))) ^^^ (nI (o2 ((4 * d) + ((u + 3) % 4)))))), (5, .int (nI (o2 ((4 * d) + ((u + 1) % 4))))), (4, .int (nI (o2 ((4 * d) + u)))), (0, .ref o0), (1, .int (nI (1 + m))), (2, .int (nI (4 * d))), (3, .int (nI u))]) (st' := [.int (((((nI (x2 (o2 ((4 * d) + u)))) ^^^ (nI (x3 (o2 ((4 * d) + ((u + 1) % 4)))))) ^^^ (nI (o2 ((4 * d) + ((u + 2) % 4))))) ^^^ (nI (o2 ((4 * d) + ((u + 3) % 4))))) ^^^ (nI (rk (((16 * (1 + m)) + (4 * d)) + u)))), .int ((nI (4 * d)) + (nI u)), .ref (A 4)]) rfl ?_
                                  refine x_st (st' := [.int (((((nI (x2 (o2 ((4 * d) + u)))) ^^^ (nI (x3 (o2 ((4 * d) + ((u + 1) % 4)))))) ^^^ (nI (o2 ((4 * d) + ((u + 2) % 4))))) ^^^ (nI (o2 ((4 * d) + ((u + 3) % 4))))) ^^^ (nI (rk (((16 * (1 + m)) + (4 * d)) + u)))), .int (nI ((4 * d) + u)), .ref (A 4)]) (by simp only [nlit, nI_add, pk_mul]) ?_
                                  refine x_st (st' := [.int (nI (((((x2 (o2 ((4 * d) + u))) ^^^ (x3 (o2 ((4 * d) + ((u + 1) % 4))))) ^^^ (o2 ((4 * d) + ((u + 2) % 4)))) ^^^ (o2 ((4 * d) + ((u + 3) % 4)))) ^^^ (rk (((16 * (1 + m)) + (4 * d)) + u)))), .int (nI ((4 * d) + u)), .ref (A 4)]) (by simp only [nlit, nI_add, pk_mul, nx_xor, nx_xor, nx_xor, nx_xor]) ?_
                                  refine x_iastN C 146 rfl N 1 rfl (by omega) (by omega) (os' := [(qm, (o0, cO 8 (mo A th su (nI sz) (bl + 1) (nI ci) (nI ma) pa en wr))), (q_block, (A 4, cI Y 16 (upd (iF b4) ((4 * d) + u) (nI (((((x2 (o2 ((4 * d) + u))) ^^^ (x3 (o2 ((4 * d) + ((u + 1) % 4))))) ^^^ (o2 ((4 * d) + ((u + 2) % 4)))) ^^^ (o2 ((4 * d) + ((u + 3) % 4)))) ^^^ (rk (((16 * (1 + m)) + (4 * d)) + u))))))), (q_rounds, (A 3, cI Y 176 (iF rk))), (q_box, (A 2, cI Y 256 (iF sN))), (q_other, (A 5, cI Y 16 (iF o2)))]) rfl ?_
                                  refine x_ov (os' := [(qm, (o0, cO 8 (mo A th su (nI sz) (bl + 1) (nI ci) (nI ma) pa en wr))), (q_block, (A 4, cI Y 16 (iF (updN b4 ((4 * d) + u) (((((x2 (o2 ((4 * d) + u))) ^^^ (x3 (o2 ((4 * d) + ((u + 1) % 4))))) ^^^ (o2 ((4 * d) + ((u + 2) % 4)))) ^^^ (o2 ((4 * d) + ((u + 3) % 4)))) ^^^ (rk (((16 * (1 + m)) + (4 * d)) + u))))))), (q_rounds, (A 3, cI Y 176 (iF rk))), (q_box, (A 2, cI Y 256 (iF sN))), (q_other, (A 5, cI Y 16 (iF o2)))]) (by rw [upd_iF]) ?_
                                  refine x_run C 147 2 (pc' := 112) (lv' := [(3, .int ((nI u) + 1)), (6, .int ((((nI (x2 (o2 ((4 * d) + u)))) ^^^ (nI (x3 (o2 ((4 * d) + ((u + 1) % 4)))))) ^^^ (nI (o2 ((4 * d) + ((u + 2) % 4))))) ^^^ (nI (o2 ((4 * d) + ((u + 3) % 4)))))), (5, .int (nI (o2 ((4 * d) + ((u + 1) % 4))))), (4, .int (nI (o2 ((4 * d) + u)))), (0, .ref o0), (1, .int (nI (1 + m))), (2, .int (nI (4 * d)))]) (st' := []) rfl ?_
                                  refine x_sub (lv' := [(0, .ref o0), (1, .int (nI (1 + m))), (2, .int (nI (4 * d))), (3, .int ((nI u) + 1))]) [4, 5, 6, 0] rfl ?_
                                  refine x_loc (lv' := [(0, .ref o0), (1, .int (nI (1 + m))), (2, .int (nI (4 * d))), (3, .int (nI (u + 1)))]) (by simp only [nlit, nI_add, pk_mul]) ?_
                                  exact ih112 (by omega) _ (inv_B iv112 (by first | exact round_1 (by omega) hO hK (by omega) (by omega) (by omega) | exact round_2 (by omega) hO hK (by omega) (by omega) (by omega)))
                          refine x_sub (lv' := [(0, .ref o0), (1, .int (nI (1 + m))), (2, .int (nI (4 * d))), (3, .int 0)]) [1, 2, 3, 0] rfl ?_
                          refine x_loc (lv' := [(0, .ref o0), (1, .int (nI (1 + m))), (2, .int (nI (4 * d))), (3, .int (nI 0))]) (by simp only [nlit, nI_add, pk_mul]) ?_
                          exact L112 0 (Nat.le_refl _) (by omega) _ (fun j hj => iv104 j (by omega))
                    refine x_sub (lv' := [(0, .ref o0), (1, .int (nI (1 + m))), (2, .int 0)]) [1, 2, 0] rfl ?_
                    refine x_loc (lv' := [(0, .ref o0), (1, .int (nI (1 + m))), (2, .int (nI (4 * 0)))]) (by rfl) ?_
                    exact L104 0 (Nat.le_refl _) (by omega) _ (fun j h => absurd h (by omega))
                  · exact absurd hc4 (by omega)
                · intro c hi49 ih49 lo49 o2 iv49
                  refine x_run C 31 2 (pc' := 51) (lv' := [(0, .ref o0), (1, .int (nI (1 + m))), (2, .int (nI c))]) (st' := [.int 4, .int (nI c)]) rfl ?_
                  refine x_st (st' := [.int (nI 4), .int (nI c)]) (by simp only [nlit, nI_add, pk_mul]) ?_
                  refine x_icmpN_ge C 33 (by omega) (by omega) rfl (tgt := 102) rfl (fun hc10 => ?_) (fun hc10 => ?_)
                  · exact absurd hc10 (by omega)
                  · refine x_run C 34 2 (pc' := 56) (lv' := [(3, .int 0), (0, .ref o0), (1, .int (nI (1 + m))), (2, .int (nI c))]) (st' := []) rfl ?_
                    have L56 : ∀ q : Nat, 0 ≤ q → q ≤ 4 → ∀ o3 : Nat → Nat, (∀ j, j < 4 * c + q → o3 j = sr b1 j) → X G Y 0 0 56 [(0, .ref o0), (1, .int (nI (1 + m))), (2, .int (nI c)), (3, .int (nI q))] [] (ovl w [(qm, (o0, cO 8 (mo A th su (nI sz) (bl + 1) (nI ci) (nI ma) pa en wr))), (q_block, (A 4, cI Y 16 (iF b1))), (q_rounds, (A 3, cI Y 176 (iF rk))), (q_box, (A 2, cI Y 256 (iF sN))), (q_other, (A 5, cI Y 16 (iF o3)))]) := by
                      intro q lo56 hi56
                      revert lo56
                      refine x_up (fun q => 0 ≤ q → ∀ o3 : Nat → Nat, (∀ j, j < 4 * c + q → o3 j = sr b1 j) → X G Y 0 0 56 [(0, .ref o0), (1, .int (nI (1 + m))), (2, .int (nI c)), (3, .int (nI q))] [] (ovl w [(qm, (o0, cO 8 (mo A th su (nI sz) (bl + 1) (nI ci) (nI ma) pa en wr))), (q_block, (A 4, cI Y 16 (iF b1))), (q_rounds, (A 3, cI Y 176 (iF rk))), (q_box, (A 2, cI Y 256 (iF sN))), (q_other, (A 5, cI Y 16 (iF o3)))])) 4 ?_ ?_ q hi56
                      · intro lo56 o3 iv56
                        refine x_run C 36 2 (pc' := 58) (lv' := [(0, .ref o0), (1, .int (nI (1 + m))), (2, .int (nI c)), (3, .int (nI 4))]) (st' := [.int 4, .int (nI 4)]) rfl ?_
                        refine x_st (st' := [.int (nI 4), .int (nI 4)]) (by simp only [nlit, nI_add, pk_mul]) ?_
                        refine x_icmpN_ge C 38 (by omega) (by omega) rfl (tgt := 96) rfl (fun hc11 => ?_) (fun hc11 => ?_)
                        · refine x_run C 64 2 (pc' := 49) (lv' := [(2, .int ((nI c) + 1)), (0, .ref o0), (1, .int (nI (1 + m))), (3, .int (nI 4))]) (st' := []) rfl ?_
                          refine x_sub (lv' := [(0, .ref o0), (1, .int (nI (1 + m))), (2, .int ((nI c) + 1))]) [1, 2, 0] rfl ?_
                          refine x_loc (lv' := [(0, .ref o0), (1, .int (nI (1 + m))), (2, .int (nI (c + 1)))]) (by simp only [nlit, nI_add, pk_mul]) ?_
                          exact ih49 (by omega) _ (fun j hj => iv56 j (by omega))
                        · exact absurd hc11 (by omega)
                      · intro q hi56 ih56 lo56 o3 iv56
                        refine x_run C 36 2 (pc' := 58) (lv' := [(0, .ref o0), (1, .int (nI (1 + m))), (2, .int (nI c)), (3, .int (nI q))]) (st' := [.int 4, .int (nI q)]) rfl ?_
                        refine x_st (st' := [.int (nI 4), .int (nI q)]) (by simp only [nlit, nI_add, pk_mul]) ?_
                        refine x_icmpN_ge C 38 (by omega) (by omega) rfl (tgt := 96) rfl (fun hc12 => ?_) (fun hc12 => ?_)
                        · exact absurd hc12 (by omega)
                        · refine x_run C 39 1 (pc' := 62) (lv' := [(0, .ref o0), (1, .int (nI (1 + m))), (2, .int (nI c)), (3, .int (nI q))]) (st' := [.ref o0]) rfl ?_
                          refine x_get C 40 rfl fX8_25 N 0 rfl (v := .ref (A 5)) rfl ?_
                          refine x_run C 41 6 (pc' := 71) (lv' := [(0, .ref o0), (1, .int (nI (1 + m))), (2, .int (nI c)), (3, .int (nI q))]) (st' := [.ref o0, .int ((nI q) + (4 * (nI c))), .ref (A 5)]) rfl ?_
                          refine x_get C 47 rfl fX8_16 N 0 rfl (v := .ref (A 2)) rfl ?_
                          refine x_run C 48 1 (pc' := 75) (lv' := [(0, .ref o0), (1, .int (nI (1 + m))), (2, .int (nI c)), (3, .int (nI q))]) (st' := [.ref o0, .ref (A 2), .int ((nI q) + (4 * (nI c))), .ref (A 5)]) rfl ?_
                          refine x_get C 49 rfl fX8_22 N 0 rfl (v := .ref (A 4)) rfl ?_
                          refine x_run C 50 9 (pc' := 87) (lv' := [(0, .ref o0), (1, .int (nI (1 + m))), (2, .int (nI c)), (3, .int (nI q))]) (st' := [.int ((nI q) + (4 * (jrem ((nI c) + (nI q)) 4))), .ref (A 4), .ref (A 2), .int ((nI q) + (4 * (nI c))), .ref (A 5)]) rfl ?_
                          refine x_st (st' := [.int (nI (q + (4 * ((c + q) % 4)))), .ref (A 4), .ref (A 2), .int ((nI q) + (4 * (nI c))), .ref (A 5)]) (by simp only [nlit, nI_add, pk_mul, pk_rem (show (c + q) < 2 ^ 31 by omega) (show 0 < 4 by decide) (show 4 < 2 ^ 31 by decide), jrem]) ?_
                          refine x_ialdN C 59 rfl N 1 rfl (by omega) (by omega) ?_
                          refine x_st (st' := [.int (nI (b1 (q + (4 * ((c + q) % 4))))), .ref (A 2), .int ((nI q) + (4 * (nI c))), .ref (A 5)]) rfl ?_
                          refine x_ialdN C 60 rfl N 3 rfl (by rw [iv41 _ (by omega)]; exact stB_lt _ _) (by omega) ?_
                          refine x_st (st' := [.int (nI (sN (b1 (q + (4 * ((c + q) % 4)))))), .int ((nI q) + (4 * (nI c))), .ref (A 5)]) rfl ?_
                          refine x_st (st' := [.int (nI (sN (b1 (q + (4 * ((c + q) % 4)))))), .int (nI (q + (4 * c))), .ref (A 5)]) (by simp only [nlit, nI_add, pk_mul]) ?_
                          refine x_iastN C 61 rfl N 4 rfl (by omega) (by omega) (os' := [(qm, (o0, cO 8 (mo A th su (nI sz) (bl + 1) (nI ci) (nI ma) pa en wr))), (q_block, (A 4, cI Y 16 (iF b1))), (q_rounds, (A 3, cI Y 176 (iF rk))), (q_box, (A 2, cI Y 256 (iF sN))), (q_other, (A 5, cI Y 16 (upd (iF o3) (q + (4 * c)) (nI (sN (b1 (q + (4 * ((c + q) % 4)))))))))]) rfl ?_
                          refine x_ov (os' := [(qm, (o0, cO 8 (mo A th su (nI sz) (bl + 1) (nI ci) (nI ma) pa en wr))), (q_block, (A 4, cI Y 16 (iF b1))), (q_rounds, (A 3, cI Y 176 (iF rk))), (q_box, (A 2, cI Y 256 (iF sN))), (q_other, (A 5, cI Y 16 (iF (updN o3 (q + (4 * c)) (sN (b1 (q + (4 * ((c + q) % 4)))))))))]) (by rw [upd_iF]) ?_
                          refine x_run C 62 2 (pc' := 56) (lv' := [(3, .int ((nI q) + 1)), (0, .ref o0), (1, .int (nI (1 + m))), (2, .int (nI c))]) (st' := []) rfl ?_
                          refine x_sub (lv' := [(0, .ref o0), (1, .int (nI (1 + m))), (2, .int (nI c)), (3, .int ((nI q) + 1))]) [1, 2, 3, 0] rfl ?_
                          refine x_loc (lv' := [(0, .ref o0), (1, .int (nI (1 + m))), (2, .int (nI c)), (3, .int (nI (q + 1)))]) (by simp only [nlit, nI_add, pk_mul]) ?_
                          exact ih56 (by omega) _ (inv_A (by omega) iv56)
                    refine x_sub (lv' := [(0, .ref o0), (1, .int (nI (1 + m))), (2, .int (nI c)), (3, .int 0)]) [1, 2, 3, 0] rfl ?_
                    refine x_loc (lv' := [(0, .ref o0), (1, .int (nI (1 + m))), (2, .int (nI c)), (3, .int (nI 0))]) (by simp only [nlit, nI_add, pk_mul]) ?_
                    exact L56 0 (Nat.le_refl _) (by omega) _ (fun j hj => iv49 j (by omega))
              refine x_sub (lv' := [(0, .ref o0), (1, .int (nI (1 + m))), (2, .int 0)]) [1, 2, 0] rfl ?_
              refine x_loc (lv' := [(0, .ref o0), (1, .int (nI (1 + m))), (2, .int (nI 0))]) (by simp only [nlit, nI_add, pk_mul]) ?_
              exact L49 0 (Nat.le_refl _) (by omega) _ (fun j h => absurd h (by omega))
        refine x_sub (lv' := [(0, .ref o0), (1, .int 1)]) [1, 0] rfl ?_
        refine x_loc (lv' := [(0, .ref o0), (1, .int (nI (1 + 0)))]) (by rfl) ?_
        exact L41 0 (Nat.le_refl _) (by omega) _ _ (aes_0 hb hK)
      · exact absurd hc1 (by omega)
    · intro i hi12 ih12 lo12
      refine x_run C 8 2 (pc' := 15) (lv' := [(0, .ref o0), (1, .int (nI i))]) (st' := [.int 16, .int (nI i)]) rfl ?_
      refine x_st (st' := [.int (nI 16), .int (nI i)]) (by simp only [nlit, nI_add, pk_mul]) ?_
      refine x_icmpN_ge C 10 (by omega) (by omega) rfl (tgt := 39) rfl (fun hc13 => ?_) (fun hc13 => ?_)
      · exact absurd hc13 (by omega)
      · refine x_run C 11 1 (pc' := 19) (lv' := [(0, .ref o0), (1, .int (nI i))]) (st' := [.ref o0]) rfl ?_
        refine x_get C 12 rfl fX8_22 N 0 rfl (v := .ref (A 4)) rfl ?_
        refine x_run C 13 2 (pc' := 24) (lv' := [(0, .ref o0), (1, .int (nI i))]) (st' := [.int (nI i), .ref (A 4), .int (nI i), .ref (A 4)]) rfl ?_
        refine x_ialdN C 15 rfl N 1 rfl (by omega) (by omega) ?_
        refine x_st (st' := [.int (nI ((filN b 0 i (fun j => b j ^^^ rk j)) i)), .int (nI i), .ref (A 4)]) rfl ?_
        refine x_st (st' := [.int (nI (b i)), .int (nI i), .ref (A 4)]) (by rw [filN_o (Or.inr (by omega))]) ?_
        refine x_run C 16 1 (pc' := 26) (lv' := [(0, .ref o0), (1, .int (nI i))]) (st' := [.ref o0, .int (nI (b i)), .int (nI i), .ref (A 4)]) rfl ?_
        refine x_get C 17 rfl fX8_19 N 0 rfl (v := .ref (A 3)) rfl ?_
        refine x_run C 18 1 (pc' := 30) (lv' := [(0, .ref o0), (1, .int (nI i))]) (st' := [.int (nI i), .ref (A 3), .int (nI (b i)), .int (nI i), .ref (A 4)]) rfl ?_
        refine x_ialdN C 19 rfl N 2 rfl (by omega) (by omega) ?_
        refine x_st (st' := [.int (nI (rk i)), .int (nI (b i)), .int (nI i), .ref (A 4)]) rfl ?_
        refine x_run C 20 1 (pc' := 32) (lv' := [(0, .ref o0), (1, .int (nI i))]) (st' := [.int ((nI (b i)) ^^^ (nI (rk i))), .int (nI i), .ref (A 4)]) rfl ?_
        refine x_st (st' := [.int (nI ((b i) ^^^ (rk i))), .int (nI i), .ref (A 4)]) (by simp only [nlit, nI_add, pk_mul, nx_xor]) ?_
        refine x_iastN C 21 rfl N 1 rfl (by omega) (by omega) (os' := [(qm, (o0, cO 8 (mo A th su (nI sz) (bl + 1) (nI ci) (nI ma) pa en wr))), (q_block, (A 4, cI Y 16 (upd (iF (filN b 0 i (fun j => b j ^^^ rk j))) i (nI ((b i) ^^^ (rk i)))))), (q_rounds, (A 3, cI Y 176 (iF rk))), (q_box, (A 2, cI Y 256 (iF sN))), (q_other, (A 5, cI Y 16 (iF o)))]) rfl ?_
        refine x_ov (os' := [(qm, (o0, cO 8 (mo A th su (nI sz) (bl + 1) (nI ci) (nI ma) pa en wr))), (q_block, (A 4, cI Y 16 (iF (updN (filN b 0 i (fun j => b j ^^^ rk j)) i ((b i) ^^^ (rk i)))))), (q_rounds, (A 3, cI Y 176 (iF rk))), (q_box, (A 2, cI Y 256 (iF sN))), (q_other, (A 5, cI Y 16 (iF o)))]) (by rw [upd_iF]) ?_
        refine x_run C 22 2 (pc' := 12) (lv' := [(1, .int ((nI i) + 1)), (0, .ref o0)]) (st' := []) rfl ?_
        refine x_sub (lv' := [(0, .ref o0), (1, .int ((nI i) + 1))]) [1, 0] rfl ?_
        refine x_loc (lv' := [(0, .ref o0), (1, .int (nI (i + 1)))]) (by simp only [nlit, nI_add, pk_mul]) ?_
        refine x_ov (os' := [(qm, (o0, cO 8 (mo A th su (nI sz) (bl + 1) (nI ci) (nI ma) pa en wr))), (q_block, (A 4, cI Y 16 (iF (filN b 0 (i + 1) (fun j => b j ^^^ rk j))))), (q_rounds, (A 3, cI Y 176 (iF rk))), (q_box, (A 2, cI Y 256 (iF sN))), (q_other, (A 5, cI Y 16 (iF o)))]) (by rw [← filN_s0]) ?_
        exact ih12 (by omega)
  refine x_sub (lv' := [(0, .ref o0), (1, .int 0)]) [1, 0] rfl ?_
  refine x_loc (lv' := [(0, .ref o0), (1, .int (nI 0))]) (by simp only [nlit, nI_add, pk_mul]) ?_
  refine x_ov (os' := [(qm, (o0, cO 8 (mo A th su (nI sz) (bl + 1) (nI ci) (nI ma) pa en wr))), (q_block, (A 4, cI Y 16 (iF (filN b 0 0 (fun j => b j ^^^ rk j))))), (q_rounds, (A 3, cI Y 176 (iF rk))), (q_box, (A 2, cI Y 256 (iF sN))), (q_other, (A 5, cI Y 16 (iF o)))]) (by rw [filN_0]) ?_
  exact L12 0 (Nat.le_refl _) (by omega)
