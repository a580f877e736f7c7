set_option maxHeartbeats 4000000 in
set_option maxRecDepth 100000 in
theorem c_X8_circuitB (Y : xD) (w : va_W) (o0 : Nat) (A : Nat → Nat) (th : Int32) (su : Int32) (sz : Nat) (bl : Int32) (ci : Nat) (ma : Nat) (pa : Int32) (en : Int32) (wr : Int32) (qm : Nat) (e0 : w[qm]? = some (o0, cO 8 (mo A th su (nI sz) bl (nI ci) (nI ma) pa en wr))) (N : xN w.length [qm]) (hc : ci = 6) : Cf Y mX8_circuit 4 [.ref o0] w (some (.int (-2))) [(qm, (o0, cO 8 (mo A (nI 0) su (nI 0) bl (nI ci) (nI ma) pa (nI sz) wr)))] := by
  refine Ct.intro (T := tX8_circuit) (by decide) oX8_circuit (Nat.le_of_ble_eq_true rfl) (fun G C B => ?_)
  refine x_lay [(qm, (o0, cO 8 (mo A th su (nI sz) bl (nI ci) (nI ma) pa en wr)))] (lay_cons e0 lay_nil) ?_
  refine x_run C 0 2 (pc' := 2) (lv' := [(0, .ref o0)]) (st' := [.int 0, .ref o0]) rfl ?_
  refine x_put C 2 rfl pX8_117 N 0 rfl rfl rfl (Nat.le_of_ble_eq_true rfl) (os' := [(qm, (o0, cO 8 (mo A (nI 0) su (nI sz) bl (nI ci) (nI ma) pa en wr)))]) rfl ?_
  refine x_run C 3 2 (pc' := 7) (lv' := [(0, .ref o0)]) (st' := [.ref o0, .ref o0]) rfl ?_
  refine x_cv C 5 (As := []) (rest := [.ref o0]) rfl vX8_144 N 0 rfl rfl (c_X8_uses Y _ o0 A (nI 0) su sz bl ci ma pa en wr qm (ovl_at 0 N rfl) (N.ov [0] (by decide) rfl) ) rfl rfl (Nat.le_of_ble_eq_true rfl) ⟨Nat.le_of_ble_eq_true rfl, Nat.le_of_ble_eq_true rfl⟩ ⟨Nat.zero_le _, Nat.zero_le _⟩ [0] ⟨rfl, trivial⟩ (os' := [(qm, (o0, cO 8 (mo A (nI 0) su (nI 0) bl (nI ci) (nI ma) pa en wr)))]) rfl (st' := [.int (nI sz), .ref o0]) rfl ?_
  refine x_put C 6 rfl pX8_165 N 0 rfl rfl rfl (Nat.le_of_ble_eq_true rfl) (os' := [(qm, (o0, cO 8 (mo A (nI 0) su (nI 0) bl (nI ci) (nI ma) pa (nI sz) wr)))]) rfl ?_
  refine x_run C 7 1 (pc' := 14) (lv' := [(0, .ref o0)]) (st' := [.ref o0]) rfl ?_
  refine x_get C 8 rfl fX8_190 N 0 rfl (v := .int (nI ci)) rfl ?_
  refine x_run C 9 1 (pc' := 19) (lv' := [(0, .ref o0)]) (st' := [.int 6, .int (nI ci)]) rfl ?_
  refine x_st (st' := [.int (nI 6), .int (nI ci)]) (by simp only [nlit, nI_add, pk_mul]) ?_
  refine x_icmpN_ne C 10 (by omega) (by omega) rfl (tgt := 25) rfl (fun hc1 => ?_) (fun hc1 => ?_)
  · exact absurd hc hc1
  · refine x_run C 11 1 (pc' := 24) (lv' := [(0, .ref o0)]) (st' := [.int (-2)]) rfl ?_
    exact x_iret C B rfl 12 rfl (Nat.zero_le _) (Nat.zero_le _) ⟨by first | contradiction | (simp only [if_pos hc1]; done) | (simp only [if_pos hc1]; simp only [nlit, nI_add, pk_mul]; done) | (simp only [if_pos hc1, nlit, nI_add, pk_mul]; done) | rfl | (simp only [if_pos hc1]; rfl) | (simp only [if_pos hc1, nlit, nI_add, pk_mul]; rfl), by first | contradiction | (simp only [if_pos hc1]; done) | (simp only [if_pos hc1]; simp only [nlit, nI_add, pk_mul]; done) | (simp only [if_pos hc1, nlit, nI_add, pk_mul]; done) | rfl | (simp only [if_pos hc1]; rfl) | (simp only [if_pos hc1, nlit, nI_add, pk_mul]; rfl)⟩
set_option maxHeartbeats 16000000 in
set_option maxRecDepth 100000 in
theorem c_X8_circuit (Y : xD) (w : va_W) (o0 : Nat) (A : Nat → Nat) (th : Int32) (su : Int32) (sz : Nat) (bl : Int32) (ci : Nat) (ma : Nat) (pa : Int32) (en : Int32) (wr : Int32) (tq : Nat → Nat) (tp : Nat → Nat) (iA : Nat → Int32) (gA : Nat → Int32) (oA : Nat → Int32) (tA : Nat → Int32) (sA : Nat → Int32) (lA : Nat → Int32) (rA : Nat → Int32) (nA : Nat → Int32) (pA : Nat → Int32) (sgA : Nat → Int32) (lfA : Nat → Int32) (rtA : Nat → Int32) (tnA : Nat → Int32) (ouA : Nat → Int32) (qm q_tape q_inputs q_gates q_outputs q_tabled q_sign q_left q_right q_tableOf q_outputOf : Nat) (e0 : w[qm]? = some (o0, cO 8 (mo A th su (nI sz) bl (nI ci) (nI ma) pa en wr))) (e1 : w[q_tape]? = some (A 0, cI Y 4000 (iF tq))) (e2 : w[q_inputs]? = some (A 6, cI Y 6 iA)) (e3 : w[q_gates]? = some (A 7, cI Y 6 gA)) (e4 : w[q_outputs]? = some (A 8, cI Y 6 oA)) (e5 : w[q_tabled]? = some (A 9, cI Y 6 tA)) (e6 : w[q_sign]? = some (A 10, cI Y 240 sA)) (e7 : w[q_left]? = some (A 11, cI Y 240 lA)) (e8 : w[q_right]? = some (A 12, cI Y 240 rA)) (e9 : w[q_tableOf]? = some (A 13, cI Y 240 nA)) (e10 : w[q_outputOf]? = some (A 14, cI Y 48 pA)) (N : xN w.length [qm, q_tape, q_inputs, q_gates, q_outputs, q_tabled, q_sign, q_left, q_right, q_tableOf, q_outputOf]) (he : sz ≤ 4000) (hT : ∀ j, j < sz → tq j = tp j) (ht : ∀ j, tp j < 256) (hc : ci < 6) (hF : (pcO tp sz sgA lfA rtA tnA ouA).2.1 = -1) : Ct Y mX8_circuit 4 0 0 [.ref o0] w (fun v w' => v = (some (.int (nI ci))) ∧ ∃ (pa' : Int32) (i' : Nat → Int32) (g' : Nat → Int32) (o' : Nat → Int32) (t' : Nat → Int32) (s' : Nat → Int32) (l' : Nat → Int32) (r' : Nat → Int32) (n' : Nat → Int32) (p' : Nat → Int32), (cOK tp sz ci sgA lfA rtA tnA ouA i' g' o' t' s' l' r' n' p') ∧ (kpM ci iA gA oA tA sA lA rA nA pA i' g' o' t' s' l' r' n' p') ∧ w' = ovl w [(qm, (o0, cO 8 (mo A (nI 0) su (nI 0) bl (nI (ci + 1)) (nI ma) pa' (nI sz) (-1)))), (q_tape, (A 0, cI Y 4000 (iF tq))), (q_inputs, (A 6, cI Y 6 i')), (q_gates, (A 7, cI Y 6 g')), (q_outputs, (A 8, cI Y 6 o')), (q_tabled, (A 9, cI Y 6 t')), (q_sign, (A 10, cI Y 240 s')), (q_left, (A 11, cI Y 240 l')), (q_right, (A 12, cI Y 240 r')), (q_tableOf, (A 13, cI Y 240 n')), (q_outputOf, (A 14, cI Y 48 p'))]) := by
  refine Ct.intro (T := tX8_circuit) (by decide) oX8_circuit (Nat.le_of_ble_eq_true rfl) (fun G C B => ?_)
  refine x_lay [(qm, (o0, cO 8 (mo A th su (nI sz) bl (nI ci) (nI ma) pa en wr))), (q_tape, (A 0, cI Y 4000 (iF tq))), (q_inputs, (A 6, cI Y 6 iA)), (q_gates, (A 7, cI Y 6 gA)), (q_outputs, (A 8, cI Y 6 oA)), (q_tabled, (A 9, cI Y 6 tA)), (q_sign, (A 10, cI Y 240 sA)), (q_left, (A 11, cI Y 240 lA)), (q_right, (A 12, cI Y 240 rA)), (q_tableOf, (A 13, cI Y 240 nA)), (q_outputOf, (A 14, cI Y 48 pA))] (lay_cons e0 (lay_cons e1 (lay_cons e2 (lay_cons e3 (lay_cons e4 (lay_cons e5 (lay_cons e6 (lay_cons e7 (lay_cons e8 (lay_cons e9 (lay_cons e10 lay_nil))))))))))) ?_
  have J260f : ∀ (pa1 wr1 ap : Int32) (i1 g1 o1 t1 s1 l1 r1 n1 p1 : Nat → Int32) (hw : 0 ≤ wr1) (hFw : (pcO tp sz sgA lfA rtA tnA ouA).2.1 = wr1) (fr : kpM ci iA gA oA tA sA lA rA nA pA i1 g1 o1 t1 s1 l1 r1 n1 p1), X G Y 0 0 260 [(0, .ref o0), (1, .int (nI ci)), (2, .int ap)] [] (ovl w [(qm, (o0, cO 8 (mo A (nI 0) su (nI 0) bl (nI ci) (nI ma) pa1 (nI sz) wr1))), (q_tape, (A 0, cI Y 4000 (iF tq))), (q_inputs, (A 6, cI Y 6 i1)), (q_gates, (A 7, cI Y 6 g1)), (q_outputs, (A 8, cI Y 6 o1)), (q_tabled, (A 9, cI Y 6 t1)), (q_sign, (A 10, cI Y 240 s1)), (q_left, (A 11, cI Y 240 l1)), (q_right, (A 12, cI Y 240 r1)), (q_tableOf, (A 13, cI Y 240 n1)), (q_outputOf, (A 14, cI Y 48 p1))]) := by
    intro pa1 wr1 ap i1 g1 o1 t1 s1 l1 r1 n1 p1 hw hFw fr
    exact absurd (hFw.symm.trans hF ▸ hw) neg1
  have J139f : ∀ (pa1 wr1 ap : Int32) (i1 g1 o1 t1 s1 l1 r1 n1 p1 : Nat → Int32) (hw : 0 ≤ wr1) (hFw : (pcO tp sz sgA lfA rtA tnA ouA).2.1 = wr1) (fr : kpM ci iA gA oA tA sA lA rA nA pA i1 g1 o1 t1 s1 l1 r1 n1 p1), X G Y 0 0 139 [(0, .ref o0), (1, .int (nI ci)), (2, .int ap)] [] (ovl w [(qm, (o0, cO 8 (mo A (nI 0) su (nI 0) bl (nI ci) (nI ma) pa1 (nI sz) wr1))), (q_tape, (A 0, cI Y 4000 (iF tq))), (q_inputs, (A 6, cI Y 6 i1)), (q_gates, (A 7, cI Y 6 g1)), (q_outputs, (A 8, cI Y 6 o1)), (q_tabled, (A 9, cI Y 6 t1)), (q_sign, (A 10, cI Y 240 s1)), (q_left, (A 11, cI Y 240 l1)), (q_right, (A 12, cI Y 240 r1)), (q_tableOf, (A 13, cI Y 240 n1)), (q_outputOf, (A 14, cI Y 48 p1))]) := by
    intro pa1 wr1 ap i1 g1 o1 t1 s1 l1 r1 n1 p1 hw hFw fr
    exact absurd (hFw.symm.trans hF ▸ hw) neg1
  have J95f : ∀ (p : Nat) (wr1 : Int32) (i1 g1 o1 t1 s1 l1 r1 n1 p1 : Nat → Int32) (hp : p ≤ 60000) (hw : 0 ≤ wr1) (hFw : (pcO tp sz sgA lfA rtA tnA ouA).2.1 = wr1) (fr : kpM ci iA gA oA tA sA lA rA nA pA i1 g1 o1 t1 s1 l1 r1 n1 p1), X G Y 0 0 95 [(0, .ref o0), (1, .int (nI ci))] [] (ovl w [(qm, (o0, cO 8 (mo A (nI 0) su (nI 0) bl (nI ci) (nI ma) (nI p) (nI sz) wr1))), (q_tape, (A 0, cI Y 4000 (iF tq))), (q_inputs, (A 6, cI Y 6 i1)), (q_gates, (A 7, cI Y 6 g1)), (q_outputs, (A 8, cI Y 6 o1)), (q_tabled, (A 9, cI Y 6 t1)), (q_sign, (A 10, cI Y 240 s1)), (q_left, (A 11, cI Y 240 l1)), (q_right, (A 12, cI Y 240 r1)), (q_tableOf, (A 13, cI Y 240 n1)), (q_outputOf, (A 14, cI Y 48 p1))]) := by
    intro p wr1 i1 g1 o1 t1 s1 l1 r1 n1 p1 hp hw hFw fr
    exact absurd (hFw.symm.trans hF ▸ hw) neg1
  have J260 : ∀ (pa1 wr1 ap : Int32) (i1 g1 o1 t1 s1 l1 r1 n1 p1 : Nat → Int32) (hw : wr1 = -1) (ok : cOK tp sz ci sgA lfA rtA tnA ouA i1 g1 o1 t1 s1 l1 r1 n1 p1) (fr : kpM ci iA gA oA tA sA lA rA nA pA i1 g1 o1 t1 s1 l1 r1 n1 p1), X G Y 0 0 260 [(0, .ref o0), (1, .int (nI ci)), (2, .int ap)] [] (ovl w [(qm, (o0, cO 8 (mo A (nI 0) su (nI 0) bl (nI ci) (nI ma) pa1 (nI sz) wr1))), (q_tape, (A 0, cI Y 4000 (iF tq))), (q_inputs, (A 6, cI Y 6 i1)), (q_gates, (A 7, cI Y 6 g1)), (q_outputs, (A 8, cI Y 6 o1)), (q_tabled, (A 9, cI Y 6 t1)), (q_sign, (A 10, cI Y 240 s1)), (q_left, (A 11, cI Y 240 l1)), (q_right, (A 12, cI Y 240 r1)), (q_tableOf, (A 13, cI Y 240 n1)), (q_outputOf, (A 14, cI Y 48 p1))]) := by
    intro pa1 wr1 ap i1 g1 o1 t1 s1 l1 r1 n1 p1 hw ok fr
    subst hw
    refine x_run C 148 1 (pc' := 261) (lv' := [(0, .ref o0), (1, .int (nI ci)), (2, .int ap)]) (st' := [.ref o0]) rfl ?_
    refine x_get C 149 rfl fX8_159 N 0 rfl (v := .int (-1)) rfl ?_
    refine x_if_lt C 150 rfl (tgt := 276) rfl (fun hc1 => ?_) (fun hc1 => ?_)
    · refine x_run C 156 2 (pc' := 278) (lv' := [(0, .ref o0), (1, .int (nI ci)), (2, .int ap)]) (st' := [.ref o0, .ref o0]) rfl ?_
      refine x_get C 158 rfl fX8_190 N 0 rfl (v := .int (nI ci)) rfl ?_
      refine x_run C 159 2 (pc' := 283) (lv' := [(0, .ref o0), (1, .int (nI ci)), (2, .int ap)]) (st' := [.int ((nI ci) + 1), .ref o0]) rfl ?_
      refine x_st (st' := [.int (nI (ci + 1)), .ref o0]) (by simp only [nlit, nI_add, pk_mul]) ?_
      refine x_put C 161 rfl pX8_190 N 0 rfl rfl rfl (Nat.le_of_ble_eq_true rfl) (os' := [(qm, (o0, cO 8 (mo A (nI 0) su (nI 0) bl (nI (ci + 1)) (nI ma) pa1 (nI sz) (-1)))), (q_tape, (A 0, cI Y 4000 (iF tq))), (q_inputs, (A 6, cI Y 6 i1)), (q_gates, (A 7, cI Y 6 g1)), (q_outputs, (A 8, cI Y 6 o1)), (q_tabled, (A 9, cI Y 6 t1)), (q_sign, (A 10, cI Y 240 s1)), (q_left, (A 11, cI Y 240 l1)), (q_right, (A 12, cI Y 240 r1)), (q_tableOf, (A 13, cI Y 240 n1)), (q_outputOf, (A 14, cI Y 48 p1))]) rfl ?_
      refine x_run C 162 1 (pc' := 287) (lv' := [(0, .ref o0), (1, .int (nI ci)), (2, .int ap)]) (st' := [.int (nI ci)]) rfl ?_
      exact x_iret C B rfl 163 rfl (Nat.zero_le _) (Nat.zero_le _) ⟨rfl, _, _, _, _, _, _, _, _, _, _, ok, fr, rfl⟩
    · exact absurd (by decide) hc1
  have J139p : ∀ (p : Nat) (wr1 : Int32) (i1 g1 o1 t1 s1 l1 r1 n1 p1 : Nat → Int32) (hw : wr1 = -1) (hp : p < sz) (hFp : (pcO tp sz sgA lfA rtA tnA ouA).2.1 = nI p) (fr : kpM ci iA gA oA tA sA lA rA nA pA i1 g1 o1 t1 s1 l1 r1 n1 p1), X G Y 0 0 139 [(0, .ref o0), (1, .int (nI ci)), (2, .int 0)] [] (ovl w [(qm, (o0, cO 8 (mo A (nI 0) su (nI 0) bl (nI ci) (nI ma) (nI p) (nI sz) wr1))), (q_tape, (A 0, cI Y 4000 (iF tq))), (q_inputs, (A 6, cI Y 6 i1)), (q_gates, (A 7, cI Y 6 g1)), (q_outputs, (A 8, cI Y 6 o1)), (q_tabled, (A 9, cI Y 6 t1)), (q_sign, (A 10, cI Y 240 s1)), (q_left, (A 11, cI Y 240 l1)), (q_right, (A 12, cI Y 240 r1)), (q_tableOf, (A 13, cI Y 240 n1)), (q_outputOf, (A 14, cI Y 48 p1))]) := by
    intro p wr1 i1 g1 o1 t1 s1 l1 r1 n1 p1 hw hp hFp fr
    subst hw
    refine x_run C 78 1 (pc' := 140) (lv' := [(0, .ref o0), (1, .int (nI ci)), (2, .int 0)]) (st' := [.ref o0]) rfl ?_
    refine x_get C 79 rfl fX8_159 N 0 rfl (v := .int (-1)) rfl ?_
    refine x_if_ge C 80 rfl (tgt := 260) rfl (fun hc2 => ?_) (fun hc2 => ?_)
    · exact absurd hc2 neg1
    · refine x_run C 81 1 (pc' := 147) (lv' := [(0, .ref o0), (1, .int (nI ci)), (2, .int 0)]) (st' := [.ref o0]) rfl ?_
      refine x_get C 82 rfl fX8_162 N 0 rfl (v := .int (nI p)) rfl ?_
      refine x_run C 83 1 (pc' := 151) (lv' := [(0, .ref o0), (1, .int (nI ci)), (2, .int 0)]) (st' := [.ref o0, .int (nI p)]) rfl ?_
      refine x_get C 84 rfl fX8_165 N 0 rfl (v := .int (nI sz)) rfl ?_
      refine x_icmpN_lt C 85 (by omega) (by omega) rfl (tgt := 166) rfl (fun hc3 => ?_) (fun hc3 => ?_)
      · refine x_run C 91 1 (pc' := 167) (lv' := [(0, .ref o0), (1, .int (nI ci)), (2, .int 0)]) (st' := [.ref o0]) rfl ?_
        refine x_get C 92 rfl fX8_34 N 0 rfl (v := .ref (A 8)) rfl ?_
        refine x_run C 93 1 (pc' := 171) (lv' := [(0, .ref o0), (1, .int (nI ci)), (2, .int 0)]) (st' := [.int (nI ci), .ref (A 8)]) rfl ?_
        refine x_ialdN C 94 rfl N 4 rfl (by omega) (by omega) ?_
        refine x_run C 95 1 (pc' := 174) (lv' := [(0, .ref o0), (1, .int (nI ci)), (2, .int 0)]) (st' := [.int 8, .int (o1 ci)]) rfl ?_
        refine x_icmp_eq C 96 rfl (tgt := 181) rfl (fun hc4 => ?_) (fun hc4 => ?_)
        · refine x_run C 99 2 (pc' := 183) (lv' := [(0, .ref o0), (1, .int (nI ci)), (2, .int 0)]) (st' := [.ref o0, .ref o0]) rfl ?_
          refine x_get C 101 rfl fX8_162 N 0 rfl (v := .int (nI p)) rfl ?_
          refine x_cv C 102 (As := [.int (nI p)]) (rest := []) rfl vX8_175 N 0 rfl rfl (c_X8_fault Y _ o0 A (nI 0) su 0 bl ci ma (nI p) (nI sz) (-1) (nI p) qm (ovl_at 0 N rfl) (N.ov [0] (by decide) rfl) ) rfl rfl (Nat.le_of_ble_eq_true rfl) ⟨Nat.le_of_ble_eq_true rfl, Nat.le_of_ble_eq_true rfl⟩ ⟨Nat.zero_le _, Nat.zero_le _⟩ [0] ⟨rfl, trivial⟩ (os' := [(qm, (o0, cO 8 (mo A (nI 0) su (nI 0) bl (nI ci) (nI ma) (nI p) (nI sz) (flt (-1) (nI p))))), (q_tape, (A 0, cI Y 4000 (iF tq))), (q_inputs, (A 6, cI Y 6 i1)), (q_gates, (A 7, cI Y 6 g1)), (q_outputs, (A 8, cI Y 6 o1)), (q_tabled, (A 9, cI Y 6 t1)), (q_sign, (A 10, cI Y 240 s1)), (q_left, (A 11, cI Y 240 l1)), (q_right, (A 12, cI Y 240 r1)), (q_tableOf, (A 13, cI Y 240 n1)), (q_outputOf, (A 14, cI Y 48 p1))]) rfl (st' := []) rfl ?_
          refine x_run C 103 1 (pc' := 139) (lv' := [(0, .ref o0), (1, .int (nI ci)), (2, .int 0)]) (st' := []) rfl ?_
          exact J139f _ _ _ _ _ _ _ _ _ _ _ _ (by rw [flt_n]; exact nI_nn (by omega)) (by rw [flt_n]; exact hFp) fr
        · refine x_run C 97 1 (pc' := 178) (lv' := [(0, .ref o0), (1, .int (nI ci)), (2, .int 0)]) (st' := [.int 0]) rfl ?_
          refine x_st (st' := [.int (nI 0)]) (by simp only [nlit, nI_add, pk_mul]) ?_
          refine x_ifN_ne C 98 (by omega) rfl (tgt := 192) rfl (fun hc5 => absurd hc5 (by omega)) (fun hc5 => ?_)
          refine x_run C 99 2 (pc' := 183) (lv' := [(0, .ref o0), (1, .int (nI ci)), (2, .int 0)]) (st' := [.ref o0, .ref o0]) rfl ?_
          refine x_get C 101 rfl fX8_162 N 0 rfl (v := .int (nI p)) rfl ?_
          refine x_cv C 102 (As := [.int (nI p)]) (rest := []) rfl vX8_175 N 0 rfl rfl (c_X8_fault Y _ o0 A (nI 0) su 0 bl ci ma (nI p) (nI sz) (-1) (nI p) qm (ovl_at 0 N rfl) (N.ov [0] (by decide) rfl) ) rfl rfl (Nat.le_of_ble_eq_true rfl) ⟨Nat.le_of_ble_eq_true rfl, Nat.le_of_ble_eq_true rfl⟩ ⟨Nat.zero_le _, Nat.zero_le _⟩ [0] ⟨rfl, trivial⟩ (os' := [(qm, (o0, cO 8 (mo A (nI 0) su (nI 0) bl (nI ci) (nI ma) (nI p) (nI sz) (flt (-1) (nI p))))), (q_tape, (A 0, cI Y 4000 (iF tq))), (q_inputs, (A 6, cI Y 6 i1)), (q_gates, (A 7, cI Y 6 g1)), (q_outputs, (A 8, cI Y 6 o1)), (q_tabled, (A 9, cI Y 6 t1)), (q_sign, (A 10, cI Y 240 s1)), (q_left, (A 11, cI Y 240 l1)), (q_right, (A 12, cI Y 240 r1)), (q_tableOf, (A 13, cI Y 240 n1)), (q_outputOf, (A 14, cI Y 48 p1))]) rfl (st' := []) rfl ?_
          refine x_run C 103 1 (pc' := 139) (lv' := [(0, .ref o0), (1, .int (nI ci)), (2, .int 0)]) (st' := []) rfl ?_
          exact J139f _ _ _ _ _ _ _ _ _ _ _ _ (by rw [flt_n]; exact nI_nn (by omega)) (by rw [flt_n]; exact hFp) fr
      · exact absurd hp (by omega)
  have L139 : (1 ≤ (pcN tp sz) ∧ (pcN tp sz) ≤ 16) → ∀ i, i ≤ 8 → ∀ (Q : oQ) (p : Nat) (wr1 ap : Int32) (i1 g1 o1 t1 s1 l1 r1 n1 p1 : Nat → Int32) (hw : wr1 = -1) (G_ : gE ci (pcN tp sz) (pcQ tp sz sgA lfA rtA tnA) i1 g1 t1 s1 l1 r1 n1) (fr : kpM ci iA gA oA tA sA lA rA nA pA i1 g1 o1 t1 s1 l1 r1 n1 p1) (R : oR tp sz (pcN tp sz + (pcQ tp sz sgA lfA rtA tnA).2.2.1) ci i Q ((pcQ tp sz sgA lfA rtA tnA).1, (pcQ tp sz sgA lfA rtA tnA).2.1, 0, ouA) p ap o1 p1), X G Y 0 0 139 [(0, .ref o0), (1, .int (nI ci)), (2, .int ap)] [] (ovl w [(qm, (o0, cO 8 (mo A (nI 0) su (nI 0) bl (nI ci) (nI ma) (nI p) (nI sz) wr1))), (q_tape, (A 0, cI Y 4000 (iF tq))), (q_inputs, (A 6, cI Y 6 i1)), (q_gates, (A 7, cI Y 6 g1)), (q_outputs, (A 8, cI Y 6 o1)), (q_tabled, (A 9, cI Y 6 t1)), (q_sign, (A 10, cI Y 240 s1)), (q_left, (A 11, cI Y 240 l1)), (q_right, (A 12, cI Y 240 r1)), (q_tableOf, (A 13, cI Y 240 n1)), (q_outputOf, (A 14, cI Y 48 p1))]) := by
    intro hn1 i hi
    refine x_up (fun i => ∀ (Q : oQ) (p : Nat) (wr1 ap : Int32) (i1 g1 o1 t1 s1 l1 r1 n1 p1 : Nat → Int32) (hw : wr1 = -1) (G_ : gE ci (pcN tp sz) (pcQ tp sz sgA lfA rtA tnA) i1 g1 t1 s1 l1 r1 n1) (fr : kpM ci iA gA oA tA sA lA rA nA pA i1 g1 o1 t1 s1 l1 r1 n1 p1) (R : oR tp sz (pcN tp sz + (pcQ tp sz sgA lfA rtA tnA).2.2.1) ci i Q ((pcQ tp sz sgA lfA rtA tnA).1, (pcQ tp sz sgA lfA rtA tnA).2.1, 0, ouA) p ap o1 p1), X G Y 0 0 139 [(0, .ref o0), (1, .int (nI ci)), (2, .int ap)] [] (ovl w [(qm, (o0, cO 8 (mo A (nI 0) su (nI 0) bl (nI ci) (nI ma) (nI p) (nI sz) wr1))), (q_tape, (A 0, cI Y 4000 (iF tq))), (q_inputs, (A 6, cI Y 6 i1)), (q_gates, (A 7, cI Y 6 g1)), (q_outputs, (A 8, cI Y 6 o1)), (q_tabled, (A 9, cI Y 6 t1)), (q_sign, (A 10, cI Y 240 s1)), (q_left, (A 11, cI Y 240 l1)), (q_right, (A 12, cI Y 240 r1)), (q_tableOf, (A 13, cI Y 240 n1)), (q_outputOf, (A 14, cI Y 48 p1))])) 8 ?_ ?_ i hi
    · intro Q p wr1 ap i1 g1 o1 t1 s1 l1 r1 n1 p1 hw G_ fr R
      subst hw
      have h9 := skB_spec tp sz Q.1
      have hb := R.b
      have hpp := R.hp
      have g4 := G_.g4
      have h8 := ndg_spec tp sz p
      have h7 := skB_spec tp sz (p + ndg tp sz p)
      refine x_run C 78 1 (pc' := 140) (lv' := [(0, .ref o0), (1, .int (nI ci)), (2, .int ap)]) (st' := [.ref o0]) rfl ?_
      refine x_get C 79 rfl fX8_159 N 0 rfl (v := .int (-1)) rfl ?_
      refine x_if_ge C 80 rfl (tgt := 260) rfl (fun hc6 => ?_) (fun hc6 => ?_)
      · exact absurd hc6 neg1
      · refine x_run C 81 1 (pc' := 147) (lv' := [(0, .ref o0), (1, .int (nI ci)), (2, .int ap)]) (st' := [.ref o0]) rfl ?_
        refine x_get C 82 rfl fX8_162 N 0 rfl (v := .int (nI p)) rfl ?_
        refine x_run C 83 1 (pc' := 151) (lv' := [(0, .ref o0), (1, .int (nI ci)), (2, .int ap)]) (st' := [.ref o0, .int (nI p)]) rfl ?_
        refine x_get C 84 rfl fX8_165 N 0 rfl (v := .int (nI sz)) rfl ?_
        refine x_icmpN_lt C 85 (by omega) (by omega) rfl (tgt := 166) rfl (fun hc7 => ?_) (fun hc7 => ?_)
        · refine x_run C 91 1 (pc' := 167) (lv' := [(0, .ref o0), (1, .int (nI ci)), (2, .int ap)]) (st' := [.ref o0]) rfl ?_
          refine x_get C 92 rfl fX8_34 N 0 rfl (v := .ref (A 8)) rfl ?_
          refine x_run C 93 1 (pc' := 171) (lv' := [(0, .ref o0), (1, .int (nI ci)), (2, .int ap)]) (st' := [.int (nI ci), .ref (A 8)]) rfl ?_
          refine x_ialdN C 94 rfl N 4 rfl (by omega) (by omega) ?_
          refine x_st (st' := [.int (nI 8)]) (by rw [R.o]) ?_
          refine x_run C 95 1 (pc' := 174) (lv' := [(0, .ref o0), (1, .int (nI ci)), (2, .int ap)]) (st' := [.int 8, .int (nI 8)]) rfl ?_
          refine x_st (st' := [.int (nI 8), .int (nI 8)]) (by simp only [nlit, nI_add, pk_mul]) ?_
          refine x_icmpN_eq C 96 (by omega) (by omega) rfl (tgt := 181) rfl (fun hc8 => ?_) (fun hc8 => ?_)
          · refine x_run C 99 2 (pc' := 183) (lv' := [(0, .ref o0), (1, .int (nI ci)), (2, .int ap)]) (st' := [.ref o0, .ref o0]) rfl ?_
            refine x_get C 101 rfl fX8_162 N 0 rfl (v := .int (nI p)) rfl ?_
            refine x_cv C 102 (As := [.int (nI p)]) (rest := []) rfl vX8_175 N 0 rfl rfl (c_X8_fault Y _ o0 A (nI 0) su 0 bl ci ma (nI p) (nI sz) (-1) (nI p) qm (ovl_at 0 N rfl) (N.ov [0] (by decide) rfl) ) rfl rfl (Nat.le_of_ble_eq_true rfl) ⟨Nat.le_of_ble_eq_true rfl, Nat.le_of_ble_eq_true rfl⟩ ⟨Nat.zero_le _, Nat.zero_le _⟩ [0] ⟨rfl, trivial⟩ (os' := [(qm, (o0, cO 8 (mo A (nI 0) su (nI 0) bl (nI ci) (nI ma) (nI p) (nI sz) (flt (-1) (nI p))))), (q_tape, (A 0, cI Y 4000 (iF tq))), (q_inputs, (A 6, cI Y 6 i1)), (q_gates, (A 7, cI Y 6 g1)), (q_outputs, (A 8, cI Y 6 o1)), (q_tabled, (A 9, cI Y 6 t1)), (q_sign, (A 10, cI Y 240 s1)), (q_left, (A 11, cI Y 240 l1)), (q_right, (A 12, cI Y 240 r1)), (q_tableOf, (A 13, cI Y 240 n1)), (q_outputOf, (A 14, cI Y 48 p1))]) rfl (st' := []) rfl ?_
            refine x_run C 103 1 (pc' := 139) (lv' := [(0, .ref o0), (1, .int (nI ci)), (2, .int ap)]) (st' := []) rfl ?_
            have q : (pcO tp sz sgA lfA rtA tnA ouA).2.1 = nI p := by unfold pcO; exact oR_F ht he R (by omega) (by omega) (Or.inl rfl)
            exact J139f _ _ _ _ _ _ _ _ _ _ _ _ (by rw [flt_n]; exact nI_nn (by omega)) (by rw [flt_n]; exact q) fr
          · exact absurd (by omega) hc8
        · refine x_run C 86 1 (pc' := 158) (lv' := [(0, .ref o0), (1, .int (nI ci)), (2, .int ap)]) (st' := [.ref o0]) rfl ?_
          refine x_get C 87 rfl fX8_34 N 0 rfl (v := .ref (A 8)) rfl ?_
          refine x_run C 88 1 (pc' := 162) (lv' := [(0, .ref o0), (1, .int (nI ci)), (2, .int ap)]) (st' := [.int (nI ci), .ref (A 8)]) rfl ?_
          refine x_ialdN C 89 rfl N 4 rfl (by omega) (by omega) ?_
          refine x_st (st' := [.int (nI 8)]) (by rw [R.o]) ?_
          refine x_ifN_ne C 90 (by omega) rfl (tgt := 260) rfl (fun hc9 => ?_) (fun hc9 => ?_)
          · exact J260 _ _ _ _ _ _ _ _ _ _ _ _ rfl (cOK_of ht G_ R (by omega) (by omega) (by omega)) fr
          · exact absurd hc9 (by omega)
    · intro i hi8 ih; intro Q p wr1 ap i1 g1 o1 t1 s1 l1 r1 n1 p1 hw G_ fr R
      subst hw
      have h9 := skB_spec tp sz Q.1
      have hb := R.b
      have hpp := R.hp
      have g4 := G_.g4
      have h8 := ndg_spec tp sz p
      have h7 := skB_spec tp sz (p + ndg tp sz p)
      refine x_run C 78 1 (pc' := 140) (lv' := [(0, .ref o0), (1, .int (nI ci)), (2, .int ap)]) (st' := [.ref o0]) rfl ?_
      refine x_get C 79 rfl fX8_159 N 0 rfl (v := .int (-1)) rfl ?_
      refine x_if_ge C 80 rfl (tgt := 260) rfl (fun hc10 => ?_) (fun hc10 => ?_)
      · exact absurd hc10 neg1
      · refine x_run C 81 1 (pc' := 147) (lv' := [(0, .ref o0), (1, .int (nI ci)), (2, .int ap)]) (st' := [.ref o0]) rfl ?_
        refine x_get C 82 rfl fX8_162 N 0 rfl (v := .int (nI p)) rfl ?_
        refine x_run C 83 1 (pc' := 151) (lv' := [(0, .ref o0), (1, .int (nI ci)), (2, .int ap)]) (st' := [.ref o0, .int (nI p)]) rfl ?_
        refine x_get C 84 rfl fX8_165 N 0 rfl (v := .int (nI sz)) rfl ?_
        refine x_icmpN_lt C 85 (by omega) (by omega) rfl (tgt := 166) rfl (fun hc11 => ?_) (fun hc11 => ?_)
        · refine x_run C 91 1 (pc' := 167) (lv' := [(0, .ref o0), (1, .int (nI ci)), (2, .int ap)]) (st' := [.ref o0]) rfl ?_
          refine x_get C 92 rfl fX8_34 N 0 rfl (v := .ref (A 8)) rfl ?_
          refine x_run C 93 1 (pc' := 171) (lv' := [(0, .ref o0), (1, .int (nI ci)), (2, .int ap)]) (st' := [.int (nI ci), .ref (A 8)]) rfl ?_
          refine x_ialdN C 94 rfl N 4 rfl (by omega) (by omega) ?_
          refine x_st (st' := [.int (nI i)]) (by rw [R.o]) ?_
          refine x_run C 95 1 (pc' := 174) (lv' := [(0, .ref o0), (1, .int (nI ci)), (2, .int ap)]) (st' := [.int 8, .int (nI i)]) rfl ?_
          refine x_st (st' := [.int (nI 8), .int (nI i)]) (by simp only [nlit, nI_add, pk_mul]) ?_
          refine x_icmpN_eq C 96 (by omega) (by omega) rfl (tgt := 181) rfl (fun hc12 => ?_) (fun hc12 => ?_)
          · exact absurd hc12 (by omega)
          · refine x_run C 97 1 (pc' := 178) (lv' := [(0, .ref o0), (1, .int (nI ci)), (2, .int ap)]) (st' := [.int ap]) rfl ?_
            refine x_if_ne C 98 rfl (tgt := 192) rfl (fun hc13 => ?_) (fun hc13 => ?_)
            · refine x_run C 104 1 (pc' := 193) (lv' := [(0, .ref o0), (1, .int (nI ci)), (2, .int ap)]) (st' := [.ref o0]) rfl ?_
              refine x_get C 105 rfl fX8_52 N 0 rfl (v := .ref (A 14)) rfl ?_
              refine x_run C 106 4 (pc' := 201) (lv' := [(0, .ref o0), (1, .int (nI ci)), (2, .int ap)]) (st' := [.ref o0, .int (8 * (nI ci)), .ref (A 14)]) rfl ?_
              refine x_get C 110 rfl fX8_34 N 0 rfl (v := .ref (A 8)) rfl ?_
              refine x_run C 111 1 (pc' := 205) (lv' := [(0, .ref o0), (1, .int (nI ci)), (2, .int ap)]) (st' := [.int (nI ci), .ref (A 8), .int (8 * (nI ci)), .ref (A 14)]) rfl ?_
              refine x_ialdN C 112 rfl N 4 rfl (by omega) (by omega) ?_
              refine x_st (st' := [.int (nI i), .int (8 * (nI ci)), .ref (A 14)]) (by rw [R.o]) ?_
              refine x_run C 113 4 (pc' := 210) (lv' := [(0, .ref o0), (1, .int (nI ci)), (2, .int ap)]) (st' := [.ref o0, .int 0, .ref o0, .int ((8 * (nI ci)) + (nI i)), .ref (A 14)]) rfl ?_
              refine x_get C 117 rfl fX8_28 N 0 rfl (v := .ref (A 6)) rfl ?_
              refine x_run C 118 1 (pc' := 214) (lv' := [(0, .ref o0), (1, .int (nI ci)), (2, .int ap)]) (st' := [.int (nI ci), .ref (A 6), .int 0, .ref o0, .int ((8 * (nI ci)) + (nI i)), .ref (A 14)]) rfl ?_
              refine x_ialdN C 119 rfl N 2 rfl (by omega) (by omega) ?_
              refine x_st (st' := [.int (nI (pcN tp sz)), .int 0, .ref o0, .int ((8 * (nI ci)) + (nI i)), .ref (A 14)]) (by rw [G_.hn]) ?_
              refine x_run C 120 1 (pc' := 216) (lv' := [(0, .ref o0), (1, .int (nI ci)), (2, .int ap)]) (st' := [.ref o0, .int (nI (pcN tp sz)), .int 0, .ref o0, .int ((8 * (nI ci)) + (nI i)), .ref (A 14)]) rfl ?_
              refine x_get C 121 rfl fX8_31 N 0 rfl (v := .ref (A 7)) rfl ?_
              refine x_run C 122 1 (pc' := 220) (lv' := [(0, .ref o0), (1, .int (nI ci)), (2, .int ap)]) (st' := [.int (nI ci), .ref (A 7), .int (nI (pcN tp sz)), .int 0, .ref o0, .int ((8 * (nI ci)) + (nI i)), .ref (A 14)]) rfl ?_
              refine x_ialdN C 123 rfl N 3 rfl (by omega) (by omega) ?_
              refine x_st (st' := [.int (nI (pcQ tp sz sgA lfA rtA tnA).2.2.1), .int (nI (pcN tp sz)), .int 0, .ref o0, .int ((8 * (nI ci)) + (nI i)), .ref (A 14)]) (by rw [G_.hg]) ?_
              refine x_run C 124 3 (pc' := 224) (lv' := [(0, .ref o0), (1, .int (nI ci)), (2, .int ap)]) (st' := [.int (((nI (pcN tp sz)) + (nI (pcQ tp sz sgA lfA rtA tnA).2.2.1)) - 1), .int 0, .ref o0, .int ((8 * (nI ci)) + (nI i)), .ref (A 14)]) rfl ?_
              refine x_st (st' := [.int (nI (((pcN tp sz) + (pcQ tp sz sgA lfA rtA tnA).2.2.1) - 1)), .int 0, .ref o0, .int ((8 * (nI ci)) + (nI i)), .ref (A 14)]) (by simp only [nlit, nI_add, pk_mul, pk_sub (show 1 ≤ ((pcN tp sz) + (pcQ tp sz sgA lfA rtA tnA).2.2.1) by omega)]) ?_
              refine x_cv C 127 (As := [.int 0, .int (nI (((pcN tp sz) + (pcQ tp sz sgA lfA rtA tnA).2.2.1) - 1))]) (rest := [.int ((8 * (nI ci)) + (nI i)), .ref (A 14)]) rfl vX8_184 N 0 rfl rfl (c_X8_number Y _ o0 A (nI 0) su 0 bl ci ma p sz (-1) tq tp 0 (nI (((pcN tp sz) + (pcQ tp sz sgA lfA rtA tnA).2.2.1) - 1)) qm q_tape (ovl_at 0 N rfl) (ovl_at 1 N rfl) (N.ov [0, 1] (by decide) rfl) he (by omega) hT ht) rfl rfl (Nat.le_of_ble_eq_true rfl) ⟨Nat.le_of_ble_eq_true rfl, Nat.le_of_ble_eq_true rfl⟩ ⟨Nat.zero_le _, Nat.zero_le _⟩ [0, 1] ⟨rfl, rfl, trivial⟩ (os' := [(qm, (o0, cO 8 (mo A (nI 0) su (nI 0) bl (nI ci) (nI ma) (nI (p + (ndg tp sz p))) (nI sz) (mnW tp sz 0 (nI (((pcN tp sz) + (pcQ tp sz sgA lfA rtA tnA).2.2.1) - 1)) p (-1))))), (q_tape, (A 0, cI Y 4000 (iF tq))), (q_inputs, (A 6, cI Y 6 i1)), (q_gates, (A 7, cI Y 6 g1)), (q_outputs, (A 8, cI Y 6 o1)), (q_tabled, (A 9, cI Y 6 t1)), (q_sign, (A 10, cI Y 240 s1)), (q_left, (A 11, cI Y 240 l1)), (q_right, (A 12, cI Y 240 r1)), (q_tableOf, (A 13, cI Y 240 n1)), (q_outputOf, (A 14, cI Y 48 p1))]) rfl (st' := [.int (dvI tp sz p (ndg tp sz p)), .int ((8 * (nI ci)) + (nI i)), .ref (A 14)]) rfl ?_
              refine x_st (st' := [.int (dvI tp sz p (ndg tp sz p)), .int (nI ((8 * ci) + i)), .ref (A 14)]) (by simp only [nlit, nI_add, pk_mul]) ?_
              refine x_iastN C 128 rfl N 10 rfl (by omega) (by omega) (os' := [(qm, (o0, cO 8 (mo A (nI 0) su (nI 0) bl (nI ci) (nI ma) (nI (p + (ndg tp sz p))) (nI sz) (mnW tp sz 0 (nI (((pcN tp sz) + (pcQ tp sz sgA lfA rtA tnA).2.2.1) - 1)) p (-1))))), (q_tape, (A 0, cI Y 4000 (iF tq))), (q_inputs, (A 6, cI Y 6 i1)), (q_gates, (A 7, cI Y 6 g1)), (q_outputs, (A 8, cI Y 6 o1)), (q_tabled, (A 9, cI Y 6 t1)), (q_sign, (A 10, cI Y 240 s1)), (q_left, (A 11, cI Y 240 l1)), (q_right, (A 12, cI Y 240 r1)), (q_tableOf, (A 13, cI Y 240 n1)), (q_outputOf, (A 14, cI Y 48 (upd p1 ((8 * ci) + i) (dvI tp sz p (ndg tp sz p)))))]) rfl ?_
              refine x_run C 129 1 (pc' := 229) (lv' := [(0, .ref o0), (1, .int (nI ci)), (2, .int ap)]) (st' := [.ref o0]) rfl ?_
              refine x_get C 130 rfl fX8_34 N 0 rfl (v := .ref (A 8)) rfl ?_
              refine x_run C 131 2 (pc' := 234) (lv' := [(0, .ref o0), (1, .int (nI ci)), (2, .int ap)]) (st' := [.int (nI ci), .ref (A 8), .int (nI ci), .ref (A 8)]) rfl ?_
              refine x_ialdN C 133 rfl N 4 rfl (by omega) (by omega) ?_
              refine x_st (st' := [.int (nI i), .int (nI ci), .ref (A 8)]) (by rw [R.o]) ?_
              refine x_run C 134 2 (pc' := 237) (lv' := [(0, .ref o0), (1, .int (nI ci)), (2, .int ap)]) (st' := [.int ((nI i) + 1), .int (nI ci), .ref (A 8)]) rfl ?_
              refine x_iastN C 136 rfl N 4 rfl (by omega) (by omega) (os' := [(qm, (o0, cO 8 (mo A (nI 0) su (nI 0) bl (nI ci) (nI ma) (nI (p + (ndg tp sz p))) (nI sz) (mnW tp sz 0 (nI (((pcN tp sz) + (pcQ tp sz sgA lfA rtA tnA).2.2.1) - 1)) p (-1))))), (q_tape, (A 0, cI Y 4000 (iF tq))), (q_inputs, (A 6, cI Y 6 i1)), (q_gates, (A 7, cI Y 6 g1)), (q_outputs, (A 8, cI Y 6 (upd o1 ci ((nI i) + 1)))), (q_tabled, (A 9, cI Y 6 t1)), (q_sign, (A 10, cI Y 240 s1)), (q_left, (A 11, cI Y 240 l1)), (q_right, (A 12, cI Y 240 r1)), (q_tableOf, (A 13, cI Y 240 n1)), (q_outputOf, (A 14, cI Y 48 (upd p1 ((8 * ci) + i) (dvI tp sz p (ndg tp sz p)))))]) rfl ?_
              refine x_run C 137 1 (pc' := 239) (lv' := [(0, .ref o0), (1, .int (nI ci)), (2, .int ap)]) (st' := [.ref o0]) rfl ?_
              refine x_cv C 138 (As := []) (rest := []) rfl vX8_168 N 0 rfl rfl (c_X8_byteAt Y _ o0 A (nI 0) su 0 bl ci ma (p + (ndg tp sz p)) sz (mnW tp sz 0 (nI (((pcN tp sz) + (pcQ tp sz sgA lfA rtA tnA).2.2.1) - 1)) p (-1)) tq tp qm q_tape (ovl_at 0 N rfl) (ovl_at 1 N rfl) (N.ov [0, 1] (by decide) rfl) he (by omega) hT ht) rfl rfl (Nat.le_of_ble_eq_true rfl) ⟨Nat.le_of_ble_eq_true rfl, Nat.le_of_ble_eq_true rfl⟩ ⟨Nat.zero_le _, Nat.zero_le _⟩ [0, 1] ⟨rfl, rfl, trivial⟩ (os' := [(qm, (o0, cO 8 (mo A (nI 0) su (nI 0) bl (nI ci) (nI ma) (nI (p + (ndg tp sz p))) (nI sz) (mnW tp sz 0 (nI (((pcN tp sz) + (pcQ tp sz sgA lfA rtA tnA).2.2.1) - 1)) p (-1))))), (q_tape, (A 0, cI Y 4000 (iF tq))), (q_inputs, (A 6, cI Y 6 i1)), (q_gates, (A 7, cI Y 6 g1)), (q_outputs, (A 8, cI Y 6 (upd o1 ci ((nI i) + 1)))), (q_tabled, (A 9, cI Y 6 t1)), (q_sign, (A 10, cI Y 240 s1)), (q_left, (A 11, cI Y 240 l1)), (q_right, (A 12, cI Y 240 r1)), (q_tableOf, (A 13, cI Y 240 n1)), (q_outputOf, (A 14, cI Y 48 (upd p1 ((8 * ci) + i) (dvI tp sz p (ndg tp sz p)))))]) rfl (st' := [.int (lkC tp sz (p + (ndg tp sz p)))]) rfl ?_
              refine x_run C 139 1 (pc' := 244) (lv' := [(0, .ref o0), (1, .int (nI ci)), (2, .int ap)]) (st' := [.int 32, .int (lkC tp sz (p + (ndg tp sz p)))]) rfl ?_
              refine x_icmp_ne C 140 rfl (tgt := 251) rfl (fun hc14 => ?_) (fun hc14 => ?_)
              · refine x_run C 143 3 (pc' := 254) (lv' := [(2, .int 0), (0, .ref o0), (1, .int (nI ci))]) (st' := [.ref o0]) rfl ?_
                refine x_cv C 146 (As := []) (rest := []) rfl vX8_178 N 0 rfl rfl (c_X8_blanks Y _ o0 A (nI 0) su 0 bl ci ma (p + (ndg tp sz p)) sz (mnW tp sz 0 (nI (((pcN tp sz) + (pcQ tp sz sgA lfA rtA tnA).2.2.1) - 1)) p (-1)) tq tp qm q_tape (ovl_at 0 N rfl) (ovl_at 1 N rfl) (N.ov [0, 1] (by decide) rfl) he (by omega) hT ht) rfl rfl (Nat.le_of_ble_eq_true rfl) ⟨Nat.le_of_ble_eq_true rfl, Nat.le_of_ble_eq_true rfl⟩ ⟨Nat.zero_le _, Nat.zero_le _⟩ [0, 1] ⟨rfl, rfl, trivial⟩ (os' := [(qm, (o0, cO 8 (mo A (nI 0) su (nI 0) bl (nI ci) (nI ma) (nI (skB tp sz (p + (ndg tp sz p)))) (nI sz) (mnW tp sz 0 (nI (((pcN tp sz) + (pcQ tp sz sgA lfA rtA tnA).2.2.1) - 1)) p (-1))))), (q_tape, (A 0, cI Y 4000 (iF tq))), (q_inputs, (A 6, cI Y 6 i1)), (q_gates, (A 7, cI Y 6 g1)), (q_outputs, (A 8, cI Y 6 (upd o1 ci ((nI i) + 1)))), (q_tabled, (A 9, cI Y 6 t1)), (q_sign, (A 10, cI Y 240 s1)), (q_left, (A 11, cI Y 240 l1)), (q_right, (A 12, cI Y 240 r1)), (q_tableOf, (A 13, cI Y 240 n1)), (q_outputOf, (A 14, cI Y 48 (upd p1 ((8 * ci) + i) (dvI tp sz p (ndg tp sz p)))))]) rfl (st' := []) rfl ?_
                refine x_run C 147 1 (pc' := 139) (lv' := [(2, .int 0), (0, .ref o0), (1, .int (nI ci))]) (st' := []) rfl ?_
                refine x_sub (lv' := [(0, .ref o0), (1, .int (nI ci)), (2, .int 0)]) [1, 2, 0] rfl ?_
                rcases oR_s ht he R (by omega) (by omega) with ⟨a, q⟩ | ⟨a, d, q⟩ | ⟨a, q⟩
                · exact J139f _ _ _ _ _ _ _ _ _ _ _ _ a (by unfold pcO; exact q) (kpM_o fr _ _ _)
                · have st := skB_stay (dgt_32 d)
                  have lt : p + ndg tp sz p < sz := Classical.byContradiction (fun z => dgt_n1 d ((lk_n1 ht).mpr z))
                  exact J139p _ _ _ _ _ _ _ _ _ _ _ a (by rw [st]; exact lt) (by rw [st]; unfold pcO; exact q) (kpM_o fr _ _ _)
                · have z := q _ rfl
                  rw [if_neg hc14] at z
                  rw [show nI (i + 1) = nI i + 1 from (nI_add i 1).symm] at z
                  exact ih _ _ _ _ _ _ _ _ _ _ _ _ _ a G_ (kpM_o fr _ _ _) z
              · refine x_run C 141 2 (pc' := 252) (lv' := [(0, .ref o0), (1, .int (nI ci)), (2, .int ap)]) (st' := [.int 1]) rfl ?_
                refine x_run C 144 2 (pc' := 254) (lv' := [(2, .int 1), (0, .ref o0), (1, .int (nI ci))]) (st' := [.ref o0]) rfl ?_
                refine x_cv C 146 (As := []) (rest := []) rfl vX8_178 N 0 rfl rfl (c_X8_blanks Y _ o0 A (nI 0) su 0 bl ci ma (p + (ndg tp sz p)) sz (mnW tp sz 0 (nI (((pcN tp sz) + (pcQ tp sz sgA lfA rtA tnA).2.2.1) - 1)) p (-1)) tq tp qm q_tape (ovl_at 0 N rfl) (ovl_at 1 N rfl) (N.ov [0, 1] (by decide) rfl) he (by omega) hT ht) rfl rfl (Nat.le_of_ble_eq_true rfl) ⟨Nat.le_of_ble_eq_true rfl, Nat.le_of_ble_eq_true rfl⟩ ⟨Nat.zero_le _, Nat.zero_le _⟩ [0, 1] ⟨rfl, rfl, trivial⟩ (os' := [(qm, (o0, cO 8 (mo A (nI 0) su (nI 0) bl (nI ci) (nI ma) (nI (skB tp sz (p + (ndg tp sz p)))) (nI sz) (mnW tp sz 0 (nI (((pcN tp sz) + (pcQ tp sz sgA lfA rtA tnA).2.2.1) - 1)) p (-1))))), (q_tape, (A 0, cI Y 4000 (iF tq))), (q_inputs, (A 6, cI Y 6 i1)), (q_gates, (A 7, cI Y 6 g1)), (q_outputs, (A 8, cI Y 6 (upd o1 ci ((nI i) + 1)))), (q_tabled, (A 9, cI Y 6 t1)), (q_sign, (A 10, cI Y 240 s1)), (q_left, (A 11, cI Y 240 l1)), (q_right, (A 12, cI Y 240 r1)), (q_tableOf, (A 13, cI Y 240 n1)), (q_outputOf, (A 14, cI Y 48 (upd p1 ((8 * ci) + i) (dvI tp sz p (ndg tp sz p)))))]) rfl (st' := []) rfl ?_
                refine x_run C 147 1 (pc' := 139) (lv' := [(2, .int 1), (0, .ref o0), (1, .int (nI ci))]) (st' := []) rfl ?_
                refine x_sub (lv' := [(0, .ref o0), (1, .int (nI ci)), (2, .int 1)]) [1, 2, 0] rfl ?_
                rcases oR_s ht he R (by omega) (by omega) with ⟨a, q⟩ | ⟨a, d, q⟩ | ⟨a, q⟩
                · exact J139f _ _ _ _ _ _ _ _ _ _ _ _ a (by unfold pcO; exact q) (kpM_o fr _ _ _)
                · exact absurd hc14 (dgt_32 d)
                · have z := q _ rfl
                  rw [if_pos hc14] at z
                  rw [show nI (i + 1) = nI i + 1 from (nI_add i 1).symm] at z
                  exact ih _ _ _ _ _ _ _ _ _ _ _ _ _ a G_ (kpM_o fr _ _ _) z
            · refine x_run C 99 2 (pc' := 183) (lv' := [(0, .ref o0), (1, .int (nI ci)), (2, .int ap)]) (st' := [.ref o0, .ref o0]) rfl ?_
              refine x_get C 101 rfl fX8_162 N 0 rfl (v := .int (nI p)) rfl ?_
              refine x_cv C 102 (As := [.int (nI p)]) (rest := []) rfl vX8_175 N 0 rfl rfl (c_X8_fault Y _ o0 A (nI 0) su 0 bl ci ma (nI p) (nI sz) (-1) (nI p) qm (ovl_at 0 N rfl) (N.ov [0] (by decide) rfl) ) rfl rfl (Nat.le_of_ble_eq_true rfl) ⟨Nat.le_of_ble_eq_true rfl, Nat.le_of_ble_eq_true rfl⟩ ⟨Nat.zero_le _, Nat.zero_le _⟩ [0] ⟨rfl, trivial⟩ (os' := [(qm, (o0, cO 8 (mo A (nI 0) su (nI 0) bl (nI ci) (nI ma) (nI p) (nI sz) (flt (-1) (nI p))))), (q_tape, (A 0, cI Y 4000 (iF tq))), (q_inputs, (A 6, cI Y 6 i1)), (q_gates, (A 7, cI Y 6 g1)), (q_outputs, (A 8, cI Y 6 o1)), (q_tabled, (A 9, cI Y 6 t1)), (q_sign, (A 10, cI Y 240 s1)), (q_left, (A 11, cI Y 240 l1)), (q_right, (A 12, cI Y 240 r1)), (q_tableOf, (A 13, cI Y 240 n1)), (q_outputOf, (A 14, cI Y 48 p1))]) rfl (st' := []) rfl ?_
              refine x_run C 103 1 (pc' := 139) (lv' := [(0, .ref o0), (1, .int (nI ci)), (2, .int ap)]) (st' := []) rfl ?_
              have q : (pcO tp sz sgA lfA rtA tnA ouA).2.1 = nI p := by unfold pcO; exact oR_F ht he R (by omega) (by omega) (Or.inr (by assumption))
              exact J139f _ _ _ _ _ _ _ _ _ _ _ _ (by rw [flt_n]; exact nI_nn (by omega)) (by rw [flt_n]; exact q) fr
        · refine x_run C 86 1 (pc' := 158) (lv' := [(0, .ref o0), (1, .int (nI ci)), (2, .int ap)]) (st' := [.ref o0]) rfl ?_
          refine x_get C 87 rfl fX8_34 N 0 rfl (v := .ref (A 8)) rfl ?_
          refine x_run C 88 1 (pc' := 162) (lv' := [(0, .ref o0), (1, .int (nI ci)), (2, .int ap)]) (st' := [.int (nI ci), .ref (A 8)]) rfl ?_
          refine x_ialdN C 89 rfl N 4 rfl (by omega) (by omega) ?_
          refine x_st (st' := [.int (nI i)]) (by rw [R.o]) ?_
          refine x_ifN_ne C 90 (by omega) rfl (tgt := 260) rfl (fun hc15 => ?_) (fun hc15 => ?_)
          · exact J260 _ _ _ _ _ _ _ _ _ _ _ _ rfl (cOK_of ht G_ R (by omega) (by omega) (by omega)) fr
          · refine x_run C 91 1 (pc' := 167) (lv' := [(0, .ref o0), (1, .int (nI ci)), (2, .int ap)]) (st' := [.ref o0]) rfl ?_
            refine x_get C 92 rfl fX8_34 N 0 rfl (v := .ref (A 8)) rfl ?_
            refine x_run C 93 1 (pc' := 171) (lv' := [(0, .ref o0), (1, .int (nI ci)), (2, .int ap)]) (st' := [.int (nI ci), .ref (A 8)]) rfl ?_
            refine x_ialdN C 94 rfl N 4 rfl (by omega) (by omega) ?_
            refine x_st (st' := [.int (nI i)]) (by rw [R.o]) ?_
            refine x_run C 95 1 (pc' := 174) (lv' := [(0, .ref o0), (1, .int (nI ci)), (2, .int ap)]) (st' := [.int 8, .int (nI i)]) rfl ?_
            refine x_st (st' := [.int (nI 8), .int (nI i)]) (by simp only [nlit, nI_add, pk_mul]) ?_
            refine x_icmpN_eq C 96 (by omega) (by omega) rfl (tgt := 181) rfl (fun hc16 => ?_) (fun hc16 => ?_)
            · exact absurd hc16 (by omega)
            · refine x_run C 97 1 (pc' := 178) (lv' := [(0, .ref o0), (1, .int (nI ci)), (2, .int ap)]) (st' := [.int ap]) rfl ?_
              refine x_if_ne C 98 rfl (tgt := 192) rfl (fun hc17 => ?_) (fun hc17 => ?_)
              · refine x_run C 104 1 (pc' := 193) (lv' := [(0, .ref o0), (1, .int (nI ci)), (2, .int ap)]) (st' := [.ref o0]) rfl ?_
                refine x_get C 105 rfl fX8_52 N 0 rfl (v := .ref (A 14)) rfl ?_
                refine x_run C 106 4 (pc' := 201) (lv' := [(0, .ref o0), (1, .int (nI ci)), (2, .int ap)]) (st' := [.ref o0, .int (8 * (nI ci)), .ref (A 14)]) rfl ?_
                refine x_get C 110 rfl fX8_34 N 0 rfl (v := .ref (A 8)) rfl ?_
                refine x_run C 111 1 (pc' := 205) (lv' := [(0, .ref o0), (1, .int (nI ci)), (2, .int ap)]) (st' := [.int (nI ci), .ref (A 8), .int (8 * (nI ci)), .ref (A 14)]) rfl ?_
                refine x_ialdN C 112 rfl N 4 rfl (by omega) (by omega) ?_
                refine x_st (st' := [.int (nI i), .int (8 * (nI ci)), .ref (A 14)]) (by rw [R.o]) ?_
                refine x_run C 113 4 (pc' := 210) (lv' := [(0, .ref o0), (1, .int (nI ci)), (2, .int ap)]) (st' := [.ref o0, .int 0, .ref o0, .int ((8 * (nI ci)) + (nI i)), .ref (A 14)]) rfl ?_
                refine x_get C 117 rfl fX8_28 N 0 rfl (v := .ref (A 6)) rfl ?_
                refine x_run C 118 1 (pc' := 214) (lv' := [(0, .ref o0), (1, .int (nI ci)), (2, .int ap)]) (st' := [.int (nI ci), .ref (A 6), .int 0, .ref o0, .int ((8 * (nI ci)) + (nI i)), .ref (A 14)]) rfl ?_
                refine x_ialdN C 119 rfl N 2 rfl (by omega) (by omega) ?_
                refine x_st (st' := [.int (nI (pcN tp sz)), .int 0, .ref o0, .int ((8 * (nI ci)) + (nI i)), .ref (A 14)]) (by rw [G_.hn]) ?_
                refine x_run C 120 1 (pc' := 216) (lv' := [(0, .ref o0), (1, .int (nI ci)), (2, .int ap)]) (st' := [.ref o0, .int (nI (pcN tp sz)), .int 0, .ref o0, .int ((8 * (nI ci)) + (nI i)), .ref (A 14)]) rfl ?_
                refine x_get C 121 rfl fX8_31 N 0 rfl (v := .ref (A 7)) rfl ?_
                refine x_run C 122 1 (pc' := 220) (lv' := [(0, .ref o0), (1, .int (nI ci)), (2, .int ap)]) (st' := [.int (nI ci), .ref (A 7), .int (nI (pcN tp sz)), .int 0, .ref o0, .int ((8 * (nI ci)) + (nI i)), .ref (A 14)]) rfl ?_
                refine x_ialdN C 123 rfl N 3 rfl (by omega) (by omega) ?_
                refine x_st (st' := [.int (nI (pcQ tp sz sgA lfA rtA tnA).2.2.1), .int (nI (pcN tp sz)), .int 0, .ref o0, .int ((8 * (nI ci)) + (nI i)), .ref (A 14)]) (by rw [G_.hg]) ?_
                refine x_run C 124 3 (pc' := 224) (lv' := [(0, .ref o0), (1, .int (nI ci)), (2, .int ap)]) (st' := [.int (((nI (pcN tp sz)) + (nI (pcQ tp sz sgA lfA rtA tnA).2.2.1)) - 1), .int 0, .ref o0, .int ((8 * (nI ci)) + (nI i)), .ref (A 14)]) rfl ?_
                refine x_st (st' := [.int (nI (((pcN tp sz) + (pcQ tp sz sgA lfA rtA tnA).2.2.1) - 1)), .int 0, .ref o0, .int ((8 * (nI ci)) + (nI i)), .ref (A 14)]) (by simp only [nlit, nI_add, pk_mul, pk_sub (show 1 ≤ ((pcN tp sz) + (pcQ tp sz sgA lfA rtA tnA).2.2.1) by omega)]) ?_
                refine x_cv C 127 (As := [.int 0, .int (nI (((pcN tp sz) + (pcQ tp sz sgA lfA rtA tnA).2.2.1) - 1))]) (rest := [.int ((8 * (nI ci)) + (nI i)), .ref (A 14)]) rfl vX8_184 N 0 rfl rfl (c_X8_number Y _ o0 A (nI 0) su 0 bl ci ma p sz (-1) tq tp 0 (nI (((pcN tp sz) + (pcQ tp sz sgA lfA rtA tnA).2.2.1) - 1)) qm q_tape (ovl_at 0 N rfl) (ovl_at 1 N rfl) (N.ov [0, 1] (by decide) rfl) he (by omega) hT ht) rfl rfl (Nat.le_of_ble_eq_true rfl) ⟨Nat.le_of_ble_eq_true rfl, Nat.le_of_ble_eq_true rfl⟩ ⟨Nat.zero_le _, Nat.zero_le _⟩ [0, 1] ⟨rfl, rfl, trivial⟩ (os' := [(qm, (o0, cO 8 (mo A (nI 0) su (nI 0) bl (nI ci) (nI ma) (nI (p + (ndg tp sz p))) (nI sz) (mnW tp sz 0 (nI (((pcN tp sz) + (pcQ tp sz sgA lfA rtA tnA).2.2.1) - 1)) p (-1))))), (q_tape, (A 0, cI Y 4000 (iF tq))), (q_inputs, (A 6, cI Y 6 i1)), (q_gates, (A 7, cI Y 6 g1)), (q_outputs, (A 8, cI Y 6 o1)), (q_tabled, (A 9, cI Y 6 t1)), (q_sign, (A 10, cI Y 240 s1)), (q_left, (A 11, cI Y 240 l1)), (q_right, (A 12, cI Y 240 r1)), (q_tableOf, (A 13, cI Y 240 n1)), (q_outputOf, (A 14, cI Y 48 p1))]) rfl (st' := [.int (dvI tp sz p (ndg tp sz p)), .int ((8 * (nI ci)) + (nI i)), .ref (A 14)]) rfl ?_
                refine x_st (st' := [.int (dvI tp sz p (ndg tp sz p)), .int (nI ((8 * ci) + i)), .ref (A 14)]) (by simp only [nlit, nI_add, pk_mul]) ?_
                refine x_iastN C 128 rfl N 10 rfl (by omega) (by omega) (os' := [(qm, (o0, cO 8 (mo A (nI 0) su (nI 0) bl (nI ci) (nI ma) (nI (p + (ndg tp sz p))) (nI sz) (mnW tp sz 0 (nI (((pcN tp sz) + (pcQ tp sz sgA lfA rtA tnA).2.2.1) - 1)) p (-1))))), (q_tape, (A 0, cI Y 4000 (iF tq))), (q_inputs, (A 6, cI Y 6 i1)), (q_gates, (A 7, cI Y 6 g1)), (q_outputs, (A 8, cI Y 6 o1)), (q_tabled, (A 9, cI Y 6 t1)), (q_sign, (A 10, cI Y 240 s1)), (q_left, (A 11, cI Y 240 l1)), (q_right, (A 12, cI Y 240 r1)), (q_tableOf, (A 13, cI Y 240 n1)), (q_outputOf, (A 14, cI Y 48 (upd p1 ((8 * ci) + i) (dvI tp sz p (ndg tp sz p)))))]) rfl ?_
                refine x_run C 129 1 (pc' := 229) (lv' := [(0, .ref o0), (1, .int (nI ci)), (2, .int ap)]) (st' := [.ref o0]) rfl ?_
                refine x_get C 130 rfl fX8_34 N 0 rfl (v := .ref (A 8)) rfl ?_
                refine x_run C 131 2 (pc' := 234) (lv' := [(0, .ref o0), (1, .int (nI ci)), (2, .int ap)]) (st' := [.int (nI ci), .ref (A 8), .int (nI ci), .ref (A 8)]) rfl ?_
                refine x_ialdN C 133 rfl N 4 rfl (by omega) (by omega) ?_
                refine x_st (st' := [.int (nI i), .int (nI ci), .ref (A 8)]) (by rw [R.o]) ?_
                refine x_run C 134 2 (pc' := 237) (lv' := [(0, .ref o0), (1, .int (nI ci)), (2, .int ap)]) (st' := [.int ((nI i) + 1), .int (nI ci), .ref (A 8)]) rfl ?_
                refine x_iastN C 136 rfl N 4 rfl (by omega) (by omega) (os' := [(qm, (o0, cO 8 (mo A (nI 0) su (nI 0) bl (nI ci) (nI ma) (nI (p + (ndg tp sz p))) (nI sz) (mnW tp sz 0 (nI (((pcN tp sz) + (pcQ tp sz sgA lfA rtA tnA).2.2.1) - 1)) p (-1))))), (q_tape, (A 0, cI Y 4000 (iF tq))), (q_inputs, (A 6, cI Y 6 i1)), (q_gates, (A 7, cI Y 6 g1)), (q_outputs, (A 8, cI Y 6 (upd o1 ci ((nI i) + 1)))), (q_tabled, (A 9, cI Y 6 t1)), (q_sign, (A 10, cI Y 240 s1)), (q_left, (A 11, cI Y 240 l1)), (q_right, (A 12, cI Y 240 r1)), (q_tableOf, (A 13, cI Y 240 n1)), (q_outputOf, (A 14, cI Y 48 (upd p1 ((8 * ci) + i) (dvI tp sz p (ndg tp sz p)))))]) rfl ?_
                refine x_run C 137 1 (pc' := 239) (lv' := [(0, .ref o0), (1, .int (nI ci)), (2, .int ap)]) (st' := [.ref o0]) rfl ?_
                refine x_cv C 138 (As := []) (rest := []) rfl vX8_168 N 0 rfl rfl (c_X8_byteAt Y _ o0 A (nI 0) su 0 bl ci ma (p + (ndg tp sz p)) sz (mnW tp sz 0 (nI (((pcN tp sz) + (pcQ tp sz sgA lfA rtA tnA).2.2.1) - 1)) p (-1)) tq tp qm q_tape (ovl_at 0 N rfl) (ovl_at 1 N rfl) (N.ov [0, 1] (by decide) rfl) he (by omega) hT ht) rfl rfl (Nat.le_of_ble_eq_true rfl) ⟨Nat.le_of_ble_eq_true rfl, Nat.le_of_ble_eq_true rfl⟩ ⟨Nat.zero_le _, Nat.zero_le _⟩ [0, 1] ⟨rfl, rfl, trivial⟩ (os' := [(qm, (o0, cO 8 (mo A (nI 0) su (nI 0) bl (nI ci) (nI ma) (nI (p + (ndg tp sz p))) (nI sz) (mnW tp sz 0 (nI (((pcN tp sz) + (pcQ tp sz sgA lfA rtA tnA).2.2.1) - 1)) p (-1))))), (q_tape, (A 0, cI Y 4000 (iF tq))), (q_inputs, (A 6, cI Y 6 i1)), (q_gates, (A 7, cI Y 6 g1)), (q_outputs, (A 8, cI Y 6 (upd o1 ci ((nI i) + 1)))), (q_tabled, (A 9, cI Y 6 t1)), (q_sign, (A 10, cI Y 240 s1)), (q_left, (A 11, cI Y 240 l1)), (q_right, (A 12, cI Y 240 r1)), (q_tableOf, (A 13, cI Y 240 n1)), (q_outputOf, (A 14, cI Y 48 (upd p1 ((8 * ci) + i) (dvI tp sz p (ndg tp sz p)))))]) rfl (st' := [.int (lkC tp sz (p + (ndg tp sz p)))]) rfl ?_
                refine x_run C 139 1 (pc' := 244) (lv' := [(0, .ref o0), (1, .int (nI ci)), (2, .int ap)]) (st' := [.int 32, .int (lkC tp sz (p + (ndg tp sz p)))]) rfl ?_
                refine x_icmp_ne C 140 rfl (tgt := 251) rfl (fun hc18 => ?_) (fun hc18 => ?_)
                · refine x_run C 143 3 (pc' := 254) (lv' := [(2, .int 0), (0, .ref o0), (1, .int (nI ci))]) (st' := [.ref o0]) rfl ?_
                  refine x_cv C 146 (As := []) (rest := []) rfl vX8_178 N 0 rfl rfl (c_X8_blanks Y _ o0 A (nI 0) su 0 bl ci ma (p + (ndg tp sz p)) sz (mnW tp sz 0 (nI (((pcN tp sz) + (pcQ tp sz sgA lfA rtA tnA).2.2.1) - 1)) p (-1)) tq tp qm q_tape (ovl_at 0 N rfl) (ovl_at 1 N rfl) (N.ov [0, 1] (by decide) rfl) he (by omega) hT ht) rfl rfl (Nat.le_of_ble_eq_true rfl) ⟨Nat.le_of_ble_eq_true rfl, Nat.le_of_ble_eq_true rfl⟩ ⟨Nat.zero_le _, Nat.zero_le _⟩ [0, 1] ⟨rfl, rfl, trivial⟩ (os' := [(qm, (o0, cO 8 (mo A (nI 0) su (nI 0) bl (nI ci) (nI ma) (nI (skB tp sz (p + (ndg tp sz p)))) (nI sz) (mnW tp sz 0 (nI (((pcN tp sz) + (pcQ tp sz sgA lfA rtA tnA).2.2.1) - 1)) p (-1))))), (q_tape, (A 0, cI Y 4000 (iF tq))), (q_inputs, (A 6, cI Y 6 i1)), (q_gates, (A 7, cI Y 6 g1)), (q_outputs, (A 8, cI Y 6 (upd o1 ci ((nI i) + 1)))), (q_tabled, (A 9, cI Y 6 t1)), (q_sign, (A 10, cI Y 240 s1)), (q_left, (A 11, cI Y 240 l1)), (q_right, (A 12, cI Y 240 r1)), (q_tableOf, (A 13, cI Y 240 n1)), (q_outputOf, (A 14, cI Y 48 (upd p1 ((8 * ci) + i) (dvI tp sz p (ndg tp sz p)))))]) rfl (st' := []) rfl ?_
                  refine x_run C 147 1 (pc' := 139) (lv' := [(2, .int 0), (0, .ref o0), (1, .int (nI ci))]) (st' := []) rfl ?_
                  refine x_sub (lv' := [(0, .ref o0), (1, .int (nI ci)), (2, .int 0)]) [1, 2, 0] rfl ?_
                  rcases oR_s ht he R (by omega) (by omega) with ⟨a, q⟩ | ⟨a, d, q⟩ | ⟨a, q⟩
                  · exact J139f _ _ _ _ _ _ _ _ _ _ _ _ a (by unfold pcO; exact q) (kpM_o fr _ _ _)
                  · have st := skB_stay (dgt_32 d)
                    have lt : p + ndg tp sz p < sz := Classical.byContradiction (fun z => dgt_n1 d ((lk_n1 ht).mpr z))
                    exact J139p _ _ _ _ _ _ _ _ _ _ _ a (by rw [st]; exact lt) (by rw [st]; unfold pcO; exact q) (kpM_o fr _ _ _)
                  · have z := q _ rfl
                    rw [if_neg hc18] at z
                    rw [show nI (i + 1) = nI i + 1 from (nI_add i 1).symm] at z
                    exact ih _ _ _ _ _ _ _ _ _ _ _ _ _ a G_ (kpM_o fr _ _ _) z
                · refine x_run C 141 2 (pc' := 252) (lv' := [(0, .ref o0), (1, .int (nI ci)), (2, .int ap)]) (st' := [.int 1]) rfl ?_
                  refine x_run C 144 2 (pc' := 254) (lv' := [(2, .int 1), (0, .ref o0), (1, .int (nI ci))]) (st' := [.ref o0]) rfl ?_
                  refine x_cv C 146 (As := []) (rest := []) rfl vX8_178 N 0 rfl rfl (c_X8_blanks Y _ o0 A (nI 0) su 0 bl ci ma (p + (ndg tp sz p)) sz (mnW tp sz 0 (nI (((pcN tp sz) + (pcQ tp sz sgA lfA rtA tnA).2.2.1) - 1)) p (-1)) tq tp qm q_tape (ovl_at 0 N rfl) (ovl_at 1 N rfl) (N.ov [0, 1] (by decide) rfl) he (by omega) hT ht) rfl rfl (Nat.le_of_ble_eq_true rfl) ⟨Nat.le_of_ble_eq_true rfl, Nat.le_of_ble_eq_true rfl⟩ ⟨Nat.zero_le _, Nat.zero_le _⟩ [0, 1] ⟨rfl, rfl, trivial⟩ (os' := [(qm, (o0, cO 8 (mo A (nI 0) su (nI 0) bl (nI ci) (nI ma) (nI (skB tp sz (p + (ndg tp sz p)))) (nI sz) (mnW tp sz 0 (nI (((pcN tp sz) + (pcQ tp sz sgA lfA rtA tnA).2.2.1) - 1)) p (-1))))), (q_tape, (A 0, cI Y 4000 (iF tq))), (q_inputs, (A 6, cI Y 6 i1)), (q_gates, (A 7, cI Y 6 g1)), (q_outputs, (A 8, cI Y 6 (upd o1 ci ((nI i) + 1)))), (q_tabled, (A 9, cI Y 6 t1)), (q_sign, (A 10, cI Y 240 s1)), (q_left, (A 11, cI Y 240 l1)), (q_right, (A 12, cI Y 240 r1)), (q_tableOf, (A 13, cI Y 240 n1)), (q_outputOf, (A 14, cI Y 48 (upd p1 ((8 * ci) + i) (dvI tp sz p (ndg tp sz p)))))]) rfl (st' := []) rfl ?_
                  refine x_run C 147 1 (pc' := 139) (lv' := [(2, .int 1), (0, .ref o0), (1, .int (nI ci))]) (st' := []) rfl ?_
                  refine x_sub (lv' := [(0, .ref o0), (1, .int (nI ci)), (2, .int 1)]) [1, 2, 0] rfl ?_
                  rcases oR_s ht he R (by omega) (by omega) with ⟨a, q⟩ | ⟨a, d, q⟩ | ⟨a, q⟩
                  · exact J139f _ _ _ _ _ _ _ _ _ _ _ _ a (by unfold pcO; exact q) (kpM_o fr _ _ _)
                  · exact absurd hc18 (dgt_32 d)
                  · have z := q _ rfl
                    rw [if_pos hc18] at z
                    rw [show nI (i + 1) = nI i + 1 from (nI_add i 1).symm] at z
                    exact ih _ _ _ _ _ _ _ _ _ _ _ _ _ a G_ (kpM_o fr _ _ _) z
              · refine x_run C 99 2 (pc' := 183) (lv' := [(0, .ref o0), (1, .int (nI ci)), (2, .int ap)]) (st' := [.ref o0, .ref o0]) rfl ?_
                refine x_get C 101 rfl fX8_162 N 0 rfl (v := .int (nI p)) rfl ?_
                refine x_cv C 102 (As := [.int (nI p)]) (rest := []) rfl vX8_175 N 0 rfl rfl (c_X8_fault Y _ o0 A (nI 0) su 0 bl ci ma (nI p) (nI sz) (-1) (nI p) qm (ovl_at 0 N rfl) (N.ov [0] (by decide) rfl) ) rfl rfl (Nat.le_of_ble_eq_true rfl) ⟨Nat.le_of_ble_eq_true rfl, Nat.le_of_ble_eq_true rfl⟩ ⟨Nat.zero_le _, Nat.zero_le _⟩ [0] ⟨rfl, trivial⟩ (os' := [(qm, (o0, cO 8 (mo A (nI 0) su (nI 0) bl (nI ci) (nI ma) (nI p) (nI sz) (flt (-1) (nI p))))), (q_tape, (A 0, cI Y 4000 (iF tq))), (q_inputs, (A 6, cI Y 6 i1)), (q_gates, (A 7, cI Y 6 g1)), (q_outputs, (A 8, cI Y 6 o1)), (q_tabled, (A 9, cI Y 6 t1)), (q_sign, (A 10, cI Y 240 s1)), (q_left, (A 11, cI Y 240 l1)), (q_right, (A 12, cI Y 240 r1)), (q_tableOf, (A 13, cI Y 240 n1)), (q_outputOf, (A 14, cI Y 48 p1))]) rfl (st' := []) rfl ?_
                refine x_run C 103 1 (pc' := 139) (lv' := [(0, .ref o0), (1, .int (nI ci)), (2, .int ap)]) (st' := []) rfl ?_
                have q : (pcO tp sz sgA lfA rtA tnA ouA).2.1 = nI p := by unfold pcO; exact oR_F ht he R (by omega) (by omega) (Or.inr (by assumption))
                exact J139f _ _ _ _ _ _ _ _ _ _ _ _ (by rw [flt_n]; exact nI_nn (by omega)) (by rw [flt_n]; exact q) fr
  have J123 : ∀ (i : Nat) (Q : rQ) (p : Nat) (wr1 : Int32) (i1 g1 o1 t1 s1 l1 r1 n1 p1 : Nat → Int32) (hn1 : 1 ≤ (pcN tp sz) ∧ (pcN tp sz) ≤ 16) (hi : i ≤ 40) (hw : wr1 = -1) (R : gR tp sz (pcN tp sz) ci i Q ((pcM tp sz).1, (pcM tp sz).2, 0, 0, sgA, lfA, rtA, tnA) p i1 g1 o1 t1 s1 l1 r1 n1) (h62 : lkC tp sz p = 62) (fr : kpM ci iA gA oA tA sA lA rA nA pA i1 g1 o1 t1 s1 l1 r1 n1 p1), X G Y 0 0 123 [(0, .ref o0), (1, .int (nI ci))] [] (ovl w [(qm, (o0, cO 8 (mo A (nI 0) su (nI 0) bl (nI ci) (nI ma) (nI p) (nI sz) wr1))), (q_tape, (A 0, cI Y 4000 (iF tq))), (q_inputs, (A 6, cI Y 6 i1)), (q_gates, (A 7, cI Y 6 g1)), (q_outputs, (A 8, cI Y 6 o1)), (q_tabled, (A 9, cI Y 6 t1)), (q_sign, (A 10, cI Y 240 s1)), (q_left, (A 11, cI Y 240 l1)), (q_right, (A 12, cI Y 240 r1)), (q_tableOf, (A 13, cI Y 240 n1)), (q_outputOf, (A 14, cI Y 48 p1))]) := by
    intro i Q p wr1 i1 g1 o1 t1 s1 l1 r1 n1 p1 hn1 hi hw R h62 fr
    subst hw
    have h9 := skB_spec tp sz Q.1
    have hb := R.b
    have hpp := R.hp
    have pq : (pcQ tp sz sgA lfA rtA tnA) = (p + 1, -1, Q.2.2) := gR_E R hi h62
    have ge : gE ci (pcN tp sz) (pcQ tp sz sgA lfA rtA tnA) i1 g1 t1 s1 l1 r1 n1 := by unfold pcQ; exact gR_gE R hi h62
    refine x_run C 68 2 (pc' := 125) (lv' := [(0, .ref o0), (1, .int (nI ci))]) (st' := [.ref o0, .ref o0]) rfl ?_
    refine x_get C 70 rfl fX8_162 N 0 rfl (v := .int (nI p)) rfl ?_
    refine x_run C 71 2 (pc' := 130) (lv' := [(0, .ref o0), (1, .int (nI ci))]) (st' := [.int ((nI p) + 1), .ref o0]) rfl ?_
    refine x_st (st' := [.int (nI (p + 1)), .ref o0]) (by simp only [nlit, nI_add, pk_mul]) ?_
    refine x_put C 73 rfl pX8_162 N 0 rfl rfl rfl (Nat.le_of_ble_eq_true rfl) (os' := [(qm, (o0, cO 8 (mo A (nI 0) su (nI 0) bl (nI ci) (nI ma) (nI (p + 1)) (nI sz) (-1)))), (q_tape, (A 0, cI Y 4000 (iF tq))), (q_inputs, (A 6, cI Y 6 i1)), (q_gates, (A 7, cI Y 6 g1)), (q_outputs, (A 8, cI Y 6 o1)), (q_tabled, (A 9, cI Y 6 t1)), (q_sign, (A 10, cI Y 240 s1)), (q_left, (A 11, cI Y 240 l1)), (q_right, (A 12, cI Y 240 r1)), (q_tableOf, (A 13, cI Y 240 n1)), (q_outputOf, (A 14, cI Y 48 p1))]) rfl ?_
    refine x_run C 74 1 (pc' := 134) (lv' := [(0, .ref o0), (1, .int (nI ci))]) (st' := [.ref o0]) rfl ?_
    refine x_cv C 75 (As := []) (rest := []) rfl vX8_178 N 0 rfl rfl (c_X8_blanks Y _ o0 A (nI 0) su 0 bl ci ma (p + 1) sz (-1) tq tp qm q_tape (ovl_at 0 N rfl) (ovl_at 1 N rfl) (N.ov [0, 1] (by decide) rfl) he (by omega) hT ht) rfl rfl (Nat.le_of_ble_eq_true rfl) ⟨Nat.le_of_ble_eq_true rfl, Nat.le_of_ble_eq_true rfl⟩ ⟨Nat.zero_le _, Nat.zero_le _⟩ [0, 1] ⟨rfl, rfl, trivial⟩ (os' := [(qm, (o0, cO 8 (mo A (nI 0) su (nI 0) bl (nI ci) (nI ma) (nI (skB tp sz (p + 1))) (nI sz) (-1)))), (q_tape, (A 0, cI Y 4000 (iF tq))), (q_inputs, (A 6, cI Y 6 i1)), (q_gates, (A 7, cI Y 6 g1)), (q_outputs, (A 8, cI Y 6 o1)), (q_tabled, (A 9, cI Y 6 t1)), (q_sign, (A 10, cI Y 240 s1)), (q_left, (A 11, cI Y 240 l1)), (q_right, (A 12, cI Y 240 r1)), (q_tableOf, (A 13, cI Y 240 n1)), (q_outputOf, (A 14, cI Y 48 p1))]) rfl (st' := []) rfl ?_
    refine x_run C 76 2 (pc' := 139) (lv' := [(2, .int 1), (0, .ref o0), (1, .int (nI ci))]) (st' := []) rfl ?_
    refine x_sub (lv' := [(0, .ref o0), (1, .int (nI ci)), (2, .int 1)]) [1, 2, 0] rfl ?_
    have o0_ : oR tp sz (pcN tp sz + (pcQ tp sz sgA lfA rtA tnA).2.2.1) ci 0 ((pcQ tp sz sgA lfA rtA tnA).1, (pcQ tp sz sgA lfA rtA tnA).2.1, 0, ouA) ((pcQ tp sz sgA lfA rtA tnA).1, (pcQ tp sz sgA lfA rtA tnA).2.1, 0, ouA) (skB tp sz (p + 1)) 1 o1 p1 := oR_0 (by rw [pq]) (by rw [pq]; show p + 1 ≤ 10000; omega) (by rw [pq]) rfl R.o
    exact L139 hn1 0 (by omega) _ _ _ _ _ _ _ _ _ _ _ _ _ rfl ge fr o0_
  have L95 : (1 ≤ (pcN tp sz) ∧ (pcN tp sz) ≤ 16) → ∀ i, i ≤ 40 → ∀ (Q : rQ) (p : Nat) (wr1 : Int32) (i1 g1 o1 t1 s1 l1 r1 n1 p1 : Nat → Int32) (hw : wr1 = -1) (fr : kpM ci iA gA oA tA sA lA rA nA pA i1 g1 o1 t1 s1 l1 r1 n1 p1) (R : gR tp sz (pcN tp sz) ci i Q ((pcM tp sz).1, (pcM tp sz).2, 0, 0, sgA, lfA, rtA, tnA) p i1 g1 o1 t1 s1 l1 r1 n1), X G Y 0 0 95 [(0, .ref o0), (1, .int (nI ci))] [] (ovl w [(qm, (o0, cO 8 (mo A (nI 0) su (nI 0) bl (nI ci) (nI ma) (nI p) (nI sz) wr1))), (q_tape, (A 0, cI Y 4000 (iF tq))), (q_inputs, (A 6, cI Y 6 i1)), (q_gates, (A 7, cI Y 6 g1)), (q_outputs, (A 8, cI Y 6 o1)), (q_tabled, (A 9, cI Y 6 t1)), (q_sign, (A 10, cI Y 240 s1)), (q_left, (A 11, cI Y 240 l1)), (q_right, (A 12, cI Y 240 r1)), (q_tableOf, (A 13, cI Y 240 n1)), (q_outputOf, (A 14, cI Y 48 p1))]) := by
    intro hn1 i hi
    refine x_up (fun i => ∀ (Q : rQ) (p : Nat) (wr1 : Int32) (i1 g1 o1 t1 s1 l1 r1 n1 p1 : Nat → Int32) (hw : wr1 = -1) (fr : kpM ci iA gA oA tA sA lA rA nA pA i1 g1 o1 t1 s1 l1 r1 n1 p1) (R : gR tp sz (pcN tp sz) ci i Q ((pcM tp sz).1, (pcM tp sz).2, 0, 0, sgA, lfA, rtA, tnA) p i1 g1 o1 t1 s1 l1 r1 n1), X G Y 0 0 95 [(0, .ref o0), (1, .int (nI ci))] [] (ovl w [(qm, (o0, cO 8 (mo A (nI 0) su (nI 0) bl (nI ci) (nI ma) (nI p) (nI sz) wr1))), (q_tape, (A 0, cI Y 4000 (iF tq))), (q_inputs, (A 6, cI Y 6 i1)), (q_gates, (A 7, cI Y 6 g1)), (q_outputs, (A 8, cI Y 6 o1)), (q_tabled, (A 9, cI Y 6 t1)), (q_sign, (A 10, cI Y 240 s1)), (q_left, (A 11, cI Y 240 l1)), (q_right, (A 12, cI Y 240 r1)), (q_tableOf, (A 13, cI Y 240 n1)), (q_outputOf, (A 14, cI Y 48 p1))])) 40 ?_ ?_ i hi
    · intro Q p wr1 i1 g1 o1 t1 s1 l1 r1 n1 p1 hw fr R
      subst hw
      have h9 := skB_spec tp sz Q.1
      have hb := R.b
      have hpp := R.hp
      have tl := R.tl
      refine x_run C 55 1 (pc' := 96) (lv' := [(0, .ref o0), (1, .int (nI ci))]) (st' := [.ref o0]) rfl ?_
      refine x_get C 56 rfl fX8_159 N 0 rfl (v := .int (-1)) rfl ?_
      refine x_if_ge C 57 rfl (tgt := 123) rfl (fun hc19 => ?_) (fun hc19 => ?_)
      · exact absurd hc19 neg1
      · refine x_run C 58 1 (pc' := 103) (lv' := [(0, .ref o0), (1, .int (nI ci))]) (st' := [.ref o0]) rfl ?_
        refine x_cv C 59 (As := []) (rest := []) rfl vX8_168 N 0 rfl rfl (c_X8_byteAt Y _ o0 A (nI 0) su 0 bl ci ma p sz (-1) tq tp qm q_tape (ovl_at 0 N rfl) (ovl_at 1 N rfl) (N.ov [0, 1] (by decide) rfl) he (by omega) hT ht) rfl rfl (Nat.le_of_ble_eq_true rfl) ⟨Nat.le_of_ble_eq_true rfl, Nat.le_of_ble_eq_true rfl⟩ ⟨Nat.zero_le _, Nat.zero_le _⟩ [0, 1] ⟨rfl, rfl, trivial⟩ (os' := [(qm, (o0, cO 8 (mo A (nI 0) su (nI 0) bl (nI ci) (nI ma) (nI p) (nI sz) (-1)))), (q_tape, (A 0, cI Y 4000 (iF tq))), (q_inputs, (A 6, cI Y 6 i1)), (q_gates, (A 7, cI Y 6 g1)), (q_outputs, (A 8, cI Y 6 o1)), (q_tabled, (A 9, cI Y 6 t1)), (q_sign, (A 10, cI Y 240 s1)), (q_left, (A 11, cI Y 240 l1)), (q_right, (A 12, cI Y 240 r1)), (q_tableOf, (A 13, cI Y 240 n1)), (q_outputOf, (A 14, cI Y 48 p1))]) rfl (st' := [.int (lkC tp sz p)]) rfl ?_
        refine x_run C 60 1 (pc' := 108) (lv' := [(0, .ref o0), (1, .int (nI ci))]) (st' := [.int 62, .int (lkC tp sz p)]) rfl ?_
        refine x_icmp_eq C 61 rfl (tgt := 123) rfl (fun hc20 => ?_) (fun hc20 => ?_)
        · exact J123 40 Q p _ _ _ _ _ _ _ _ _ _ hn1 (by omega) rfl R hc20 fr
        · have hS : 40 = 40 ∨ isS (lkC tp sz p) = 0 := Or.inl rfl
          refine x_run C 62 2 (pc' := 113) (lv' := [(0, .ref o0), (1, .int (nI ci))]) (st' := [.int (nI ci), .ref o0]) rfl ?_
          refine x_cv C 64 (As := [.int (nI ci)]) (rest := []) rfl vX8_193 N 0 rfl rfl (c_X8_readGateF Y _ o0 A (nI 0) su 0 bl ci ma p sz tq tp g1 ci 40 qm q_tape q_gates (ovl_at 0 N rfl) (ovl_at 1 N rfl) (ovl_at 3 N rfl) (N.ov [0, 1, 3] (by decide) rfl) (by first | assumption | omega) (by omega) hT ht (by omega) R.gc (by first | assumption | omega) hS) rfl rfl (Nat.le_of_ble_eq_true rfl) ⟨Nat.le_of_ble_eq_true rfl, Nat.le_of_ble_eq_true rfl⟩ ⟨Nat.zero_le _, Nat.zero_le _⟩ [0, 1, 3] ⟨rfl, rfl, rfl, trivial⟩ (os' := [(qm, (o0, cO 8 (mo A (nI 0) su (nI 0) bl (nI ci) (nI ma) (nI p) (nI sz) (nI p)))), (q_tape, (A 0, cI Y 4000 (iF tq))), (q_inputs, (A 6, cI Y 6 i1)), (q_gates, (A 7, cI Y 6 g1)), (q_outputs, (A 8, cI Y 6 o1)), (q_tabled, (A 9, cI Y 6 t1)), (q_sign, (A 10, cI Y 240 s1)), (q_left, (A 11, cI Y 240 l1)), (q_right, (A 12, cI Y 240 r1)), (q_tableOf, (A 13, cI Y 240 n1)), (q_outputOf, (A 14, cI Y 48 p1))]) rfl (st' := []) rfl ?_
          refine x_run C 65 1 (pc' := 117) (lv' := [(0, .ref o0), (1, .int (nI ci))]) (st' := [.ref o0]) rfl ?_
          refine x_cv C 66 (As := []) (rest := []) rfl vX8_178 N 0 rfl rfl (c_X8_blanks Y _ o0 A (nI 0) su 0 bl ci ma p sz (nI p) tq tp qm q_tape (ovl_at 0 N rfl) (ovl_at 1 N rfl) (N.ov [0, 1] (by decide) rfl) (by first | assumption | omega) (by omega) hT ht) rfl rfl (Nat.le_of_ble_eq_true rfl) ⟨Nat.le_of_ble_eq_true rfl, Nat.le_of_ble_eq_true rfl⟩ ⟨Nat.zero_le _, Nat.zero_le _⟩ [0, 1] ⟨rfl, rfl, trivial⟩ (os' := [(qm, (o0, cO 8 (mo A (nI 0) su (nI 0) bl (nI ci) (nI ma) (nI (skB tp sz p)) (nI sz) (nI p)))), (q_tape, (A 0, cI Y 4000 (iF tq))), (q_inputs, (A 6, cI Y 6 i1)), (q_gates, (A 7, cI Y 6 g1)), (q_outputs, (A 8, cI Y 6 o1)), (q_tabled, (A 9, cI Y 6 t1)), (q_sign, (A 10, cI Y 240 s1)), (q_left, (A 11, cI Y 240 l1)), (q_right, (A 12, cI Y 240 r1)), (q_tableOf, (A 13, cI Y 240 n1)), (q_outputOf, (A 14, cI Y 48 p1))]) rfl (st' := []) rfl ?_
          refine x_run C 67 1 (pc' := 95) (lv' := [(0, .ref o0), (1, .int (nI ci))]) (st' := []) rfl ?_
          have q : (pcQ tp sz sgA lfA rtA tnA).2.1 = nI p := by unfold pcQ; exact gR_F R (by omega) hc20 hS
          exact J95f _ _ _ _ _ _ _ _ _ _ _ (by have := skB_spec tp sz p; omega) (nI_nn (by omega)) ((F_Q (by rw [q]; exact nI_n1 (by omega))).trans q) fr
    · intro i hi4 ih; intro Q p wr1 i1 g1 o1 t1 s1 l1 r1 n1 p1 hw fr R
      subst hw
      have h9 := skB_spec tp sz Q.1
      have hb := R.b
      have hpp := R.hp
      have tl := R.tl
      refine x_run C 55 1 (pc' := 96) (lv' := [(0, .ref o0), (1, .int (nI ci))]) (st' := [.ref o0]) rfl ?_
      refine x_get C 56 rfl fX8_159 N 0 rfl (v := .int (-1)) rfl ?_
      refine x_if_ge C 57 rfl (tgt := 123) rfl (fun hc21 => ?_) (fun hc21 => ?_)
      · exact absurd hc21 neg1
      · refine x_run C 58 1 (pc' := 103) (lv' := [(0, .ref o0), (1, .int (nI ci))]) (st' := [.ref o0]) rfl ?_
        refine x_cv C 59 (As := []) (rest := []) rfl vX8_168 N 0 rfl rfl (c_X8_byteAt Y _ o0 A (nI 0) su 0 bl ci ma p sz (-1) tq tp qm q_tape (ovl_at 0 N rfl) (ovl_at 1 N rfl) (N.ov [0, 1] (by decide) rfl) he (by omega) hT ht) rfl rfl (Nat.le_of_ble_eq_true rfl) ⟨Nat.le_of_ble_eq_true rfl, Nat.le_of_ble_eq_true rfl⟩ ⟨Nat.zero_le _, Nat.zero_le _⟩ [0, 1] ⟨rfl, rfl, trivial⟩ (os' := [(qm, (o0, cO 8 (mo A (nI 0) su (nI 0) bl (nI ci) (nI ma) (nI p) (nI sz) (-1)))), (q_tape, (A 0, cI Y 4000 (iF tq))), (q_inputs, (A 6, cI Y 6 i1)), (q_gates, (A 7, cI Y 6 g1)), (q_outputs, (A 8, cI Y 6 o1)), (q_tabled, (A 9, cI Y 6 t1)), (q_sign, (A 10, cI Y 240 s1)), (q_left, (A 11, cI Y 240 l1)), (q_right, (A 12, cI Y 240 r1)), (q_tableOf, (A 13, cI Y 240 n1)), (q_outputOf, (A 14, cI Y 48 p1))]) rfl (st' := [.int (lkC tp sz p)]) rfl ?_
        refine x_run C 60 1 (pc' := 108) (lv' := [(0, .ref o0), (1, .int (nI ci))]) (st' := [.int 62, .int (lkC tp sz p)]) rfl ?_
        refine x_icmp_eq C 61 rfl (tgt := 123) rfl (fun hc22 => ?_) (fun hc22 => ?_)
        · exact J123 i Q p _ _ _ _ _ _ _ _ _ _ hn1 (by omega) rfl R hc22 fr
        · by_cases hS : i = 40 ∨ isS (lkC tp sz p) = 0
          · refine x_run C 62 2 (pc' := 113) (lv' := [(0, .ref o0), (1, .int (nI ci))]) (st' := [.int (nI ci), .ref o0]) rfl ?_
            refine x_cv C 64 (As := [.int (nI ci)]) (rest := []) rfl vX8_193 N 0 rfl rfl (c_X8_readGateF Y _ o0 A (nI 0) su 0 bl ci ma p sz tq tp g1 ci i qm q_tape q_gates (ovl_at 0 N rfl) (ovl_at 1 N rfl) (ovl_at 3 N rfl) (N.ov [0, 1, 3] (by decide) rfl) (by first | assumption | omega) (by omega) hT ht (by omega) R.gc (by first | assumption | omega) hS) rfl rfl (Nat.le_of_ble_eq_true rfl) ⟨Nat.le_of_ble_eq_true rfl, Nat.le_of_ble_eq_true rfl⟩ ⟨Nat.zero_le _, Nat.zero_le _⟩ [0, 1, 3] ⟨rfl, rfl, rfl, trivial⟩ (os' := [(qm, (o0, cO 8 (mo A (nI 0) su (nI 0) bl (nI ci) (nI ma) (nI p) (nI sz) (nI p)))), (q_tape, (A 0, cI Y 4000 (iF tq))), (q_inputs, (A 6, cI Y 6 i1)), (q_gates, (A 7, cI Y 6 g1)), (q_outputs, (A 8, cI Y 6 o1)), (q_tabled, (A 9, cI Y 6 t1)), (q_sign, (A 10, cI Y 240 s1)), (q_left, (A 11, cI Y 240 l1)), (q_right, (A 12, cI Y 240 r1)), (q_tableOf, (A 13, cI Y 240 n1)), (q_outputOf, (A 14, cI Y 48 p1))]) rfl (st' := []) rfl ?_
            refine x_run C 65 1 (pc' := 117) (lv' := [(0, .ref o0), (1, .int (nI ci))]) (st' := [.ref o0]) rfl ?_
            refine x_cv C 66 (As := []) (rest := []) rfl vX8_178 N 0 rfl rfl (c_X8_blanks Y _ o0 A (nI 0) su 0 bl ci ma p sz (nI p) tq tp qm q_tape (ovl_at 0 N rfl) (ovl_at 1 N rfl) (N.ov [0, 1] (by decide) rfl) (by first | assumption | omega) (by omega) hT ht) rfl rfl (Nat.le_of_ble_eq_true rfl) ⟨Nat.le_of_ble_eq_true rfl, Nat.le_of_ble_eq_true rfl⟩ ⟨Nat.zero_le _, Nat.zero_le _⟩ [0, 1] ⟨rfl, rfl, trivial⟩ (os' := [(qm, (o0, cO 8 (mo A (nI 0) su (nI 0) bl (nI ci) (nI ma) (nI (skB tp sz p)) (nI sz) (nI p)))), (q_tape, (A 0, cI Y 4000 (iF tq))), (q_inputs, (A 6, cI Y 6 i1)), (q_gates, (A 7, cI Y 6 g1)), (q_outputs, (A 8, cI Y 6 o1)), (q_tabled, (A 9, cI Y 6 t1)), (q_sign, (A 10, cI Y 240 s1)), (q_left, (A 11, cI Y 240 l1)), (q_right, (A 12, cI Y 240 r1)), (q_tableOf, (A 13, cI Y 240 n1)), (q_outputOf, (A 14, cI Y 48 p1))]) rfl (st' := []) rfl ?_
            refine x_run C 67 1 (pc' := 95) (lv' := [(0, .ref o0), (1, .int (nI ci))]) (st' := []) rfl ?_
            have q : (pcQ tp sz sgA lfA rtA tnA).2.1 = nI p := by unfold pcQ; exact gR_F R (by omega) hc22 hS
            exact J95f _ _ _ _ _ _ _ _ _ _ _ (by have := skB_spec tp sz p; omega) (nI_nn (by omega)) ((F_Q (by rw [q]; exact nI_n1 (by omega))).trans q) fr
          · obtain ⟨k1, k2, k3⟩ := gR_s he R (by omega) hc22 (fun z => hS (Or.inr z))
            have m1 := mgA_le tp he (lkC tp sz p) ((pcN tp sz) + i - 1) (p + 1)
            have m2 := mtK_le tp he (mgA tp sz (lkC tp sz p) ((pcN tp sz) + i - 1) (p + 1)).2.2.1 (mgA tp sz (lkC tp sz p) ((pcN tp sz) + i - 1) (p + 1)).2.2.2
            have m3 := skB_spec tp sz (mtK tp sz (mgA tp sz (lkC tp sz p) ((pcN tp sz) + i - 1) (p + 1)).2.2.1 (mgA tp sz (lkC tp sz p) ((pcN tp sz) + i - 1) (p + 1)).2.2.2).1
            refine x_run C 62 2 (pc' := 113) (lv' := [(0, .ref o0), (1, .int (nI ci))]) (st' := [.int (nI ci), .ref o0]) rfl ?_
            refine x_cv C 64 (As := [.int (nI ci)]) (rest := []) rfl vX8_193 N 0 rfl rfl (c_X8_readGate Y _ o0 A (nI 0) su 0 bl ci ma p sz tq tp i1 g1 t1 s1 l1 r1 n1 ci (pcN tp sz) i Q.2.2.2.1 qm q_tape q_inputs q_gates q_tabled q_sign q_left q_right q_tableOf (ovl_at 0 N rfl) (ovl_at 1 N rfl) (ovl_at 2 N rfl) (ovl_at 3 N rfl) (ovl_at 5 N rfl) (ovl_at 6 N rfl) (ovl_at 7 N rfl) (ovl_at 8 N rfl) (ovl_at 9 N rfl) (N.ov [0, 1, 2, 3, 5, 6, 7, 8, 9] (by decide) rfl) (by first | assumption | omega) (by omega) hT ht (by omega) R.gc (by first | assumption | omega) (fun z => hS (Or.inr z)) R.hn hn1.1 hn1.2 R.t (by first | assumption | omega)) rfl rfl (Nat.le_of_ble_eq_true rfl) ⟨Nat.le_of_ble_eq_true rfl, Nat.le_of_ble_eq_true rfl⟩ ⟨Nat.zero_le _, Nat.zero_le _⟩ [0, 1, 2, 3, 5, 6, 7, 8, 9] ⟨rfl, rfl, rfl, rfl, rfl, rfl, rfl, rfl, rfl, trivial⟩ (os' := [(qm, (o0, cO 8 (mo A (nI 0) su (nI 0) bl (nI ci) (nI ma) (nI (mtK tp sz (mgA tp sz (lkC tp sz p) ((pcN tp sz) + i - 1) (p + 1)).2.2.1 (mgA tp sz (lkC tp sz p) ((pcN tp sz) + i - 1) (p + 1)).2.2.2).1) (nI sz) (mtK tp sz (mgA tp sz (lkC tp sz p) ((pcN tp sz) + i - 1) (p + 1)).2.2.1 (mgA tp sz (lkC tp sz p) ((pcN tp sz) + i - 1) (p + 1)).2.2.2).2))), (q_tape, (A 0, cI Y 4000 (iF tq))), (q_inputs, (A 6, cI Y 6 i1)), (q_gates, (A 7, cI Y 6 (upd g1 ci (nI (i + 1))))), (q_outputs, (A 8, cI Y 6 o1)), (q_tabled, (A 9, cI Y 6 (upd t1 ci (nI (Q.2.2.2.1 + tnI (lkC tp sz p)))))), (q_sign, (A 10, cI Y 240 (upd s1 (40 * ci + i) (lkC tp sz p)))), (q_left, (A 11, cI Y 240 (upd l1 (40 * ci + i) (mgA tp sz (lkC tp sz p) ((pcN tp sz) + i - 1) (p + 1)).1))), (q_right, (A 12, cI Y 240 (upd r1 (40 * ci + i) (mgA tp sz (lkC tp sz p) ((pcN tp sz) + i - 1) (p + 1)).2.1))), (q_tableOf, (A 13, cI Y 240 (upd n1 (40 * ci + i) (tnV (lkC tp sz p) Q.2.2.2.1)))), (q_outputOf, (A 14, cI Y 48 p1))]) rfl (st' := []) rfl ?_
            refine x_run C 65 1 (pc' := 117) (lv' := [(0, .ref o0), (1, .int (nI ci))]) (st' := [.ref o0]) rfl ?_
            refine x_cv C 66 (As := []) (rest := []) rfl vX8_178 N 0 rfl rfl (c_X8_blanks Y _ o0 A (nI 0) su 0 bl ci ma (mtK tp sz (mgA tp sz (lkC tp sz p) ((pcN tp sz) + i - 1) (p + 1)).2.2.1 (mgA tp sz (lkC tp sz p) ((pcN tp sz) + i - 1) (p + 1)).2.2.2).1 sz (mtK tp sz (mgA tp sz (lkC tp sz p) ((pcN tp sz) + i - 1) (p + 1)).2.2.1 (mgA tp sz (lkC tp sz p) ((pcN tp sz) + i - 1) (p + 1)).2.2.2).2 tq tp qm q_tape (ovl_at 0 N rfl) (ovl_at 1 N rfl) (N.ov [0, 1] (by decide) rfl) (by first | assumption | omega) (by omega) hT ht) rfl rfl (Nat.le_of_ble_eq_true rfl) ⟨Nat.le_of_ble_eq_true rfl, Nat.le_of_ble_eq_true rfl⟩ ⟨Nat.zero_le _, Nat.zero_le _⟩ [0, 1] ⟨rfl, rfl, trivial⟩ (os' := [(qm, (o0, cO 8 (mo A (nI 0) su (nI 0) bl (nI ci) (nI ma) (nI (skB tp sz (mtK tp sz (mgA tp sz (lkC tp sz p) ((pcN tp sz) + i - 1) (p + 1)).2.2.1 (mgA tp sz (lkC tp sz p) ((pcN tp sz) + i - 1) (p + 1)).2.2.2).1)) (nI sz) (mtK tp sz (mgA tp sz (lkC tp sz p) ((pcN tp sz) + i - 1) (p + 1)).2.2.1 (mgA tp sz (lkC tp sz p) ((pcN tp sz) + i - 1) (p + 1)).2.2.2).2))), (q_tape, (A 0, cI Y 4000 (iF tq))), (q_inputs, (A 6, cI Y 6 i1)), (q_gates, (A 7, cI Y 6 (upd g1 ci (nI (i + 1))))), (q_outputs, (A 8, cI Y 6 o1)), (q_tabled, (A 9, cI Y 6 (upd t1 ci (nI (Q.2.2.2.1 + tnI (lkC tp sz p)))))), (q_sign, (A 10, cI Y 240 (upd s1 (40 * ci + i) (lkC tp sz p)))), (q_left, (A 11, cI Y 240 (upd l1 (40 * ci + i) (mgA tp sz (lkC tp sz p) ((pcN tp sz) + i - 1) (p + 1)).1))), (q_right, (A 12, cI Y 240 (upd r1 (40 * ci + i) (mgA tp sz (lkC tp sz p) ((pcN tp sz) + i - 1) (p + 1)).2.1))), (q_tableOf, (A 13, cI Y 240 (upd n1 (40 * ci + i) (tnV (lkC tp sz p) Q.2.2.2.1)))), (q_outputOf, (A 14, cI Y 48 p1))]) rfl (st' := []) rfl ?_
            refine x_run C 67 1 (pc' := 95) (lv' := [(0, .ref o0), (1, .int (nI ci))]) (st' := []) rfl ?_
            by_cases hz : (stQ tp sz (pcN tp sz) Q).2.1 = -1
            · exact ih (stQ tp sz (pcN tp sz) Q) _ _ _ _ _ _ _ _ _ _ _ (k1.symm.trans hz) (kpM_0 fr _ _ _ _ _ _ _) (k3 hz _ rfl)
            · have q : (pcQ tp sz sgA lfA rtA tnA).2.1 = (stQ tp sz (pcN tp sz) Q).2.1 := by unfold pcQ; exact k2 hz
              exact J95f _ _ _ _ _ _ _ _ _ _ _ (by omega) ((mtK_nn he (by omega) (mgA_nn he (by omega))).resolve_left (fun z => hz (k1.trans z))) ((F_Q (by rw [q]; exact hz)).trans (q.trans k1)) (kpM_0 fr _ _ _ _ _ _ _)
  have h9 := skB_spec tp sz 0
  have h8 := ndg_spec tp sz (skB tp sz 0)
  have h7 := skB_spec tp sz (skB tp sz 0 + ndg tp sz (skB tp sz 0))
  have h6 := skB_spec tp sz (skB tp sz (skB tp sz 0 + ndg tp sz (skB tp sz 0)) + 1)
  refine x_run C 0 2 (pc' := 2) (lv' := [(0, .ref o0)]) (st' := [.int 0, .ref o0]) rfl ?_
  refine x_put C 2 rfl pX8_117 N 0 rfl rfl rfl (Nat.le_of_ble_eq_true rfl) (os' := [(qm, (o0, cO 8 (mo A (nI 0) su (nI sz) bl (nI ci) (nI ma) pa en wr))), (q_tape, (A 0, cI Y 4000 (iF tq))), (q_inputs, (A 6, cI Y 6 iA)), (q_gates, (A 7, cI Y 6 gA)), (q_outputs, (A 8, cI Y 6 oA)), (q_tabled, (A 9, cI Y 6 tA)), (q_sign, (A 10, cI Y 240 sA)), (q_left, (A 11, cI Y 240 lA)), (q_right, (A 12, cI Y 240 rA)), (q_tableOf, (A 13, cI Y 240 nA)), (q_outputOf, (A 14, cI Y 48 pA))]) rfl ?_
  refine x_run C 3 2 (pc' := 7) (lv' := [(0, .ref o0)]) (st' := [.ref o0, .ref o0]) rfl ?_
  refine x_cv C 5 (As := []) (rest := [.ref o0]) rfl vX8_144 N 0 rfl rfl (c_X8_uses Y _ o0 A (nI 0) su sz bl ci ma pa en wr qm (ovl_at 0 N rfl) (N.ov [0] (by decide) rfl) ) rfl rfl (Nat.le_of_ble_eq_true rfl) ⟨Nat.le_of_ble_eq_true rfl, Nat.le_of_ble_eq_true rfl⟩ ⟨Nat.zero_le _, Nat.zero_le _⟩ [0] ⟨rfl, trivial⟩ (os' := [(qm, (o0, cO 8 (mo A (nI 0) su (nI 0) bl (nI ci) (nI ma) pa en wr))), (q_tape, (A 0, cI Y 4000 (iF tq))), (q_inputs, (A 6, cI Y 6 iA)), (q_gates, (A 7, cI Y 6 gA)), (q_outputs, (A 8, cI Y 6 oA)), (q_tabled, (A 9, cI Y 6 tA)), (q_sign, (A 10, cI Y 240 sA)), (q_left, (A 11, cI Y 240 lA)), (q_right, (A 12, cI Y 240 rA)), (q_tableOf, (A 13, cI Y 240 nA)), (q_outputOf, (A 14, cI Y 48 pA))]) rfl (st' := [.int (nI sz), .ref o0]) rfl ?_
  refine x_put C 6 rfl pX8_165 N 0 rfl rfl rfl (Nat.le_of_ble_eq_true rfl) (os' := [(qm, (o0, cO 8 (mo A (nI 0) su (nI 0) bl (nI ci) (nI ma) pa (nI sz) wr))), (q_tape, (A 0, cI Y 4000 (iF tq))), (q_inputs, (A 6, cI Y 6 iA)), (q_gates, (A 7, cI Y 6 gA)), (q_outputs, (A 8, cI Y 6 oA)), (q_tabled, (A 9, cI Y 6 tA)), (q_sign, (A 10, cI Y 240 sA)), (q_left, (A 11, cI Y 240 lA)), (q_right, (A 12, cI Y 240 rA)), (q_tableOf, (A 13, cI Y 240 nA)), (q_outputOf, (A 14, cI Y 48 pA))]) rfl ?_
  refine x_run C 7 1 (pc' := 14) (lv' := [(0, .ref o0)]) (st' := [.ref o0]) rfl ?_
  refine x_get C 8 rfl fX8_190 N 0 rfl (v := .int (nI ci)) rfl ?_
  refine x_run C 9 1 (pc' := 19) (lv' := [(0, .ref o0)]) (st' := [.int 6, .int (nI ci)]) rfl ?_
  refine x_st (st' := [.int (nI 6), .int (nI ci)]) (by simp only [nlit, nI_add, pk_mul]) ?_
  refine x_icmpN_ne C 10 (by omega) (by omega) rfl (tgt := 25) rfl (fun hc23 => ?_) (fun hc23 => ?_)
  · refine x_run C 13 1 (pc' := 26) (lv' := [(0, .ref o0)]) (st' := [.ref o0]) rfl ?_
    refine x_get C 14 rfl fX8_190 N 0 rfl (v := .int (nI ci)) rfl ?_
    refine x_run C 15 3 (pc' := 32) (lv' := [(1, .int (nI ci)), (0, .ref o0)]) (st' := [.int 0, .ref o0]) rfl ?_
    refine x_put C 18 rfl pX8_162 N 0 rfl rfl rfl (Nat.le_of_ble_eq_true rfl) (os' := [(qm, (o0, cO 8 (mo A (nI 0) su (nI 0) bl (nI ci) (nI ma) (nI 0) (nI sz) wr))), (q_tape, (A 0, cI Y 4000 (iF tq))), (q_inputs, (A 6, cI Y 6 iA)), (q_gates, (A 7, cI Y 6 gA)), (q_outputs, (A 8, cI Y 6 oA)), (q_tabled, (A 9, cI Y 6 tA)), (q_sign, (A 10, cI Y 240 sA)), (q_left, (A 11, cI Y 240 lA)), (q_right, (A 12, cI Y 240 rA)), (q_tableOf, (A 13, cI Y 240 nA)), (q_outputOf, (A 14, cI Y 48 pA))]) rfl ?_
    refine x_run C 19 2 (pc' := 37) (lv' := [(1, .int (nI ci)), (0, .ref o0)]) (st' := [.int (-1), .ref o0]) rfl ?_
    refine x_put C 21 rfl pX8_159 N 0 rfl rfl rfl (Nat.le_of_ble_eq_true rfl) (os' := [(qm, (o0, cO 8 (mo A (nI 0) su (nI 0) bl (nI ci) (nI ma) (nI 0) (nI sz) (-1)))), (q_tape, (A 0, cI Y 4000 (iF tq))), (q_inputs, (A 6, cI Y 6 iA)), (q_gates, (A 7, cI Y 6 gA)), (q_outputs, (A 8, cI Y 6 oA)), (q_tabled, (A 9, cI Y 6 tA)), (q_sign, (A 10, cI Y 240 sA)), (q_left, (A 11, cI Y 240 lA)), (q_right, (A 12, cI Y 240 rA)), (q_tableOf, (A 13, cI Y 240 nA)), (q_outputOf, (A 14, cI Y 48 pA))]) rfl ?_
    refine x_run C 22 1 (pc' := 41) (lv' := [(1, .int (nI ci)), (0, .ref o0)]) (st' := [.ref o0]) rfl ?_
    refine x_get C 23 rfl fX8_31 N 0 rfl (v := .ref (A 7)) rfl ?_
    refine x_run C 24 2 (pc' := 46) (lv' := [(1, .int (nI ci)), (0, .ref o0)]) (st' := [.int 0, .int (nI ci), .ref (A 7)]) rfl ?_
    refine x_iastN C 26 rfl N 3 rfl (by omega) (by omega) (os' := [(qm, (o0, cO 8 (mo A (nI 0) su (nI 0) bl (nI ci) (nI ma) (nI 0) (nI sz) (-1)))), (q_tape, (A 0, cI Y 4000 (iF tq))), (q_inputs, (A 6, cI Y 6 iA)), (q_gates, (A 7, cI Y 6 (upd gA ci 0))), (q_outputs, (A 8, cI Y 6 oA)), (q_tabled, (A 9, cI Y 6 tA)), (q_sign, (A 10, cI Y 240 sA)), (q_left, (A 11, cI Y 240 lA)), (q_right, (A 12, cI Y 240 rA)), (q_tableOf, (A 13, cI Y 240 nA)), (q_outputOf, (A 14, cI Y 48 pA))]) rfl ?_
    refine x_run C 27 1 (pc' := 48) (lv' := [(1, .int (nI ci)), (0, .ref o0)]) (st' := [.ref o0]) rfl ?_
    refine x_get C 28 rfl fX8_34 N 0 rfl (v := .ref (A 8)) rfl ?_
    refine x_run C 29 2 (pc' := 53) (lv' := [(1, .int (nI ci)), (0, .ref o0)]) (st' := [.int 0, .int (nI ci), .ref (A 8)]) rfl ?_
    refine x_iastN C 31 rfl N 4 rfl (by omega) (by omega) (os' := [(qm, (o0, cO 8 (mo A (nI 0) su (nI 0) bl (nI ci) (nI ma) (nI 0) (nI sz) (-1)))), (q_tape, (A 0, cI Y 4000 (iF tq))), (q_inputs, (A 6, cI Y 6 iA)), (q_gates, (A 7, cI Y 6 (upd gA ci 0))), (q_outputs, (A 8, cI Y 6 (upd oA ci 0))), (q_tabled, (A 9, cI Y 6 tA)), (q_sign, (A 10, cI Y 240 sA)), (q_left, (A 11, cI Y 240 lA)), (q_right, (A 12, cI Y 240 rA)), (q_tableOf, (A 13, cI Y 240 nA)), (q_outputOf, (A 14, cI Y 48 pA))]) rfl ?_
    refine x_run C 32 1 (pc' := 55) (lv' := [(1, .int (nI ci)), (0, .ref o0)]) (st' := [.ref o0]) rfl ?_
    refine x_get C 33 rfl fX8_37 N 0 rfl (v := .ref (A 9)) rfl ?_
    refine x_run C 34 2 (pc' := 60) (lv' := [(1, .int (nI ci)), (0, .ref o0)]) (st' := [.int 0, .int (nI ci), .ref (A 9)]) rfl ?_
    refine x_iastN C 36 rfl N 5 rfl (by omega) (by omega) (os' := [(qm, (o0, cO 8 (mo A (nI 0) su (nI 0) bl (nI ci) (nI ma) (nI 0) (nI sz) (-1)))), (q_tape, (A 0, cI Y 4000 (iF tq))), (q_inputs, (A 6, cI Y 6 iA)), (q_gates, (A 7, cI Y 6 (upd gA ci 0))), (q_outputs, (A 8, cI Y 6 (upd oA ci 0))), (q_tabled, (A 9, cI Y 6 (upd tA ci 0))), (q_sign, (A 10, cI Y 240 sA)), (q_left, (A 11, cI Y 240 lA)), (q_right, (A 12, cI Y 240 rA)), (q_tableOf, (A 13, cI Y 240 nA)), (q_outputOf, (A 14, cI Y 48 pA))]) rfl ?_
    refine x_run C 37 1 (pc' := 62) (lv' := [(1, .int (nI ci)), (0, .ref o0)]) (st' := [.ref o0]) rfl ?_
    refine x_cv C 38 (As := []) (rest := []) rfl vX8_178 N 0 rfl rfl (c_X8_blanks Y _ o0 A (nI 0) su 0 bl ci ma 0 sz (-1) tq tp qm q_tape (ovl_at 0 N rfl) (ovl_at 1 N rfl) (N.ov [0, 1] (by decide) rfl) he (by omega) hT ht) rfl rfl (Nat.le_of_ble_eq_true rfl) ⟨Nat.le_of_ble_eq_true rfl, Nat.le_of_ble_eq_true rfl⟩ ⟨Nat.zero_le _, Nat.zero_le _⟩ [0, 1] ⟨rfl, rfl, trivial⟩ (os' := [(qm, (o0, cO 8 (mo A (nI 0) su (nI 0) bl (nI ci) (nI ma) (nI (skB tp sz 0)) (nI sz) (-1)))), (q_tape, (A 0, cI Y 4000 (iF tq))), (q_inputs, (A 6, cI Y 6 iA)), (q_gates, (A 7, cI Y 6 (upd gA ci 0))), (q_outputs, (A 8, cI Y 6 (upd oA ci 0))), (q_tabled, (A 9, cI Y 6 (upd tA ci 0))), (q_sign, (A 10, cI Y 240 sA)), (q_left, (A 11, cI Y 240 lA)), (q_right, (A 12, cI Y 240 rA)), (q_tableOf, (A 13, cI Y 240 nA)), (q_outputOf, (A 14, cI Y 48 pA))]) rfl (st' := []) rfl ?_
    refine x_run C 39 1 (pc' := 66) (lv' := [(1, .int (nI ci)), (0, .ref o0)]) (st' := [.ref o0]) rfl ?_
    refine x_get C 40 rfl fX8_28 N 0 rfl (v := .ref (A 6)) rfl ?_
    refine x_run C 41 4 (pc' := 74) (lv' := [(1, .int (nI ci)), (0, .ref o0)]) (st' := [.int 16, .int 1, .ref o0, .int (nI ci), .ref (A 6)]) rfl ?_
    refine x_cv C 45 (As := [.int 1, .int 16]) (rest := [.int (nI ci), .ref (A 6)]) rfl vX8_184 N 0 rfl rfl (c_X8_number Y _ o0 A (nI 0) su 0 bl ci ma (skB tp sz 0) sz (-1) tq tp 1 16 qm q_tape (ovl_at 0 N rfl) (ovl_at 1 N rfl) (N.ov [0, 1] (by decide) rfl) he (by omega) hT ht) rfl rfl (Nat.le_of_ble_eq_true rfl) ⟨Nat.le_of_ble_eq_true rfl, Nat.le_of_ble_eq_true rfl⟩ ⟨Nat.zero_le _, Nat.zero_le _⟩ [0, 1] ⟨rfl, rfl, trivial⟩ (os' := [(qm, (o0, cO 8 (mo A (nI 0) su (nI 0) bl (nI ci) (nI ma) (nI ((skB tp sz 0) + (ndg tp sz (skB tp sz 0)))) (nI sz) (mnW tp sz 1 16 (skB tp sz 0) (-1))))), (q_tape, (A 0, cI Y 4000 (iF tq))), (q_inputs, (A 6, cI Y 6 iA)), (q_gates, (A 7, cI Y 6 (upd gA ci 0))), (q_outputs, (A 8, cI Y 6 (upd oA ci 0))), (q_tabled, (A 9, cI Y 6 (upd tA ci 0))), (q_sign, (A 10, cI Y 240 sA)), (q_left, (A 11, cI Y 240 lA)), (q_right, (A 12, cI Y 240 rA)), (q_tableOf, (A 13, cI Y 240 nA)), (q_outputOf, (A 14, cI Y 48 pA))]) rfl (st' := [.int (dvI tp sz (skB tp sz 0) (ndg tp sz (skB tp sz 0))), .int (nI ci), .ref (A 6)]) rfl ?_
    refine x_iastN C 46 rfl N 2 rfl (by omega) (by omega) (os' := [(qm, (o0, cO 8 (mo A (nI 0) su (nI 0) bl (nI ci) (nI ma) (nI ((skB tp sz 0) + (ndg tp sz (skB tp sz 0)))) (nI sz) (mnW tp sz 1 16 (skB tp sz 0) (-1))))), (q_tape, (A 0, cI Y 4000 (iF tq))), (q_inputs, (A 6, cI Y 6 (upd iA ci (dvI tp sz (skB tp sz 0) (ndg tp sz (skB tp sz 0)))))), (q_gates, (A 7, cI Y 6 (upd gA ci 0))), (q_outputs, (A 8, cI Y 6 (upd oA ci 0))), (q_tabled, (A 9, cI Y 6 (upd tA ci 0))), (q_sign, (A 10, cI Y 240 sA)), (q_left, (A 11, cI Y 240 lA)), (q_right, (A 12, cI Y 240 rA)), (q_tableOf, (A 13, cI Y 240 nA)), (q_outputOf, (A 14, cI Y 48 pA))]) rfl ?_
    refine x_run C 47 1 (pc' := 79) (lv' := [(1, .int (nI ci)), (0, .ref o0)]) (st' := [.ref o0]) rfl ?_
    refine x_get C 48 rfl fX8_159 N 0 rfl (v := .int (mnW tp sz 1 16 (skB tp sz 0) (-1))) rfl ?_
    refine x_if_ge C 49 rfl (tgt := 91) rfl (fun hc24 => ?_) (fun hc24 => ?_)
    · refine x_run C 53 1 (pc' := 92) (lv' := [(1, .int (nI ci)), (0, .ref o0)]) (st' := [.ref o0]) rfl ?_
      refine x_cv C 54 (As := []) (rest := []) rfl vX8_178 N 0 rfl rfl (c_X8_blanks Y _ o0 A (nI 0) su 0 bl ci ma ((skB tp sz 0) + (ndg tp sz (skB tp sz 0))) sz (mnW tp sz 1 16 (skB tp sz 0) (-1)) tq tp qm q_tape (ovl_at 0 N rfl) (ovl_at 1 N rfl) (N.ov [0, 1] (by decide) rfl) he (by omega) hT ht) rfl rfl (Nat.le_of_ble_eq_true rfl) ⟨Nat.le_of_ble_eq_true rfl, Nat.le_of_ble_eq_true rfl⟩ ⟨Nat.zero_le _, Nat.zero_le _⟩ [0, 1] ⟨rfl, rfl, trivial⟩ (os' := [(qm, (o0, cO 8 (mo A (nI 0) su (nI 0) bl (nI ci) (nI ma) (nI (skB tp sz ((skB tp sz 0) + (ndg tp sz (skB tp sz 0))))) (nI sz) (mnW tp sz 1 16 (skB tp sz 0) (-1))))), (q_tape, (A 0, cI Y 4000 (iF tq))), (q_inputs, (A 6, cI Y 6 (upd iA ci (dvI tp sz (skB tp sz 0) (ndg tp sz (skB tp sz 0)))))), (q_gates, (A 7, cI Y 6 (upd gA ci 0))), (q_outputs, (A 8, cI Y 6 (upd oA ci 0))), (q_tabled, (A 9, cI Y 6 (upd tA ci 0))), (q_sign, (A 10, cI Y 240 sA)), (q_left, (A 11, cI Y 240 lA)), (q_right, (A 12, cI Y 240 rA)), (q_tableOf, (A 13, cI Y 240 nA)), (q_outputOf, (A 14, cI Y 48 pA))]) rfl (st' := []) rfl ?_
      refine x_sub (lv' := [(0, .ref o0), (1, .int (nI ci))]) [1, 0] rfl ?_
      have m2 := pcM_2 (tp := tp) he
      rw [mtK_k hc24] at m2
      exact J95f _ _ _ _ _ _ _ _ _ _ _ (by omega) hc24 ((F_M (fun z => neg1 ((m2.symm.trans z) ▸ hc24))).trans m2) (kpM_i _ _ _ _ _ _ _ _ _ _ _ _ _ _)
    · refine x_run C 50 2 (pc' := 88) (lv' := [(1, .int (nI ci)), (0, .ref o0)]) (st' := [.int 59, .ref o0]) rfl ?_
      refine x_cv C 52 (As := [.int 59]) (rest := []) rfl vX8_187 N 0 rfl rfl (c_X8_take Y _ o0 A (nI 0) su 0 bl ci ma ((skB tp sz 0) + (ndg tp sz (skB tp sz 0))) sz (mnW tp sz 1 16 (skB tp sz 0) (-1)) tq tp 59 qm q_tape (ovl_at 0 N rfl) (ovl_at 1 N rfl) (N.ov [0, 1] (by decide) rfl) he (by omega) hT ht) rfl rfl (Nat.le_of_ble_eq_true rfl) ⟨Nat.le_of_ble_eq_true rfl, Nat.le_of_ble_eq_true rfl⟩ ⟨Nat.zero_le _, Nat.zero_le _⟩ [0, 1] ⟨rfl, rfl, trivial⟩ (os' := [(qm, (o0, cO 8 (mo A (nI 0) su (nI 0) bl (nI ci) (nI ma) (nI ((skB tp sz ((skB tp sz 0) + (ndg tp sz (skB tp sz 0)))) + 1)) (nI sz) (if lkC tp sz (skB tp sz ((skB tp sz 0) + (ndg tp sz (skB tp sz 0)))) = 59 then (mnW tp sz 1 16 (skB tp sz 0) (-1)) else flt (mnW tp sz 1 16 (skB tp sz 0) (-1)) (nI (skB tp sz ((skB tp sz 0) + (ndg tp sz (skB tp sz 0))))))))), (q_tape, (A 0, cI Y 4000 (iF tq))), (q_inputs, (A 6, cI Y 6 (upd iA ci (dvI tp sz (skB tp sz 0) (ndg tp sz (skB tp sz 0)))))), (q_gates, (A 7, cI Y 6 (upd gA ci 0))), (q_outputs, (A 8, cI Y 6 (upd oA ci 0))), (q_tabled, (A 9, cI Y 6 (upd tA ci 0))), (q_sign, (A 10, cI Y 240 sA)), (q_left, (A 11, cI Y 240 lA)), (q_right, (A 12, cI Y 240 rA)), (q_tableOf, (A 13, cI Y 240 nA)), (q_outputOf, (A 14, cI Y 48 pA))]) rfl (st' := []) rfl ?_
      refine x_run C 53 1 (pc' := 92) (lv' := [(1, .int (nI ci)), (0, .ref o0)]) (st' := [.ref o0]) rfl ?_
      refine x_cv C 54 (As := []) (rest := []) rfl vX8_178 N 0 rfl rfl (c_X8_blanks Y _ o0 A (nI 0) su 0 bl ci ma ((skB tp sz ((skB tp sz 0) + (ndg tp sz (skB tp sz 0)))) + 1) sz (if lkC tp sz (skB tp sz ((skB tp sz 0) + (ndg tp sz (skB tp sz 0)))) = 59 then (mnW tp sz 1 16 (skB tp sz 0) (-1)) else flt (mnW tp sz 1 16 (skB tp sz 0) (-1)) (nI (skB tp sz ((skB tp sz 0) + (ndg tp sz (skB tp sz 0)))))) tq tp qm q_tape (ovl_at 0 N rfl) (ovl_at 1 N rfl) (N.ov [0, 1] (by decide) rfl) he (by omega) hT ht) rfl rfl (Nat.le_of_ble_eq_true rfl) ⟨Nat.le_of_ble_eq_true rfl, Nat.le_of_ble_eq_true rfl⟩ ⟨Nat.zero_le _, Nat.zero_le _⟩ [0, 1] ⟨rfl, rfl, trivial⟩ (os' := [(qm, (o0, cO 8 (mo A (nI 0) su (nI 0) bl (nI ci) (nI ma) (nI (skB tp sz ((skB tp sz ((skB tp sz 0) + (ndg tp sz (skB tp sz 0)))) + 1))) (nI sz) (if lkC tp sz (skB tp sz ((skB tp sz 0) + (ndg tp sz (skB tp sz 0)))) = 59 then (mnW tp sz 1 16 (skB tp sz 0) (-1)) else flt (mnW tp sz 1 16 (skB tp sz 0) (-1)) (nI (skB tp sz ((skB tp sz 0) + (ndg tp sz (skB tp sz 0))))))))), (q_tape, (A 0, cI Y 4000 (iF tq))), (q_inputs, (A 6, cI Y 6 (upd iA ci (dvI tp sz (skB tp sz 0) (ndg tp sz (skB tp sz 0)))))), (q_gates, (A 7, cI Y 6 (upd gA ci 0))), (q_outputs, (A 8, cI Y 6 (upd oA ci 0))), (q_tabled, (A 9, cI Y 6 (upd tA ci 0))), (q_sign, (A 10, cI Y 240 sA)), (q_left, (A 11, cI Y 240 lA)), (q_right, (A 12, cI Y 240 rA)), (q_tableOf, (A 13, cI Y 240 nA)), (q_outputOf, (A 14, cI Y 48 pA))]) rfl (st' := []) rfl ?_
      refine x_sub (lv' := [(0, .ref o0), (1, .int (nI ci))]) [1, 0] rfl ?_
      have m2 := pcM_2 (tp := tp) he
      have m1 : mnW tp sz 1 16 (skB tp sz 0) (-1) = -1 := (mnW_nn (by omega) (Or.inl rfl)).resolve_right hc24
      have m4 := mtK_nn (tp := tp) he (p := skB tp sz 0 + ndg tp sz (skB tp sz 0)) (by omega) (Or.inl m1)
      by_cases hM : (pcM tp sz).2 = -1
      · obtain ⟨x1, x2, x3, x4, x5⟩ := pcM_1 he hM
        refine L95 ⟨x2, x3⟩ 0 (by omega) ((pcM tp sz).1, (pcM tp sz).2, 0, 0, sgA, lfA, rtA, tnA) _ _ _ _ _ _ _ _ _ _ _ ?_ (kpM_i _ _ _ _ _ _ _ _ _ _ _ _ _ _) (gR_0 he hM)
        rw [m2, mtK, if_neg hc24] at hM
        exact hM
      · refine J95f _ _ _ _ _ _ _ _ _ _ _ (by omega) ?_ ?_ (kpM_i _ _ _ _ _ _ _ _ _ _ _ _ _ _)
        · have m5 := m4.resolve_left (fun z => hM (m2.trans z))
          rw [mtK, if_neg hc24] at m5
          exact m5
        · refine (F_M hM).trans (m2.trans ?_)
          rw [mtK, if_neg hc24]
  · exact absurd hc23 (by omega)
set_option maxHeartbeats 16000000 in
set_option maxRecDepth 100000 in
theorem c_X8_circuitF (Y : xD) (w : va_W) (o0 : Nat) (A : Nat → Nat) (th : Int32) (su : Int32) (sz : Nat) (bl : Int32) (ci : Nat) (ma : Nat) (pa : Int32) (en : Int32) (wr : Int32) (tq : Nat → Nat) (tp : Nat → Nat) (iA : Nat → Int32) (gA : Nat → Int32) (oA : Nat → Int32) (tA : Nat → Int32) (sA : Nat → Int32) (lA : Nat → Int32) (rA : Nat → Int32) (nA : Nat → Int32) (pA : Nat → Int32) (sgA : Nat → Int32) (lfA : Nat → Int32) (rtA : Nat → Int32) (tnA : Nat → Int32) (ouA : Nat → Int32) (qm q_tape q_inputs q_gates q_outputs q_tabled q_sign q_left q_right q_tableOf q_outputOf : Nat) (e0 : w[qm]? = some (o0, cO 8 (mo A th su (nI sz) bl (nI ci) (nI ma) pa en wr))) (e1 : w[q_tape]? = some (A 0, cI Y 4000 (iF tq))) (e2 : w[q_inputs]? = some (A 6, cI Y 6 iA)) (e3 : w[q_gates]? = some (A 7, cI Y 6 gA)) (e4 : w[q_outputs]? = some (A 8, cI Y 6 oA)) (e5 : w[q_tabled]? = some (A 9, cI Y 6 tA)) (e6 : w[q_sign]? = some (A 10, cI Y 240 sA)) (e7 : w[q_left]? = some (A 11, cI Y 240 lA)) (e8 : w[q_right]? = some (A 12, cI Y 240 rA)) (e9 : w[q_tableOf]? = some (A 13, cI Y 240 nA)) (e10 : w[q_outputOf]? = some (A 14, cI Y 48 pA)) (N : xN w.length [qm, q_tape, q_inputs, q_gates, q_outputs, q_tabled, q_sign, q_left, q_right, q_tableOf, q_outputOf]) (he : sz ≤ 4000) (hT : ∀ j, j < sz → tq j = tp j) (ht : ∀ j, tp j < 256) (hc : ci < 6) (hF : ¬ (pcO tp sz sgA lfA rtA tnA ouA).2.1 = -1) : Ct Y mX8_circuit 4 0 0 [.ref o0] w (fun v w' => v = (some (.int (-1000 - (pcO tp sz sgA lfA rtA tnA ouA).2.1))) ∧ ∃ (pa' : Int32) (wr' : Int32) (i' : Nat → Int32) (g' : Nat → Int32) (o' : Nat → Int32) (t' : Nat → Int32) (s' : Nat → Int32) (l' : Nat → Int32) (r' : Nat → Int32) (n' : Nat → Int32) (p' : Nat → Int32), (kpM ci iA gA oA tA sA lA rA nA pA i' g' o' t' s' l' r' n' p') ∧ w' = ovl w [(qm, (o0, cO 8 (mo A (nI 0) su (nI 0) bl (nI ci) (nI ma) pa' (nI sz) wr'))), (q_tape, (A 0, cI Y 4000 (iF tq))), (q_inputs, (A 6, cI Y 6 i')), (q_gates, (A 7, cI Y 6 g')), (q_outputs, (A 8, cI Y 6 o')), (q_tabled, (A 9, cI Y 6 t')), (q_sign, (A 10, cI Y 240 s')), (q_left, (A 11, cI Y 240 l')), (q_right, (A 12, cI Y 240 r')), (q_tableOf, (A 13, cI Y 240 n')), (q_outputOf, (A 14, cI Y 48 p'))]) := by
  refine Ct.intro (T := tX8_circuit) (by decide) oX8_circuit (Nat.le_of_ble_eq_true rfl) (fun G C B => ?_)
  refine x_lay [(qm, (o0, cO 8 (mo A th su (nI sz) bl (nI ci) (nI ma) pa en wr))), (q_tape, (A 0, cI Y 4000 (iF tq))), (q_inputs, (A 6, cI Y 6 iA)), (q_gates, (A 7, cI Y 6 gA)), (q_outputs, (A 8, cI Y 6 oA)), (q_tabled, (A 9, cI Y 6 tA)), (q_sign, (A 10, cI Y 240 sA)), (q_left, (A 11, cI Y 240 lA)), (q_right, (A 12, cI Y 240 rA)), (q_tableOf, (A 13, cI Y 240 nA)), (q_outputOf, (A 14, cI Y 48 pA))] (lay_cons e0 (lay_cons e1 (lay_cons e2 (lay_cons e3 (lay_cons e4 (lay_cons e5 (lay_cons e6 (lay_cons e7 (lay_cons e8 (lay_cons e9 (lay_cons e10 lay_nil))))))))))) ?_
  have J260f : ∀ (pa1 wr1 ap : Int32) (i1 g1 o1 t1 s1 l1 r1 n1 p1 : Nat → Int32) (hw : 0 ≤ wr1) (hFw : (pcO tp sz sgA lfA rtA tnA ouA).2.1 = wr1) (fr : kpM ci iA gA oA tA sA lA rA nA pA i1 g1 o1 t1 s1 l1 r1 n1 p1), X G Y 0 0 260 [(0, .ref o0), (1, .int (nI ci)), (2, .int ap)] [] (ovl w [(qm, (o0, cO 8 (mo A (nI 0) su (nI 0) bl (nI ci) (nI ma) pa1 (nI sz) wr1))), (q_tape, (A 0, cI Y 4000 (iF tq))), (q_inputs, (A 6, cI Y 6 i1)), (q_gates, (A 7, cI Y 6 g1)), (q_outputs, (A 8, cI Y 6 o1)), (q_tabled, (A 9, cI Y 6 t1)), (q_sign, (A 10, cI Y 240 s1)), (q_left, (A 11, cI Y 240 l1)), (q_right, (A 12, cI Y 240 r1)), (q_tableOf, (A 13, cI Y 240 n1)), (q_outputOf, (A 14, cI Y 48 p1))]) := by
    intro pa1 wr1 ap i1 g1 o1 t1 s1 l1 r1 n1 p1 hw hFw fr
    refine x_run C 148 1 (pc' := 261) (lv' := [(0, .ref o0), (1, .int (nI ci)), (2, .int ap)]) (st' := [.ref o0]) rfl ?_
    refine x_get C 149 rfl fX8_159 N 0 rfl (v := .int wr1) rfl ?_
    refine x_if_lt C 150 rfl (tgt := 276) rfl (fun hc1 => ?_) (fun hc1 => ?_)
    · exact absurd hw (Int32.not_le.mpr hc1)
    · refine x_run C 151 2 (pc' := 271) (lv' := [(0, .ref o0), (1, .int (nI ci)), (2, .int ap)]) (st' := [.ref o0, .int (-1000)]) rfl ?_
      refine x_get C 153 rfl fX8_159 N 0 rfl (v := .int wr1) rfl ?_
      refine x_run C 154 1 (pc' := 275) (lv' := [(0, .ref o0), (1, .int (nI ci)), (2, .int ap)]) (st' := [.int ((-1000) - wr1)]) rfl ?_
      exact x_iret C B rfl 155 rfl (Nat.zero_le _) (Nat.zero_le _) ⟨by rw [hFw], _, _, _, _, _, _, _, _, _, _, _, fr, rfl⟩
  have J139f : ∀ (pa1 wr1 ap : Int32) (i1 g1 o1 t1 s1 l1 r1 n1 p1 : Nat → Int32) (hw : 0 ≤ wr1) (hFw : (pcO tp sz sgA lfA rtA tnA ouA).2.1 = wr1) (fr : kpM ci iA gA oA tA sA lA rA nA pA i1 g1 o1 t1 s1 l1 r1 n1 p1), X G Y 0 0 139 [(0, .ref o0), (1, .int (nI ci)), (2, .int ap)] [] (ovl w [(qm, (o0, cO 8 (mo A (nI 0) su (nI 0) bl (nI ci) (nI ma) pa1 (nI sz) wr1))), (q_tape, (A 0, cI Y 4000 (iF tq))), (q_inputs, (A 6, cI Y 6 i1)), (q_gates, (A 7, cI Y 6 g1)), (q_outputs, (A 8, cI Y 6 o1)), (q_tabled, (A 9, cI Y 6 t1)), (q_sign, (A 10, cI Y 240 s1)), (q_left, (A 11, cI Y 240 l1)), (q_right, (A 12, cI Y 240 r1)), (q_tableOf, (A 13, cI Y 240 n1)), (q_outputOf, (A 14, cI Y 48 p1))]) := by
    intro pa1 wr1 ap i1 g1 o1 t1 s1 l1 r1 n1 p1 hw hFw fr
    refine x_run C 78 1 (pc' := 140) (lv' := [(0, .ref o0), (1, .int (nI ci)), (2, .int ap)]) (st' := [.ref o0]) rfl ?_
    refine x_get C 79 rfl fX8_159 N 0 rfl (v := .int wr1) rfl ?_
    refine x_if_ge C 80 rfl (tgt := 260) rfl (fun hc2 => ?_) (fun hc2 => ?_)
    · exact J260f _ _ _ _ _ _ _ _ _ _ _ _ hw hFw fr
    · exact absurd hw hc2
  have J95f : ∀ (p : Nat) (wr1 : Int32) (i1 g1 o1 t1 s1 l1 r1 n1 p1 : Nat → Int32) (hp : p ≤ 60000) (hw : 0 ≤ wr1) (hFw : (pcO tp sz sgA lfA rtA tnA ouA).2.1 = wr1) (fr : kpM ci iA gA oA tA sA lA rA nA pA i1 g1 o1 t1 s1 l1 r1 n1 p1), X G Y 0 0 95 [(0, .ref o0), (1, .int (nI ci))] [] (ovl w [(qm, (o0, cO 8 (mo A (nI 0) su (nI 0) bl (nI ci) (nI ma) (nI p) (nI sz) wr1))), (q_tape, (A 0, cI Y 4000 (iF tq))), (q_inputs, (A 6, cI Y 6 i1)), (q_gates, (A 7, cI Y 6 g1)), (q_outputs, (A 8, cI Y 6 o1)), (q_tabled, (A 9, cI Y 6 t1)), (q_sign, (A 10, cI Y 240 s1)), (q_left, (A 11, cI Y 240 l1)), (q_right, (A 12, cI Y 240 r1)), (q_tableOf, (A 13, cI Y 240 n1)), (q_outputOf, (A 14, cI Y 48 p1))]) := by
    intro p wr1 i1 g1 o1 t1 s1 l1 r1 n1 p1 hp hw hFw fr
    refine x_run C 55 1 (pc' := 96) (lv' := [(0, .ref o0), (1, .int (nI ci))]) (st' := [.ref o0]) rfl ?_
    refine x_get C 56 rfl fX8_159 N 0 rfl (v := .int wr1) rfl ?_
    refine x_if_ge C 57 rfl (tgt := 123) rfl (fun hc3 => ?_) (fun hc3 => ?_)
    · refine x_run C 68 2 (pc' := 125) (lv' := [(0, .ref o0), (1, .int (nI ci))]) (st' := [.ref o0, .ref o0]) rfl ?_
      refine x_get C 70 rfl fX8_162 N 0 rfl (v := .int (nI p)) rfl ?_
      refine x_run C 71 2 (pc' := 130) (lv' := [(0, .ref o0), (1, .int (nI ci))]) (st' := [.int ((nI p) + 1), .ref o0]) rfl ?_
      refine x_st (st' := [.int (nI (p + 1)), .ref o0]) (by simp only [nlit, nI_add, pk_mul]) ?_
      refine x_put C 73 rfl pX8_162 N 0 rfl rfl rfl (Nat.le_of_ble_eq_true rfl) (os' := [(qm, (o0, cO 8 (mo A (nI 0) su (nI 0) bl (nI ci) (nI ma) (nI (p + 1)) (nI sz) wr1))), (q_tape, (A 0, cI Y 4000 (iF tq))), (q_inputs, (A 6, cI Y 6 i1)), (q_gates, (A 7, cI Y 6 g1)), (q_outputs, (A 8, cI Y 6 o1)), (q_tabled, (A 9, cI Y 6 t1)), (q_sign, (A 10, cI Y 240 s1)), (q_left, (A 11, cI Y 240 l1)), (q_right, (A 12, cI Y 240 r1)), (q_tableOf, (A 13, cI Y 240 n1)), (q_outputOf, (A 14, cI Y 48 p1))]) rfl ?_
      refine x_run C 74 1 (pc' := 134) (lv' := [(0, .ref o0), (1, .int (nI ci))]) (st' := [.ref o0]) rfl ?_
      refine x_cv C 75 (As := []) (rest := []) rfl vX8_178 N 0 rfl rfl (c_X8_blanks Y _ o0 A (nI 0) su 0 bl ci ma (p + 1) sz wr1 tq tp qm q_tape (ovl_at 0 N rfl) (ovl_at 1 N rfl) (N.ov [0, 1] (by decide) rfl) he (by omega) hT ht) rfl rfl (Nat.le_of_ble_eq_true rfl) ⟨Nat.le_of_ble_eq_true rfl, Nat.le_of_ble_eq_true rfl⟩ ⟨Nat.zero_le _, Nat.zero_le _⟩ [0, 1] ⟨rfl, rfl, trivial⟩ (os' := [(qm, (o0, cO 8 (mo A (nI 0) su (nI 0) bl (nI ci) (nI ma) (nI (skB tp sz (p + 1))) (nI sz) wr1))), (q_tape, (A 0, cI Y 4000 (iF tq))), (q_inputs, (A 6, cI Y 6 i1)), (q_gates, (A 7, cI Y 6 g1)), (q_outputs, (A 8, cI Y 6 o1)), (q_tabled, (A 9, cI Y 6 t1)), (q_sign, (A 10, cI Y 240 s1)), (q_left, (A 11, cI Y 240 l1)), (q_right, (A 12, cI Y 240 r1)), (q_tableOf, (A 13, cI Y 240 n1)), (q_outputOf, (A 14, cI Y 48 p1))]) rfl (st' := []) rfl ?_
      refine x_run C 76 2 (pc' := 139) (lv' := [(2, .int 1), (0, .ref o0), (1, .int (nI ci))]) (st' := []) rfl ?_
      refine x_sub (lv' := [(0, .ref o0), (1, .int (nI ci)), (2, .int 1)]) [1, 2, 0] rfl ?_
      exact J139f _ _ _ _ _ _ _ _ _ _ _ _ hw hFw fr
    · exact absurd hw hc3
  have J260 : ∀ (pa1 wr1 ap : Int32) (i1 g1 o1 t1 s1 l1 r1 n1 p1 : Nat → Int32) (hw : wr1 = -1) (ok : cOK tp sz ci sgA lfA rtA tnA ouA i1 g1 o1 t1 s1 l1 r1 n1 p1) (fr : kpM ci iA gA oA tA sA lA rA nA pA i1 g1 o1 t1 s1 l1 r1 n1 p1), X G Y 0 0 260 [(0, .ref o0), (1, .int (nI ci)), (2, .int ap)] [] (ovl w [(qm, (o0, cO 8 (mo A (nI 0) su (nI 0) bl (nI ci) (nI ma) pa1 (nI sz) wr1))), (q_tape, (A 0, cI Y 4000 (iF tq))), (q_inputs, (A 6, cI Y 6 i1)), (q_gates, (A 7, cI Y 6 g1)), (q_outputs, (A 8, cI Y 6 o1)), (q_tabled, (A 9, cI Y 6 t1)), (q_sign, (A 10, cI Y 240 s1)), (q_left, (A 11, cI Y 240 l1)), (q_right, (A 12, cI Y 240 r1)), (q_tableOf, (A 13, cI Y 240 n1)), (q_outputOf, (A 14, cI Y 48 p1))]) := by
    intro pa1 wr1 ap i1 g1 o1 t1 s1 l1 r1 n1 p1 hw ok fr
    exact absurd ok.f hF
  have J139p : ∀ (p : Nat) (wr1 : Int32) (i1 g1 o1 t1 s1 l1 r1 n1 p1 : Nat → Int32) (hw : wr1 = -1) (hp : p < sz) (hFp : (pcO tp sz sgA lfA rtA tnA ouA).2.1 = nI p) (fr : kpM ci iA gA oA tA sA lA rA nA pA i1 g1 o1 t1 s1 l1 r1 n1 p1), X G Y 0 0 139 [(0, .ref o0), (1, .int (nI ci)), (2, .int 0)] [] (ovl w [(qm, (o0, cO 8 (mo A (nI 0) su (nI 0) bl (nI ci) (nI ma) (nI p) (nI sz) wr1))), (q_tape, (A 0, cI Y 4000 (iF tq))), (q_inputs, (A 6, cI Y 6 i1)), (q_gates, (A 7, cI Y 6 g1)), (q_outputs, (A 8, cI Y 6 o1)), (q_tabled, (A 9, cI Y 6 t1)), (q_sign, (A 10, cI Y 240 s1)), (q_left, (A 11, cI Y 240 l1)), (q_right, (A 12, cI Y 240 r1)), (q_tableOf, (A 13, cI Y 240 n1)), (q_outputOf, (A 14, cI Y 48 p1))]) := by
    intro p wr1 i1 g1 o1 t1 s1 l1 r1 n1 p1 hw hp hFp fr
    subst hw
    refine x_run C 78 1 (pc' := 140) (lv' := [(0, .ref o0), (1, .int (nI ci)), (2, .int 0)]) (st' := [.ref o0]) rfl ?_
    refine x_get C 79 rfl fX8_159 N 0 rfl (v := .int (-1)) rfl ?_
    refine x_if_ge C 80 rfl (tgt := 260) rfl (fun hc4 => ?_) (fun hc4 => ?_)
    · exact absurd hc4 neg1
    · refine x_run C 81 1 (pc' := 147) (lv' := [(0, .ref o0), (1, .int (nI ci)), (2, .int 0)]) (st' := [.ref o0]) rfl ?_
      refine x_get C 82 rfl fX8_162 N 0 rfl (v := .int (nI p)) rfl ?_
      refine x_run C 83 1 (pc' := 151) (lv' := [(0, .ref o0), (1, .int (nI ci)), (2, .int 0)]) (st' := [.ref o0, .int (nI p)]) rfl ?_
      refine x_get C 84 rfl fX8_165 N 0 rfl (v := .int (nI sz)) rfl ?_
      refine x_icmpN_lt C 85 (by omega) (by omega) rfl (tgt := 166) rfl (fun hc5 => ?_) (fun hc5 => ?_)
      · refine x_run C 91 1 (pc' := 167) (lv' := [(0, .ref o0), (1, .int (nI ci)), (2, .int 0)]) (st' := [.ref o0]) rfl ?_
        refine x_get C 92 rfl fX8_34 N 0 rfl (v := .ref (A 8)) rfl ?_
        refine x_run C 93 1 (pc' := 171) (lv' := [(0, .ref o0), (1, .int (nI ci)), (2, .int 0)]) (st' := [.int (nI ci), .ref (A 8)]) rfl ?_
        refine x_ialdN C 94 rfl N 4 rfl (by omega) (by omega) ?_
        refine x_run C 95 1 (pc' := 174) (lv' := [(0, .ref o0), (1, .int (nI ci)), (2, .int 0)]) (st' := [.int 8, .int (o1 ci)]) rfl ?_
        refine x_icmp_eq C 96 rfl (tgt := 181) rfl (fun hc6 => ?_) (fun hc6 => ?_)
        · refine x_run C 99 2 (pc' := 183) (lv' := [(0, .ref o0), (1, .int (nI ci)), (2, .int 0)]) (st' := [.ref o0, .ref o0]) rfl ?_
          refine x_get C 101 rfl fX8_162 N 0 rfl (v := .int (nI p)) rfl ?_
          refine x_cv C 102 (As := [.int (nI p)]) (rest := []) rfl vX8_175 N 0 rfl rfl (c_X8_fault Y _ o0 A (nI 0) su 0 bl ci ma (nI p) (nI sz) (-1) (nI p) qm (ovl_at 0 N rfl) (N.ov [0] (by decide) rfl) ) rfl rfl (Nat.le_of_ble_eq_true rfl) ⟨Nat.le_of_ble_eq_true rfl, Nat.le_of_ble_eq_true rfl⟩ ⟨Nat.zero_le _, Nat.zero_le _⟩ [0] ⟨rfl, trivial⟩ (os' := [(qm, (o0, cO 8 (mo A (nI 0) su (nI 0) bl (nI ci) (nI ma) (nI p) (nI sz) (flt (-1) (nI p))))), (q_tape, (A 0, cI Y 4000 (iF tq))), (q_inputs, (A 6, cI Y 6 i1)), (q_gates, (A 7, cI Y 6 g1)), (q_outputs, (A 8, cI Y 6 o1)), (q_tabled, (A 9, cI Y 6 t1)), (q_sign, (A 10, cI Y 240 s1)), (q_left, (A 11, cI Y 240 l1)), (q_right, (A 12, cI Y 240 r1)), (q_tableOf, (A 13, cI Y 240 n1)), (q_outputOf, (A 14, cI Y 48 p1))]) rfl (st' := []) rfl ?_
          refine x_run C 103 1 (pc' := 139) (lv' := [(0, .ref o0), (1, .int (nI ci)), (2, .int 0)]) (st' := []) rfl ?_
          exact J139f _ _ _ _ _ _ _ _ _ _ _ _ (by rw [flt_n]; exact nI_nn (by omega)) (by rw [flt_n]; exact hFp) fr
        · refine x_run C 97 1 (pc' := 178) (lv' := [(0, .ref o0), (1, .int (nI ci)), (2, .int 0)]) (st' := [.int 0]) rfl ?_
          refine x_st (st' := [.int (nI 0)]) (by simp only [nlit, nI_add, pk_mul]) ?_
          refine x_ifN_ne C 98 (by omega) rfl (tgt := 192) rfl (fun hc7 => absurd hc7 (by omega)) (fun hc7 => ?_)
          refine x_run C 99 2 (pc' := 183) (lv' := [(0, .ref o0), (1, .int (nI ci)), (2, .int 0)]) (st' := [.ref o0, .ref o0]) rfl ?_
          refine x_get C 101 rfl fX8_162 N 0 rfl (v := .int (nI p)) rfl ?_
          refine x_cv C 102 (As := [.int (nI p)]) (rest := []) rfl vX8_175 N 0 rfl rfl (c_X8_fault Y _ o0 A (nI 0) su 0 bl ci ma (nI p) (nI sz) (-1) (nI p) qm (ovl_at 0 N rfl) (N.ov [0] (by decide) rfl) ) rfl rfl (Nat.le_of_ble_eq_true rfl) ⟨Nat.le_of_ble_eq_true rfl, Nat.le_of_ble_eq_true rfl⟩ ⟨Nat.zero_le _, Nat.zero_le _⟩ [0] ⟨rfl, trivial⟩ (os' := [(qm, (o0, cO 8 (mo A (nI 0) su (nI 0) bl (nI ci) (nI ma) (nI p) (nI sz) (flt (-1) (nI p))))), (q_tape, (A 0, cI Y 4000 (iF tq))), (q_inputs, (A 6, cI Y 6 i1)), (q_gates, (A 7, cI Y 6 g1)), (q_outputs, (A 8, cI Y 6 o1)), (q_tabled, (A 9, cI Y 6 t1)), (q_sign, (A 10, cI Y 240 s1)), (q_left, (A 11, cI Y 240 l1)), (q_right, (A 12, cI Y 240 r1)), (q_tableOf, (A 13, cI Y 240 n1)), (q_outputOf, (A 14, cI Y 48 p1))]) rfl (st' := []) rfl ?_
          refine x_run C 103 1 (pc' := 139) (lv' := [(0, .ref o0), (1, .int (nI ci)), (2, .int 0)]) (st' := []) rfl ?_
          exact J139f _ _ _ _ _ _ _ _ _ _ _ _ (by rw [flt_n]; exact nI_nn (by omega)) (by rw [flt_n]; exact hFp) fr
      · exact absurd hp (by omega)
  have L139 : (1 ≤ (pcN tp sz) ∧ (pcN tp sz) ≤ 16) → ∀ i, i ≤ 8 → ∀ (Q : oQ) (p : Nat) (wr1 ap : Int32) (i1 g1 o1 t1 s1 l1 r1 n1 p1 : Nat → Int32) (hw : wr1 = -1) (G_ : gE ci (pcN tp sz) (pcQ tp sz sgA lfA rtA tnA) i1 g1 t1 s1 l1 r1 n1) (fr : kpM ci iA gA oA tA sA lA rA nA pA i1 g1 o1 t1 s1 l1 r1 n1 p1) (R : oR tp sz (pcN tp sz + (pcQ tp sz sgA lfA rtA tnA).2.2.1) ci i Q ((pcQ tp sz sgA lfA rtA tnA).1, (pcQ tp sz sgA lfA rtA tnA).2.1, 0, ouA) p ap o1 p1), X G Y 0 0 139 [(0, .ref o0), (1, .int (nI ci)), (2, .int ap)] [] (ovl w [(qm, (o0, cO 8 (mo A (nI 0) su (nI 0) bl (nI ci) (nI ma) (nI p) (nI sz) wr1))), (q_tape, (A 0, cI Y 4000 (iF tq))), (q_inputs, (A 6, cI Y 6 i1)), (q_gates, (A 7, cI Y 6 g1)), (q_outputs, (A 8, cI Y 6 o1)), (q_tabled, (A 9, cI Y 6 t1)), (q_sign, (A 10, cI Y 240 s1)), (q_left, (A 11, cI Y 240 l1)), (q_right, (A 12, cI Y 240 r1)), (q_tableOf, (A 13, cI Y 240 n1)), (q_outputOf, (A 14, cI Y 48 p1))]) := by
    intro hn1 i hi
    refine x_up (fun i => ∀ (Q : oQ) (p : Nat) (wr1 ap : Int32) (i1 g1 o1 t1 s1 l1 r1 n1 p1 : Nat → Int32) (hw : wr1 = -1) (G_ : gE ci (pcN tp sz) (pcQ tp sz sgA lfA rtA tnA) i1 g1 t1 s1 l1 r1 n1) (fr : kpM ci iA gA oA tA sA lA rA nA pA i1 g1 o1 t1 s1 l1 r1 n1 p1) (R : oR tp sz (pcN tp sz + (pcQ tp sz sgA lfA rtA tnA).2.2.1) ci i Q ((pcQ tp sz sgA lfA rtA tnA).1, (pcQ tp sz sgA lfA rtA tnA).2.1, 0, ouA) p ap o1 p1), X G Y 0 0 139 [(0, .ref o0), (1, .int (nI ci)), (2, .int ap)] [] (ovl w [(qm, (o0, cO 8 (mo A (nI 0) su (nI 0) bl (nI ci) (nI ma) (nI p) (nI sz) wr1))), (q_tape, (A 0, cI Y 4000 (iF tq))), (q_inputs, (A 6, cI Y 6 i1)), (q_gates, (A 7, cI Y 6 g1)), (q_outputs, (A 8, cI Y 6 o1)), (q_tabled, (A 9, cI Y 6 t1)), (q_sign, (A 10, cI Y 240 s1)), (q_left, (A 11, cI Y 240 l1)), (q_right, (A 12, cI Y 240 r1)), (q_tableOf, (A 13, cI Y 240 n1)), (q_outputOf, (A 14, cI Y 48 p1))])) 8 ?_ ?_ i hi
    · intro Q p wr1 ap i1 g1 o1 t1 s1 l1 r1 n1 p1 hw G_ fr R
      subst hw
      have h9 := skB_spec tp sz Q.1
      have hb := R.b
      have hpp := R.hp
      have g4 := G_.g4
      have h8 := ndg_spec tp sz p
      have h7 := skB_spec tp sz (p + ndg tp sz p)
      refine x_run C 78 1 (pc' := 140) (lv' := [(0, .ref o0), (1, .int (nI ci)), (2, .int ap)]) (st' := [.ref o0]) rfl ?_
      refine x_get C 79 rfl fX8_159 N 0 rfl (v := .int (-1)) rfl ?_
      refine x_if_ge C 80 rfl (tgt := 260) rfl (fun hc8 => ?_) (fun hc8 => ?_)
      · exact absurd hc8 neg1
      · refine x_run C 81 1 (pc' := 147) (lv' := [(0, .ref o0), (1, .int (nI ci)), (2, .int ap)]) (st' := [.ref o0]) rfl ?_
        refine x_get C 82 rfl fX8_162 N 0 rfl (v := .int (nI p)) rfl ?_
        refine x_run C 83 1 (pc' := 151) (lv' := [(0, .ref o0), (1, .int (nI ci)), (2, .int ap)]) (st' := [.ref o0, .int (nI p)]) rfl ?_
        refine x_get C 84 rfl fX8_165 N 0 rfl (v := .int (nI sz)) rfl ?_
        refine x_icmpN_lt C 85 (by omega) (by omega) rfl (tgt := 166) rfl (fun hc9 => ?_) (fun hc9 => ?_)
        · refine x_run C 91 1 (pc' := 167) (lv' := [(0, .ref o0), (1, .int (nI ci)), (2, .int ap)]) (st' := [.ref o0]) rfl ?_
          refine x_get C 92 rfl fX8_34 N 0 rfl (v := .ref (A 8)) rfl ?_
          refine x_run C 93 1 (pc' := 171) (lv' := [(0, .ref o0), (1, .int (nI ci)), (2, .int ap)]) (st' := [.int (nI ci), .ref (A 8)]) rfl ?_
          refine x_ialdN C 94 rfl N 4 rfl (by omega) (by omega) ?_
          refine x_st (st' := [.int (nI 8)]) (by rw [R.o]) ?_
          refine x_run C 95 1 (pc' := 174) (lv' := [(0, .ref o0), (1, .int (nI ci)), (2, .int ap)]) (st' := [.int 8, .int (nI 8)]) rfl ?_
          refine x_st (st' := [.int (nI 8), .int (nI 8)]) (by simp only [nlit, nI_add, pk_mul]) ?_
          refine x_icmpN_eq C 96 (by omega) (by omega) rfl (tgt := 181) rfl (fun hc10 => ?_) (fun hc10 => ?_)
          · refine x_run C 99 2 (pc' := 183) (lv' := [(0, .ref o0), (1, .int (nI ci)), (2, .int ap)]) (st' := [.ref o0, .ref o0]) rfl ?_
            refine x_get C 101 rfl fX8_162 N 0 rfl (v := .int (nI p)) rfl ?_
            refine x_cv C 102 (As := [.int (nI p)]) (rest := []) rfl vX8_175 N 0 rfl rfl (c_X8_fault Y _ o0 A (nI 0) su 0 bl ci ma (nI p) (nI sz) (-1) (nI p) qm (ovl_at 0 N rfl) (N.ov [0] (by decide) rfl) ) rfl rfl (Nat.le_of_ble_eq_true rfl) ⟨Nat.le_of_ble_eq_true rfl, Nat.le_of_ble_eq_true rfl⟩ ⟨Nat.zero_le _, Nat.zero_le _⟩ [0] ⟨rfl, trivial⟩ (os' := [(qm, (o0, cO 8 (mo A (nI 0) su (nI 0) bl (nI ci) (nI ma) (nI p) (nI sz) (flt (-1) (nI p))))), (q_tape, (A 0, cI Y 4000 (iF tq))), (q_inputs, (A 6, cI Y 6 i1)), (q_gates, (A 7, cI Y 6 g1)), (q_outputs, (A 8, cI Y 6 o1)), (q_tabled, (A 9, cI Y 6 t1)), (q_sign, (A 10, cI Y 240 s1)), (q_left, (A 11, cI Y 240 l1)), (q_right, (A 12, cI Y 240 r1)), (q_tableOf, (A 13, cI Y 240 n1)), (q_outputOf, (A 14, cI Y 48 p1))]) rfl (st' := []) rfl ?_
            refine x_run C 103 1 (pc' := 139) (lv' := [(0, .ref o0), (1, .int (nI ci)), (2, .int ap)]) (st' := []) rfl ?_
            have q : (pcO tp sz sgA lfA rtA tnA ouA).2.1 = nI p := by unfold pcO; exact oR_F ht he R (by omega) (by omega) (Or.inl rfl)
            exact J139f _ _ _ _ _ _ _ _ _ _ _ _ (by rw [flt_n]; exact nI_nn (by omega)) (by rw [flt_n]; exact q) fr
          · exact absurd (by omega) hc10
        · refine x_run C 86 1 (pc' := 158) (lv' := [(0, .ref o0), (1, .int (nI ci)), (2, .int ap)]) (st' := [.ref o0]) rfl ?_
          refine x_get C 87 rfl fX8_34 N 0 rfl (v := .ref (A 8)) rfl ?_
          refine x_run C 88 1 (pc' := 162) (lv' := [(0, .ref o0), (1, .int (nI ci)), (2, .int ap)]) (st' := [.int (nI ci), .ref (A 8)]) rfl ?_
          refine x_ialdN C 89 rfl N 4 rfl (by omega) (by omega) ?_
          refine x_st (st' := [.int (nI 8)]) (by rw [R.o]) ?_
          refine x_ifN_ne C 90 (by omega) rfl (tgt := 260) rfl (fun hc11 => ?_) (fun hc11 => ?_)
          · exact J260 _ _ _ _ _ _ _ _ _ _ _ _ rfl (cOK_of ht G_ R (by omega) (by omega) (by omega)) fr
          · exact absurd hc11 (by omega)
    · intro i hi8 ih; intro Q p wr1 ap i1 g1 o1 t1 s1 l1 r1 n1 p1 hw G_ fr R
      subst hw
      have h9 := skB_spec tp sz Q.1
      have hb := R.b
      have hpp := R.hp
      have g4 := G_.g4
      have h8 := ndg_spec tp sz p
      have h7 := skB_spec tp sz (p + ndg tp sz p)
      refine x_run C 78 1 (pc' := 140) (lv' := [(0, .ref o0), (1, .int (nI ci)), (2, .int ap)]) (st' := [.ref o0]) rfl ?_
      refine x_get C 79 rfl fX8_159 N 0 rfl (v := .int (-1)) rfl ?_
      refine x_if_ge C 80 rfl (tgt := 260) rfl (fun hc12 => ?_) (fun hc12 => ?_)
      · exact absurd hc12 neg1
      · refine x_run C 81 1 (pc' := 147) (lv' := [(0, .ref o0), (1, .int (nI ci)), (2, .int ap)]) (st' := [.ref o0]) rfl ?_
        refine x_get C 82 rfl fX8_162 N 0 rfl (v := .int (nI p)) rfl ?_
        refine x_run C 83 1 (pc' := 151) (lv' := [(0, .ref o0), (1, .int (nI ci)), (2, .int ap)]) (st' := [.ref o0, .int (nI p)]) rfl ?_
        refine x_get C 84 rfl fX8_165 N 0 rfl (v := .int (nI sz)) rfl ?_
        refine x_icmpN_lt C 85 (by omega) (by omega) rfl (tgt := 166) rfl (fun hc13 => ?_) (fun hc13 => ?_)
        · refine x_run C 91 1 (pc' := 167) (lv' := [(0, .ref o0), (1, .int (nI ci)), (2, .int ap)]) (st' := [.ref o0]) rfl ?_
          refine x_get C 92 rfl fX8_34 N 0 rfl (v := .ref (A 8)) rfl ?_
          refine x_run C 93 1 (pc' := 171) (lv' := [(0, .ref o0), (1, .int (nI ci)), (2, .int ap)]) (st' := [.int (nI ci), .ref (A 8)]) rfl ?_
          refine x_ialdN C 94 rfl N 4 rfl (by omega) (by omega) ?_
          refine x_st (st' := [.int (nI i)]) (by rw [R.o]) ?_
          refine x_run C 95 1 (pc' := 174) (lv' := [(0, .ref o0), (1, .int (nI ci)), (2, .int ap)]) (st' := [.int 8, .int (nI i)]) rfl ?_
          refine x_st (st' := [.int (nI 8), .int (nI i)]) (by simp only [nlit, nI_add, pk_mul]) ?_
          refine x_icmpN_eq C 96 (by omega) (by omega) rfl (tgt := 181) rfl (fun hc14 => ?_) (fun hc14 => ?_)
          · exact absurd hc14 (by omega)
          · refine x_run C 97 1 (pc' := 178) (lv' := [(0, .ref o0), (1, .int (nI ci)), (2, .int ap)]) (st' := [.int ap]) rfl ?_
            refine x_if_ne C 98 rfl (tgt := 192) rfl (fun hc15 => ?_) (fun hc15 => ?_)
            · refine x_run C 104 1 (pc' := 193) (lv' := [(0, .ref o0), (1, .int (nI ci)), (2, .int ap)]) (st' := [.ref o0]) rfl ?_
              refine x_get C 105 rfl fX8_52 N 0 rfl (v := .ref (A 14)) rfl ?_
              refine x_run C 106 4 (pc' := 201) (lv' := [(0, .ref o0), (1, .int (nI ci)), (2, .int ap)]) (st' := [.ref o0, .int (8 * (nI ci)), .ref (A 14)]) rfl ?_
              refine x_get C 110 rfl fX8_34 N 0 rfl (v := .ref (A 8)) rfl ?_
              refine x_run C 111 1 (pc' := 205) (lv' := [(0, .ref o0), (1, .int (nI ci)), (2, .int ap)]) (st' := [.int (nI ci), .ref (A 8), .int (8 * (nI ci)), .ref (A 14)]) rfl ?_
              refine x_ialdN C 112 rfl N 4 rfl (by omega) (by omega) ?_
              refine x_st (st' := [.int (nI i), .int (8 * (nI ci)), .ref (A 14)]) (by rw [R.o]) ?_
              refine x_run C 113 4 (pc' := 210) (lv' := [(0, .ref o0), (1, .int (nI ci)), (2, .int ap)]) (st' := [.ref o0, .int 0, .ref o0, .int ((8 * (nI ci)) + (nI i)), .ref (A 14)]) rfl ?_
              refine x_get C 117 rfl fX8_28 N 0 rfl (v := .ref (A 6)) rfl ?_
              refine x_run C 118 1 (pc' := 214) (lv' := [(0, .ref o0), (1, .int (nI ci)), (2, .int ap)]) (st' := [.int (nI ci), .ref (A 6), .int 0, .ref o0, .int ((8 * (nI ci)) + (nI i)), .ref (A 14)]) rfl ?_
              refine x_ialdN C 119 rfl N 2 rfl (by omega) (by omega) ?_
              refine x_st (st' := [.int (nI (pcN tp sz)), .int 0, .ref o0, .int ((8 * (nI ci)) + (nI i)), .ref (A 14)]) (by rw [G_.hn]) ?_
              refine x_run C 120 1 (pc' := 216) (lv' := [(0, .ref o0), (1, .int (nI ci)), (2, .int ap)]) (st' := [.ref o0, .int (nI (pcN tp sz)), .int 0, .ref o0, .int ((8 * (nI ci)) + (nI i)), .ref (A 14)]) rfl ?_
              refine x_get C 121 rfl fX8_31 N 0 rfl (v := .ref (A 7)) rfl ?_
              refine x_run C 122 1 (pc' := 220) (lv' := [(0, .ref o0), (1, .int (nI ci)), (2, .int ap)]) (st' := [.int (nI ci), .ref (A 7), .int (nI (pcN tp sz)), .int 0, .ref o0, .int ((8 * (nI ci)) + (nI i)), .ref (A 14)]) rfl ?_
              refine x_ialdN C 123 rfl N 3 rfl (by omega) (by omega) ?_
              refine x_st (st' := [.int (nI (pcQ tp sz sgA lfA rtA tnA).2.2.1), .int (nI (pcN tp sz)), .int 0, .ref o0, .int ((8 * (nI ci)) + (nI i)), .ref (A 14)]) (by rw [G_.hg]) ?_
              refine x_run C 124 3 (pc' := 224) (lv' := [(0, .ref o0), (1, .int (nI ci)), (2, .int ap)]) (st' := [.int (((nI (pcN tp sz)) + (nI (pcQ tp sz sgA lfA rtA tnA).2.2.1)) - 1), .int 0, .ref o0, .int ((8 * (nI ci)) + (nI i)), .ref (A 14)]) rfl ?_
              refine x_st (st' := [.int (nI (((pcN tp sz) + (pcQ tp sz sgA lfA rtA tnA).2.2.1) - 1)), .int 0, .ref o0, .int ((8 * (nI ci)) + (nI i)), .ref (A 14)]) (by simp only [nlit, nI_add, pk_mul, pk_sub (show 1 ≤ ((pcN tp sz) + (pcQ tp sz sgA lfA rtA tnA).2.2.1) by omega)]) ?_
              refine x_cv C 127 (As := [.int 0, .int (nI (((pcN tp sz) + (pcQ tp sz sgA lfA rtA tnA).2.2.1) - 1))]) (rest := [.int ((8 * (nI ci)) + (nI i)), .ref (A 14)]) rfl vX8_184 N 0 rfl rfl (c_X8_number Y _ o0 A (nI 0) su 0 bl ci ma p sz (-1) tq tp 0 (nI (((pcN tp sz) + (pcQ tp sz sgA lfA rtA tnA).2.2.1) - 1)) qm q_tape (ovl_at 0 N rfl) (ovl_at 1 N rfl) (N.ov [0, 1] (by decide) rfl) he (by omega) hT ht) rfl rfl (Nat.le_of_ble_eq_true rfl) ⟨Nat.le_of_ble_eq_true rfl, Nat.le_of_ble_eq_true rfl⟩ ⟨Nat.zero_le _, Nat.zero_le _⟩ [0, 1] ⟨rfl, rfl, trivial⟩ (os' := [(qm, (o0, cO 8 (mo A (nI 0) su (nI 0) bl (nI ci) (nI ma) (nI (p + (ndg tp sz p))) (nI sz) (mnW tp sz 0 (nI (((pcN tp sz) + (pcQ tp sz sgA lfA rtA tnA).2.2.1) - 1)) p (-1))))), (q_tape, (A 0, cI Y 4000 (iF tq))), (q_inputs, (A 6, cI Y 6 i1)), (q_gates, (A 7, cI Y 6 g1)), (q_outputs, (A 8, cI Y 6 o1)), (q_tabled, (A 9, cI Y 6 t1)), (q_sign, (A 10, cI Y 240 s1)), (q_left, (A 11, cI Y 240 l1)), (q_right, (A 12, cI Y 240 r1)), (q_tableOf, (A 13, cI Y 240 n1)), (q_outputOf, (A 14, cI Y 48 p1))]) rfl (st' := [.int (dvI tp sz p (ndg tp sz p)), .int ((8 * (nI ci)) + (nI i)), .ref (A 14)]) rfl ?_
              refine x_st (st' := [.int (dvI tp sz p (ndg tp sz p)), .int (nI ((8 * ci) + i)), .ref (A 14)]) (by simp only [nlit, nI_add, pk_mul]) ?_
              refine x_iastN C 128 rfl N 10 rfl (by omega) (by omega) (os' := [(qm, (o0, cO 8 (mo A (nI 0) su (nI 0) bl (nI ci) (nI ma) (nI (p + (ndg tp sz p))) (nI sz) (mnW tp sz 0 (nI (((pcN tp sz) + (pcQ tp sz sgA lfA rtA tnA).2.2.1) - 1)) p (-1))))), (q_tape, (A 0, cI Y 4000 (iF tq))), (q_inputs, (A 6, cI Y 6 i1)), (q_gates, (A 7, cI Y 6 g1)), (q_outputs, (A 8, cI Y 6 o1)), (q_tabled, (A 9, cI Y 6 t1)), (q_sign, (A 10, cI Y 240 s1)), (q_left, (A 11, cI Y 240 l1)), (q_right, (A 12, cI Y 240 r1)), (q_tableOf, (A 13, cI Y 240 n1)), (q_outputOf, (A 14, cI Y 48 (upd p1 ((8 * ci) + i) (dvI tp sz p (ndg tp sz p)))))]) rfl ?_
              refine x_run C 129 1 (pc' := 229) (lv' := [(0, .ref o0), (1, .int (nI ci)), (2, .int ap)]) (st' := [.ref o0]) rfl ?_
              refine x_get C 130 rfl fX8_34 N 0 rfl (v := .ref (A 8)) rfl ?_
              refine x_run C 131 2 (pc' := 234) (lv' := [(0, .ref o0), (1, .int (nI ci)), (2, .int ap)]) (st' := [.int (nI ci), .ref (A 8), .int (nI ci), .ref (A 8)]) rfl ?_
              refine x_ialdN C 133 rfl N 4 rfl (by omega) (by omega) ?_
              refine x_st (st' := [.int (nI i), .int (nI ci), .ref (A 8)]) (by rw [R.o]) ?_
              refine x_run C 134 2 (pc' := 237) (lv' := [(0, .ref o0), (1, .int (nI ci)), (2, .int ap)]) (st' := [.int ((nI i) + 1), .int (nI ci), .ref (A 8)]) rfl ?_
              refine x_iastN C 136 rfl N 4 rfl (by omega) (by omega) (os' := [(qm, (o0, cO 8 (mo A (nI 0) su (nI 0) bl (nI ci) (nI ma) (nI (p + (ndg tp sz p))) (nI sz) (mnW tp sz 0 (nI (((pcN tp sz) + (pcQ tp sz sgA lfA rtA tnA).2.2.1) - 1)) p (-1))))), (q_tape, (A 0, cI Y 4000 (iF tq))), (q_inputs, (A 6, cI Y 6 i1)), (q_gates, (A 7, cI Y 6 g1)), (q_outputs, (A 8, cI Y 6 (upd o1 ci ((nI i) + 1)))), (q_tabled, (A 9, cI Y 6 t1)), (q_sign, (A 10, cI Y 240 s1)), (q_left, (A 11, cI Y 240 l1)), (q_right, (A 12, cI Y 240 r1)), (q_tableOf, (A 13, cI Y 240 n1)), (q_outputOf, (A 14, cI Y 48 (upd p1 ((8 * ci) + i) (dvI tp sz p (ndg tp sz p)))))]) rfl ?_
              refine x_run C 137 1 (pc' := 239) (lv' := [(0, .ref o0), (1, .int (nI ci)), (2, .int ap)]) (st' := [.ref o0]) rfl ?_
              refine x_cv C 138 (As := []) (rest := []) rfl vX8_168 N 0 rfl rfl (c_X8_byteAt Y _ o0 A (nI 0) su 0 bl ci ma (p + (ndg tp sz p)) sz (mnW tp sz 0 (nI (((pcN tp sz) + (pcQ tp sz sgA lfA rtA tnA).2.2.1) - 1)) p (-1)) tq tp qm q_tape (ovl_at 0 N rfl) (ovl_at 1 N rfl) (N.ov [0, 1] (by decide) rfl) he (by omega) hT ht) rfl rfl (Nat.le_of_ble_eq_true rfl) ⟨Nat.le_of_ble_eq_true rfl, Nat.le_of_ble_eq_true rfl⟩ ⟨Nat.zero_le _, Nat.zero_le _⟩ [0, 1] ⟨rfl, rfl, trivial⟩ (os' := [(qm, (o0, cO 8 (mo A (nI 0) su (nI 0) bl (nI ci) (nI ma) (nI (p + (ndg tp sz p))) (nI sz) (mnW tp sz 0 (nI (((pcN tp sz) + (pcQ tp sz sgA lfA rtA tnA).2.2.1) - 1)) p (-1))))), (q_tape, (A 0, cI Y 4000 (iF tq))), (q_inputs, (A 6, cI Y 6 i1)), (q_gates, (A 7, cI Y 6 g1)), (q_outputs, (A 8, cI Y 6 (upd o1 ci ((nI i) + 1)))), (q_tabled, (A 9, cI Y 6 t1)), (q_sign, (A 10, cI Y 240 s1)), (q_left, (A 11, cI Y 240 l1)), (q_right, (A 12, cI Y 240 r1)), (q_tableOf, (A 13, cI Y 240 n1)), (q_outputOf, (A 14, cI Y 48 (upd p1 ((8 * ci) + i) (dvI tp sz p (ndg tp sz p)))))]) rfl (st' := [.int (lkC tp sz (p + (ndg tp sz p)))]) rfl ?_
              refine x_run C 139 1 (pc' := 244) (lv' := [(0, .ref o0), (1, .int (nI ci)), (2, .int ap)]) (st' := [.int 32, .int (lkC tp sz (p + (ndg tp sz p)))]) rfl ?_
              refine x_icmp_ne C 140 rfl (tgt := 251) rfl (fun hc16 => ?_) (fun hc16 => ?_)
              · refine x_run C 143 3 (pc' := 254) (lv' := [(2, .int 0), (0, .ref o0), (1, .int (nI ci))]) (st' := [.ref o0]) rfl ?_
                refine x_cv C 146 (As := []) (rest := []) rfl vX8_178 N 0 rfl rfl (c_X8_blanks Y _ o0 A (nI 0) su 0 bl ci ma (p + (ndg tp sz p)) sz (mnW tp sz 0 (nI (((pcN tp sz) + (pcQ tp sz sgA lfA rtA tnA).2.2.1) - 1)) p (-1)) tq tp qm q_tape (ovl_at 0 N rfl) (ovl_at 1 N rfl) (N.ov [0, 1] (by decide) rfl) he (by omega) hT ht) rfl rfl (Nat.le_of_ble_eq_true rfl) ⟨Nat.le_of_ble_eq_true rfl, Nat.le_of_ble_eq_true rfl⟩ ⟨Nat.zero_le _, Nat.zero_le _⟩ [0, 1] ⟨rfl, rfl, trivial⟩ (os' := [(qm, (o0, cO 8 (mo A (nI 0) su (nI 0) bl (nI ci) (nI ma) (nI (skB tp sz (p + (ndg tp sz p)))) (nI sz) (mnW tp sz 0 (nI (((pcN tp sz) + (pcQ tp sz sgA lfA rtA tnA).2.2.1) - 1)) p (-1))))), (q_tape, (A 0, cI Y 4000 (iF tq))), (q_inputs, (A 6, cI Y 6 i1)), (q_gates, (A 7, cI Y 6 g1)), (q_outputs, (A 8, cI Y 6 (upd o1 ci ((nI i) + 1)))), (q_tabled, (A 9, cI Y 6 t1)), (q_sign, (A 10, cI Y 240 s1)), (q_left, (A 11, cI Y 240 l1)), (q_right, (A 12, cI Y 240 r1)), (q_tableOf, (A 13, cI Y 240 n1)), (q_outputOf, (A 14, cI Y 48 (upd p1 ((8 * ci) + i) (dvI tp sz p (ndg tp sz p)))))]) rfl (st' := []) rfl ?_
                refine x_run C 147 1 (pc' := 139) (lv' := [(2, .int 0), (0, .ref o0), (1, .int (nI ci))]) (st' := []) rfl ?_
                refine x_sub (lv' := [(0, .ref o0), (1, .int (nI ci)), (2, .int 0)]) [1, 2, 0] rfl ?_
                rcases oR_s ht he R (by omega) (by omega) with ⟨a, q⟩ | ⟨a, d, q⟩ | ⟨a, q⟩
                · exact J139f _ _ _ _ _ _ _ _ _ _ _ _ a (by unfold pcO; exact q) (kpM_o fr _ _ _)
                · have st := skB_stay (dgt_32 d)
                  have lt : p + ndg tp sz p < sz := Classical.byContradiction (fun z => dgt_n1 d ((lk_n1 ht).mpr z))
                  exact J139p _ _ _ _ _ _ _ _ _ _ _ a (by rw [st]; exact lt) (by rw [st]; unfold pcO; exact q) (kpM_o fr _ _ _)
                · have z := q _ rfl
                  rw [if_neg hc16] at z
                  rw [show nI (i + 1) = nI i + 1 from (nI_add i 1).symm] at z
                  exact ih _ _ _ _ _ _ _ _ _ _ _ _ _ a G_ (kpM_o fr _ _ _) z
              · refine x_run C 141 2 (pc' := 252) (lv' := [(0, .ref o0), (1, .int (nI ci)), (2, .int ap)]) (st' := [.int 1]) rfl ?_
                refine x_run C 144 2 (pc' := 254) (lv' := [(2, .int 1), (0, .ref o0), (1, .int (nI ci))]) (st' := [.ref o0]) rfl ?_
                refine x_cv C 146 (As := []) (rest := []) rfl vX8_178 N 0 rfl rfl (c_X8_blanks Y _ o0 A (nI 0) su 0 bl ci ma (p + (ndg tp sz p)) sz (mnW tp sz 0 (nI (((pcN tp sz) + (pcQ tp sz sgA lfA rtA tnA).2.2.1) - 1)) p (-1)) tq tp qm q_tape (ovl_at 0 N rfl) (ovl_at 1 N rfl) (N.ov [0, 1] (by decide) rfl) he (by omega) hT ht) rfl rfl (Nat.le_of_ble_eq_true rfl) ⟨Nat.le_of_ble_eq_true rfl, Nat.le_of_ble_eq_true rfl⟩ ⟨Nat.zero_le _, Nat.zero_le _⟩ [0, 1] ⟨rfl, rfl, trivial⟩ (os' := [(qm, (o0, cO 8 (mo A (nI 0) su (nI 0) bl (nI ci) (nI ma) (nI (skB tp sz (p + (ndg tp sz p)))) (nI sz) (mnW tp sz 0 (nI (((pcN tp sz) + (pcQ tp sz sgA lfA rtA tnA).2.2.1) - 1)) p (-1))))), (q_tape, (A 0, cI Y 4000 (iF tq))), (q_inputs, (A 6, cI Y 6 i1)), (q_gates, (A 7, cI Y 6 g1)), (q_outputs, (A 8, cI Y 6 (upd o1 ci ((nI i) + 1)))), (q_tabled, (A 9, cI Y 6 t1)), (q_sign, (A 10, cI Y 240 s1)), (q_left, (A 11, cI Y 240 l1)), (q_right, (A 12, cI Y 240 r1)), (q_tableOf, (A 13, cI Y 240 n1)), (q_outputOf, (A 14, cI Y 48 (upd p1 ((8 * ci) + i) (dvI tp sz p (ndg tp sz p)))))]) rfl (st' := []) rfl ?_
                refine x_run C 147 1 (pc' := 139) (lv' := [(2, .int 1), (0, .ref o0), (1, .int (nI ci))]) (st' := []) rfl ?_
                refine x_sub (lv' := [(0, .ref o0), (1, .int (nI ci)), (2, .int 1)]) [1, 2, 0] rfl ?_
                rcases oR_s ht he R (by omega) (by omega) with ⟨a, q⟩ | ⟨a, d, q⟩ | ⟨a, q⟩
                · exact J139f _ _ _ _ _ _ _ _ _ _ _ _ a (by unfold pcO; exact q) (kpM_o fr _ _ _)
                · exact absurd hc16 (dgt_32 d)
                · have z := q _ rfl
                  rw [if_pos hc16] at z
                  rw [show nI (i + 1) = nI i + 1 from (nI_add i 1).symm] at z
                  exact ih _ _ _ _ _ _ _ _ _ _ _ _ _ a G_ (kpM_o fr _ _ _) z
            · refine x_run C 99 2 (pc' := 183) (lv' := [(0, .ref o0), (1, .int (nI ci)), (2, .int ap)]) (st' := [.ref o0, .ref o0]) rfl ?_
              refine x_get C 101 rfl fX8_162 N 0 rfl (v := .int (nI p)) rfl ?_
              refine x_cv C 102 (As := [.int (nI p)]) (rest := []) rfl vX8_175 N 0 rfl rfl (c_X8_fault Y _ o0 A (nI 0) su 0 bl ci ma (nI p) (nI sz) (-1) (nI p) qm (ovl_at 0 N rfl) (N.ov [0] (by decide) rfl) ) rfl rfl (Nat.le_of_ble_eq_true rfl) ⟨Nat.le_of_ble_eq_true rfl, Nat.le_of_ble_eq_true rfl⟩ ⟨Nat.zero_le _, Nat.zero_le _⟩ [0] ⟨rfl, trivial⟩ (os' := [(qm, (o0, cO 8 (mo A (nI 0) su (nI 0) bl (nI ci) (nI ma) (nI p) (nI sz) (flt (-1) (nI p))))), (q_tape, (A 0, cI Y 4000 (iF tq))), (q_inputs, (A 6, cI Y 6 i1)), (q_gates, (A 7, cI Y 6 g1)), (q_outputs, (A 8, cI Y 6 o1)), (q_tabled, (A 9, cI Y 6 t1)), (q_sign, (A 10, cI Y 240 s1)), (q_left, (A 11, cI Y 240 l1)), (q_right, (A 12, cI Y 240 r1)), (q_tableOf, (A 13, cI Y 240 n1)), (q_outputOf, (A 14, cI Y 48 p1))]) rfl (st' := []) rfl ?_
              refine x_run C 103 1 (pc' := 139) (lv' := [(0, .ref o0), (1, .int (nI ci)), (2, .int ap)]) (st' := []) rfl ?_
              have q : (pcO tp sz sgA lfA rtA tnA ouA).2.1 = nI p := by unfold pcO; exact oR_F ht he R (by omega) (by omega) (Or.inr (by assumption))
              exact J139f _ _ _ _ _ _ _ _ _ _ _ _ (by rw [flt_n]; exact nI_nn (by omega)) (by rw [flt_n]; exact q) fr
        · refine x_run C 86 1 (pc' := 158) (lv' := [(0, .ref o0), (1, .int (nI ci)), (2, .int ap)]) (st' := [.ref o0]) rfl ?_
          refine x_get C 87 rfl fX8_34 N 0 rfl (v := .ref (A 8)) rfl ?_
          refine x_run C 88 1 (pc' := 162) (lv' := [(0, .ref o0), (1, .int (nI ci)), (2, .int ap)]) (st' := [.int (nI ci), .ref (A 8)]) rfl ?_
          refine x_ialdN C 89 rfl N 4 rfl (by omega) (by omega) ?_
          refine x_st (st' := [.int (nI i)]) (by rw [R.o]) ?_
          refine x_ifN_ne C 90 (by omega) rfl (tgt := 260) rfl (fun hc17 => ?_) (fun hc17 => ?_)
          · exact J260 _ _ _ _ _ _ _ _ _ _ _ _ rfl (cOK_of ht G_ R (by omega) (by omega) (by omega)) fr
          · refine x_run C 91 1 (pc' := 167) (lv' := [(0, .ref o0), (1, .int (nI ci)), (2, .int ap)]) (st' := [.ref o0]) rfl ?_
            refine x_get C 92 rfl fX8_34 N 0 rfl (v := .ref (A 8)) rfl ?_
            refine x_run C 93 1 (pc' := 171) (lv' := [(0, .ref o0), (1, .int (nI ci)), (2, .int ap)]) (st' := [.int (nI ci), .ref (A 8)]) rfl ?_
            refine x_ialdN C 94 rfl N 4 rfl (by omega) (by omega) ?_
            refine x_st (st' := [.int (nI i)]) (by rw [R.o]) ?_
            refine x_run C 95 1 (pc' := 174) (lv' := [(0, .ref o0), (1, .int (nI ci)), (2, .int ap)]) (st' := [.int 8, .int (nI i)]) rfl ?_
            refine x_st (st' := [.int (nI 8), .int (nI i)]) (by simp only [nlit, nI_add, pk_mul]) ?_
            refine x_icmpN_eq C 96 (by omega) (by omega) rfl (tgt := 181) rfl (fun hc18 => ?_) (fun hc18 => ?_)
            · exact absurd hc18 (by omega)
            · refine x_run C 97 1 (pc' := 178) (lv' := [(0, .ref o0), (1, .int (nI ci)), (2, .int ap)]) (st' := [.int ap]) rfl ?_
              refine x_if_ne C 98 rfl (tgt := 192) rfl (fun hc19 => ?_) (fun hc19 => ?_)
              · refine x_run C 104 1 (pc' := 193) (lv' := [(0, .ref o0), (1, .int (nI ci)), (2, .int ap)]) (st' := [.ref o0]) rfl ?_
                refine x_get C 105 rfl fX8_52 N 0 rfl (v := .ref (A 14)) rfl ?_
                refine x_run C 106 4 (pc' := 201) (lv' := [(0, .ref o0), (1, .int (nI ci)), (2, .int ap)]) (st' := [.ref o0, .int (8 * (nI ci)), .ref (A 14)]) rfl ?_
                refine x_get C 110 rfl fX8_34 N 0 rfl (v := .ref (A 8)) rfl ?_
                refine x_run C 111 1 (pc' := 205) (lv' := [(0, .ref o0), (1, .int (nI ci)), (2, .int ap)]) (st' := [.int (nI ci), .ref (A 8), .int (8 * (nI ci)), .ref (A 14)]) rfl ?_
                refine x_ialdN C 112 rfl N 4 rfl (by omega) (by omega) ?_
                refine x_st (st' := [.int (nI i), .int (8 * (nI ci)), .ref (A 14)]) (by rw [R.o]) ?_
                refine x_run C 113 4 (pc' := 210) (lv' := [(0, .ref o0), (1, .int (nI ci)), (2, .int ap)]) (st' := [.ref o0, .int 0, .ref o0, .int ((8 * (nI ci)) + (nI i)), .ref (A 14)]) rfl ?_
                refine x_get C 117 rfl fX8_28 N 0 rfl (v := .ref (A 6)) rfl ?_
                refine x_run C 118 1 (pc' := 214) (lv' := [(0, .ref o0), (1, .int (nI ci)), (2, .int ap)]) (st' := [.int (nI ci), .ref (A 6), .int 0, .ref o0, .int ((8 * (nI ci)) + (nI i)), .ref (A 14)]) rfl ?_
                refine x_ialdN C 119 rfl N 2 rfl (by omega) (by omega) ?_
                refine x_st (st' := [.int (nI (pcN tp sz)), .int 0, .ref o0, .int ((8 * (nI ci)) + (nI i)), .ref (A 14)]) (by rw [G_.hn]) ?_
                refine x_run C 120 1 (pc' := 216) (lv' := [(0, .ref o0), (1, .int (nI ci)), (2, .int ap)]) (st' := [.ref o0, .int (nI (pcN tp sz)), .int 0, .ref o0, .int ((8 * (nI ci)) + (nI i)), .ref (A 14)]) rfl ?_
                refine x_get C 121 rfl fX8_31 N 0 rfl (v := .ref (A 7)) rfl ?_
                refine x_run C 122 1 (pc' := 220) (lv' := [(0, .ref o0), (1, .int (nI ci)), (2, .int ap)]) (st' := [.int (nI ci), .ref (A 7), .int (nI (pcN tp sz)), .int 0, .ref o0, .int ((8 * (nI ci)) + (nI i)), .ref (A 14)]) rfl ?_
                refine x_ialdN C 123 rfl N 3 rfl (by omega) (by omega) ?_
                refine x_st (st' := [.int (nI (pcQ tp sz sgA lfA rtA tnA).2.2.1), .int (nI (pcN tp sz)), .int 0, .ref o0, .int ((8 * (nI ci)) + (nI i)), .ref (A 14)]) (by rw [G_.hg]) ?_
                refine x_run C 124 3 (pc' := 224) (lv' := [(0, .ref o0), (1, .int (nI ci)), (2, .int ap)]) (st' := [.int (((nI (pcN tp sz)) + (nI (pcQ tp sz sgA lfA rtA tnA).2.2.1)) - 1), .int 0, .ref o0, .int ((8 * (nI ci)) + (nI i)), .ref (A 14)]) rfl ?_
                refine x_st (st' := [.int (nI (((pcN tp sz) + (pcQ tp sz sgA lfA rtA tnA).2.2.1) - 1)), .int 0, .ref o0, .int ((8 * (nI ci)) + (nI i)), .ref (A 14)]) (by simp only [nlit, nI_add, pk_mul, pk_sub (show 1 ≤ ((pcN tp sz) + (pcQ tp sz sgA lfA rtA tnA).2.2.1) by omega)]) ?_
                refine x_cv C 127 (As := [.int 0, .int (nI (((pcN tp sz) + (pcQ tp sz sgA lfA rtA tnA).2.2.1) - 1))]) (rest := [.int ((8 * (nI ci)) + (nI i)), .ref (A 14)]) rfl vX8_184 N 0 rfl rfl (c_X8_number Y _ o0 A (nI 0) su 0 bl ci ma p sz (-1) tq tp 0 (nI (((pcN tp sz) + (pcQ tp sz sgA lfA rtA tnA).2.2.1) - 1)) qm q_tape (ovl_at 0 N rfl) (ovl_at 1 N rfl) (N.ov [0, 1] (by decide) rfl) he (by omega) hT ht) rfl rfl (Nat.le_of_ble_eq_true rfl) ⟨Nat.le_of_ble_eq_true rfl, Nat.le_of_ble_eq_true rfl⟩ ⟨Nat.zero_le _, Nat.zero_le _⟩ [0, 1] ⟨rfl, rfl, trivial⟩ (os' := [(qm, (o0, cO 8 (mo A (nI 0) su (nI 0) bl (nI ci) (nI ma) (nI (p + (ndg tp sz p))) (nI sz) (mnW tp sz 0 (nI (((pcN tp sz) + (pcQ tp sz sgA lfA rtA tnA).2.2.1) - 1)) p (-1))))), (q_tape, (A 0, cI Y 4000 (iF tq))), (q_inputs, (A 6, cI Y 6 i1)), (q_gates, (A 7, cI Y 6 g1)), (q_outputs, (A 8, cI Y 6 o1)), (q_tabled, (A 9, cI Y 6 t1)), (q_sign, (A 10, cI Y 240 s1)), (q_left, (A 11, cI Y 240 l1)), (q_right, (A 12, cI Y 240 r1)), (q_tableOf, (A 13, cI Y 240 n1)), (q_outputOf, (A 14, cI Y 48 p1))]) rfl (st' := [.int (dvI tp sz p (ndg tp sz p)), .int ((8 * (nI ci)) + (nI i)), .ref (A 14)]) rfl ?_
                refine x_st (st' := [.int (dvI tp sz p (ndg tp sz p)), .int (nI ((8 * ci) + i)), .ref (A 14)]) (by simp only [nlit, nI_add, pk_mul]) ?_
                refine x_iastN C 128 rfl N 10 rfl (by omega) (by omega) (os' := [(qm, (o0, cO 8 (mo A (nI 0) su (nI 0) bl (nI ci) (nI ma) (nI (p + (ndg tp sz p))) (nI sz) (mnW tp sz 0 (nI (((pcN tp sz) + (pcQ tp sz sgA lfA rtA tnA).2.2.1) - 1)) p (-1))))), (q_tape, (A 0, cI Y 4000 (iF tq))), (q_inputs, (A 6, cI Y 6 i1)), (q_gates, (A 7, cI Y 6 g1)), (q_outputs, (A 8, cI Y 6 o1)), (q_tabled, (A 9, cI Y 6 t1)), (q_sign, (A 10, cI Y 240 s1)), (q_left, (A 11, cI Y 240 l1)), (q_right, (A 12, cI Y 240 r1)), (q_tableOf, (A 13, cI Y 240 n1)), (q_outputOf, (A 14, cI Y 48 (upd p1 ((8 * ci) + i) (dvI tp sz p (ndg tp sz p)))))]) rfl ?_
                refine x_run C 129 1 (pc' := 229) (lv' := [(0, .ref o0), (1, .int (nI ci)), (2, .int ap)]) (st' := [.ref o0]) rfl ?_
                refine x_get C 130 rfl fX8_34 N 0 rfl (v := .ref (A 8)) rfl ?_
                refine x_run C 131 2 (pc' := 234) (lv' := [(0, .ref o0), (1, .int (nI ci)), (2, .int ap)]) (st' := [.int (nI ci), .ref (A 8), .int (nI ci), .ref (A 8)]) rfl ?_
                refine x_ialdN C 133 rfl N 4 rfl (by omega) (by omega) ?_
                refine x_st (st' := [.int (nI i), .int (nI ci), .ref (A 8)]) (by rw [R.o]) ?_
                refine x_run C 134 2 (pc' := 237) (lv' := [(0, .ref o0), (1, .int (nI ci)), (2, .int ap)]) (st' := [.int ((nI i) + 1), .int (nI ci), .ref (A 8)]) rfl ?_
                refine x_iastN C 136 rfl N 4 rfl (by omega) (by omega) (os' := [(qm, (o0, cO 8 (mo A (nI 0) su (nI 0) bl (nI ci) (nI ma) (nI (p + (ndg tp sz p))) (nI sz) (mnW tp sz 0 (nI (((pcN tp sz) + (pcQ tp sz sgA lfA rtA tnA).2.2.1) - 1)) p (-1))))), (q_tape, (A 0, cI Y 4000 (iF tq))), (q_inputs, (A 6, cI Y 6 i1)), (q_gates, (A 7, cI Y 6 g1)), (q_outputs, (A 8, cI Y 6 (upd o1 ci ((nI i) + 1)))), (q_tabled, (A 9, cI Y 6 t1)), (q_sign, (A 10, cI Y 240 s1)), (q_left, (A 11, cI Y 240 l1)), (q_right, (A 12, cI Y 240 r1)), (q_tableOf, (A 13, cI Y 240 n1)), (q_outputOf, (A 14, cI Y 48 (upd p1 ((8 * ci) + i) (dvI tp sz p (ndg tp sz p)))))]) rfl ?_
                refine x_run C 137 1 (pc' := 239) (lv' := [(0, .ref o0), (1, .int (nI ci)), (2, .int ap)]) (st' := [.ref o0]) rfl ?_
                refine x_cv C 138 (As := []) (rest := []) rfl vX8_168 N 0 rfl rfl (c_X8_byteAt Y _ o0 A (nI 0) su 0 bl ci ma (p + (ndg tp sz p)) sz (mnW tp sz 0 (nI (((pcN tp sz) + (pcQ tp sz sgA lfA rtA tnA).2.2.1) - 1)) p (-1)) tq tp qm q_tape (ovl_at 0 N rfl) (ovl_at 1 N rfl) (N.ov [0, 1] (by decide) rfl) he (by omega) hT ht) rfl rfl (Nat.le_of_ble_eq_true rfl) ⟨Nat.le_of_ble_eq_true rfl, Nat.le_of_ble_eq_true rfl⟩ ⟨Nat.zero_le _, Nat.zero_le _⟩ [0, 1] ⟨rfl, rfl, trivial⟩ (os' := [(qm, (o0, cO 8 (mo A (nI 0) su (nI 0) bl (nI ci) (nI ma) (nI (p + (ndg tp sz p))) (nI sz) (mnW tp sz 0 (nI (((pcN tp sz) + (pcQ tp sz sgA lfA rtA tnA).2.2.1) - 1)) p (-1))))), (q_tape, (A 0, cI Y 4000 (iF tq))), (q_inputs, (A 6, cI Y 6 i1)), (q_gates, (A 7, cI Y 6 g1)), (q_outputs, (A 8, cI Y 6 (upd o1 ci ((nI i) + 1)))), (q_tabled, (A 9, cI Y 6 t1)), (q_sign, (A 10, cI Y 240 s1)), (q_left, (A 11, cI Y 240 l1)), (q_right, (A 12, cI Y 240 r1)), (q_tableOf, (A 13, cI Y 240 n1)), (q_outputOf, (A 14, cI Y 48 (upd p1 ((8 * ci) + i) (dvI tp sz p (ndg tp sz p)))))]) rfl (st' := [.int (lkC tp sz (p + (ndg tp sz p)))]) rfl ?_
                refine x_run C 139 1 (pc' := 244) (lv' := [(0, .ref o0), (1, .int (nI ci)), (2, .int ap)]) (st' := [.int 32, .int (lkC tp sz (p + (ndg tp sz p)))]) rfl ?_
                refine x_icmp_ne C 140 rfl (tgt := 251) rfl (fun hc20 => ?_) (fun hc20 => ?_)
                · refine x_run C 143 3 (pc' := 254) (lv' := [(2, .int 0), (0, .ref o0), (1, .int (nI ci))]) (st' := [.ref o0]) rfl ?_
                  refine x_cv C 146 (As := []) (rest := []) rfl vX8_178 N 0 rfl rfl (c_X8_blanks Y _ o0 A (nI 0) su 0 bl ci ma (p + (ndg tp sz p)) sz (mnW tp sz 0 (nI (((pcN tp sz) + (pcQ tp sz sgA lfA rtA tnA).2.2.1) - 1)) p (-1)) tq tp qm q_tape (ovl_at 0 N rfl) (ovl_at 1 N rfl) (N.ov [0, 1] (by decide) rfl) he (by omega) hT ht) rfl rfl (Nat.le_of_ble_eq_true rfl) ⟨Nat.le_of_ble_eq_true rfl, Nat.le_of_ble_eq_true rfl⟩ ⟨Nat.zero_le _, Nat.zero_le _⟩ [0, 1] ⟨rfl, rfl, trivial⟩ (os' := [(qm, (o0, cO 8 (mo A (nI 0) su (nI 0) bl (nI ci) (nI ma) (nI (skB tp sz (p + (ndg tp sz p)))) (nI sz) (mnW tp sz 0 (nI (((pcN tp sz) + (pcQ tp sz sgA lfA rtA tnA).2.2.1) - 1)) p (-1))))), (q_tape, (A 0, cI Y 4000 (iF tq))), (q_inputs, (A 6, cI Y 6 i1)), (q_gates, (A 7, cI Y 6 g1)), (q_outputs, (A 8, cI Y 6 (upd o1 ci ((nI i) + 1)))), (q_tabled, (A 9, cI Y 6 t1)), (q_sign, (A 10, cI Y 240 s1)), (q_left, (A 11, cI Y 240 l1)), (q_right, (A 12, cI Y 240 r1)), (q_tableOf, (A 13, cI Y 240 n1)), (q_outputOf, (A 14, cI Y 48 (upd p1 ((8 * ci) + i) (dvI tp sz p (ndg tp sz p)))))]) rfl (st' := []) rfl ?_
                  refine x_run C 147 1 (pc' := 139) (lv' := [(2, .int 0), (0, .ref o0), (1, .int (nI ci))]) (st' := []) rfl ?_
                  refine x_sub (lv' := [(0, .ref o0), (1, .int (nI ci)), (2, .int 0)]) [1, 2, 0] rfl ?_
                  rcases oR_s ht he R (by omega) (by omega) with ⟨a, q⟩ | ⟨a, d, q⟩ | ⟨a, q⟩
                  · exact J139f _ _ _ _ _ _ _ _ _ _ _ _ a (by unfold pcO; exact q) (kpM_o fr _ _ _)
                  · have st := skB_stay (dgt_32 d)
                    have lt : p + ndg tp sz p < sz := Classical.byContradiction (fun z => dgt_n1 d ((lk_n1 ht).mpr z))
                    exact J139p _ _ _ _ _ _ _ _ _ _ _ a (by rw [st]; exact lt) (by rw [st]; unfold pcO; exact q) (kpM_o fr _ _ _)
                  · have z := q _ rfl
                    rw [if_neg hc20] at z
                    rw [show nI (i + 1) = nI i + 1 from (nI_add i 1).symm] at z
                    exact ih _ _ _ _ _ _ _ _ _ _ _ _ _ a G_ (kpM_o fr _ _ _) z
                · refine x_run C 141 2 (pc' := 252) (lv' := [(0, .ref o0), (1, .int (nI ci)), (2, .int ap)]) (st' := [.int 1]) rfl ?_
                  refine x_run C 144 2 (pc' := 254) (lv' := [(2, .int 1), (0, .ref o0), (1, .int (nI ci))]) (st' := [.ref o0]) rfl ?_
                  refine x_cv C 146 (As := []) (rest := []) rfl vX8_178 N 0 rfl rfl (c_X8_blanks Y _ o0 A (nI 0) su 0 bl ci ma (p + (ndg tp sz p)) sz (mnW tp sz 0 (nI (((pcN tp sz) + (pcQ tp sz sgA lfA rtA tnA).2.2.1) - 1)) p (-1)) tq tp qm q_tape (ovl_at 0 N rfl) (ovl_at 1 N rfl) (N.ov [0, 1] (by decide) rfl) he (by omega) hT ht) rfl rfl (Nat.le_of_ble_eq_true rfl) ⟨Nat.le_of_ble_eq_true rfl, Nat.le_of_ble_eq_true rfl⟩ ⟨Nat.zero_le _, Nat.zero_le _⟩ [0, 1] ⟨rfl, rfl, trivial⟩ (os' := [(qm, (o0, cO 8 (mo A (nI 0) su (nI 0) bl (nI ci) (nI ma) (nI (skB tp sz (p + (ndg tp sz p)))) (nI sz) (mnW tp sz 0 (nI (((pcN tp sz) + (pcQ tp sz sgA lfA rtA tnA).2.2.1) - 1)) p (-1))))), (q_tape, (A 0, cI Y 4000 (iF tq))), (q_inputs, (A 6, cI Y 6 i1)), (q_gates, (A 7, cI Y 6 g1)), (q_outputs, (A 8, cI Y 6 (upd o1 ci ((nI i) + 1)))), (q_tabled, (A 9, cI Y 6 t1)), (q_sign, (A 10, cI Y 240 s1)), (q_left, (A 11, cI Y 240 l1)), (q_right, (A 12, cI Y 240 r1)), (q_tableOf, (A 13, cI Y 240 n1)), (q_outputOf, (A 14, cI Y 48 (upd p1 ((8 * ci) + i) (dvI tp sz p (ndg tp sz p)))))]) rfl (st' := []) rfl ?_
                  refine x_run C 147 1 (pc' := 139) (lv' := [(2, .int 1), (0, .ref o0), (1, .int (nI ci))]) (st' := []) rfl ?_
                  refine x_sub (lv' := [(0, .ref o0), (1, .int (nI ci)), (2, .int 1)]) [1, 2, 0] rfl ?_
                  rcases oR_s ht he R (by omega) (by omega) with ⟨a, q⟩ | ⟨a, d, q⟩ | ⟨a, q⟩
                  · exact J139f _ _ _ _ _ _ _ _ _ _ _ _ a (by unfold pcO; exact q) (kpM_o fr _ _ _)
                  · exact absurd hc20 (dgt_32 d)
                  · have z := q _ rfl
                    rw [if_pos hc20] at z
                    rw [show nI (i + 1) = nI i + 1 from (nI_add i 1).symm] at z
                    exact ih _ _ _ _ _ _ _ _ _ _ _ _ _ a G_ (kpM_o fr _ _ _) z
              · refine x_run C 99 2 (pc' := 183) (lv' := [(0, .ref o0), (1, .int (nI ci)), (2, .int ap)]) (st' := [.ref o0, .ref o0]) rfl ?_
                refine x_get C 101 rfl fX8_162 N 0 rfl (v := .int (nI p)) rfl ?_
                refine x_cv C 102 (As := [.int (nI p)]) (rest := []) rfl vX8_175 N 0 rfl rfl (c_X8_fault Y _ o0 A (nI 0) su 0 bl ci ma (nI p) (nI sz) (-1) (nI p) qm (ovl_at 0 N rfl) (N.ov [0] (by decide) rfl) ) rfl rfl (Nat.le_of_ble_eq_true rfl) ⟨Nat.le_of_ble_eq_true rfl, Nat.le_of_ble_eq_true rfl⟩ ⟨Nat.zero_le _, Nat.zero_le _⟩ [0] ⟨rfl, trivial⟩ (os' := [(qm, (o0, cO 8 (mo A (nI 0) su (nI 0) bl (nI ci) (nI ma) (nI p) (nI sz) (flt (-1) (nI p))))), (q_tape, (A 0, cI Y 4000 (iF tq))), (q_inputs, (A 6, cI Y 6 i1)), (q_gates, (A 7, cI Y 6 g1)), (q_outputs, (A 8, cI Y 6 o1)), (q_tabled, (A 9, cI Y 6 t1)), (q_sign, (A 10, cI Y 240 s1)), (q_left, (A 11, cI Y 240 l1)), (q_right, (A 12, cI Y 240 r1)), (q_tableOf, (A 13, cI Y 240 n1)), (q_outputOf, (A 14, cI Y 48 p1))]) rfl (st' := []) rfl ?_
                refine x_run C 103 1 (pc' := 139) (lv' := [(0, .ref o0), (1, .int (nI ci)), (2, .int ap)]) (st' := []) rfl ?_
                have q : (pcO tp sz sgA lfA rtA tnA ouA).2.1 = nI p := by unfold pcO; exact oR_F ht he R (by omega) (by omega) (Or.inr (by assumption))
                exact J139f _ _ _ _ _ _ _ _ _ _ _ _ (by rw [flt_n]; exact nI_nn (by omega)) (by rw [flt_n]; exact q) fr
  have J123 : ∀ (i : Nat) (Q : rQ) (p : Nat) (wr1 : Int32) (i1 g1 o1 t1 s1 l1 r1 n1 p1 : Nat → Int32) (hn1 : 1 ≤ (pcN tp sz) ∧ (pcN tp sz) ≤ 16) (hi : i ≤ 40) (hw : wr1 = -1) (R : gR tp sz (pcN tp sz) ci i Q ((pcM tp sz).1, (pcM tp sz).2, 0, 0, sgA, lfA, rtA, tnA) p i1 g1 o1 t1 s1 l1 r1 n1) (h62 : lkC tp sz p = 62) (fr : kpM ci iA gA oA tA sA lA rA nA pA i1 g1 o1 t1 s1 l1 r1 n1 p1), X G Y 0 0 123 [(0, .ref o0), (1, .int (nI ci))] [] (ovl w [(qm, (o0, cO 8 (mo A (nI 0) su (nI 0) bl (nI ci) (nI ma) (nI p) (nI sz) wr1))), (q_tape, (A 0, cI Y 4000 (iF tq))), (q_inputs, (A 6, cI Y 6 i1)), (q_gates, (A 7, cI Y 6 g1)), (q_outputs, (A 8, cI Y 6 o1)), (q_tabled, (A 9, cI Y 6 t1)), (q_sign, (A 10, cI Y 240 s1)), (q_left, (A 11, cI Y 240 l1)), (q_right, (A 12, cI Y 240 r1)), (q_tableOf, (A 13, cI Y 240 n1)), (q_outputOf, (A 14, cI Y 48 p1))]) := by
    intro i Q p wr1 i1 g1 o1 t1 s1 l1 r1 n1 p1 hn1 hi hw R h62 fr
    subst hw
    have h9 := skB_spec tp sz Q.1
    have hb := R.b
    have hpp := R.hp
    have pq : (pcQ tp sz sgA lfA rtA tnA) = (p + 1, -1, Q.2.2) := gR_E R hi h62
    have ge : gE ci (pcN tp sz) (pcQ tp sz sgA lfA rtA tnA) i1 g1 t1 s1 l1 r1 n1 := by unfold pcQ; exact gR_gE R hi h62
    refine x_run C 68 2 (pc' := 125) (lv' := [(0, .ref o0), (1, .int (nI ci))]) (st' := [.ref o0, .ref o0]) rfl ?_
    refine x_get C 70 rfl fX8_162 N 0 rfl (v := .int (nI p)) rfl ?_
    refine x_run C 71 2 (pc' := 130) (lv' := [(0, .ref o0), (1, .int (nI ci))]) (st' := [.int ((nI p) + 1), .ref o0]) rfl ?_
    refine x_st (st' := [.int (nI (p + 1)), .ref o0]) (by simp only [nlit, nI_add, pk_mul]) ?_
    refine x_put C 73 rfl pX8_162 N 0 rfl rfl rfl (Nat.le_of_ble_eq_true rfl) (os' := [(qm, (o0, cO 8 (mo A (nI 0) su (nI 0) bl (nI ci) (nI ma) (nI (p + 1)) (nI sz) (-1)))), (q_tape, (A 0, cI Y 4000 (iF tq))), (q_inputs, (A 6, cI Y 6 i1)), (q_gates, (A 7, cI Y 6 g1)), (q_outputs, (A 8, cI Y 6 o1)), (q_tabled, (A 9, cI Y 6 t1)), (q_sign, (A 10, cI Y 240 s1)), (q_left, (A 11, cI Y 240 l1)), (q_right, (A 12, cI Y 240 r1)), (q_tableOf, (A 13, cI Y 240 n1)), (q_outputOf, (A 14, cI Y 48 p1))]) rfl ?_
    refine x_run C 74 1 (pc' := 134) (lv' := [(0, .ref o0), (1, .int (nI ci))]) (st' := [.ref o0]) rfl ?_
    refine x_cv C 75 (As := []) (rest := []) rfl vX8_178 N 0 rfl rfl (c_X8_blanks Y _ o0 A (nI 0) su 0 bl ci ma (p + 1) sz (-1) tq tp qm q_tape (ovl_at 0 N rfl) (ovl_at 1 N rfl) (N.ov [0, 1] (by decide) rfl) he (by omega) hT ht) rfl rfl (Nat.le_of_ble_eq_true rfl) ⟨Nat.le_of_ble_eq_true rfl, Nat.le_of_ble_eq_true rfl⟩ ⟨Nat.zero_le _, Nat.zero_le _⟩ [0, 1] ⟨rfl, rfl, trivial⟩ (os' := [(qm, (o0, cO 8 (mo A (nI 0) su (nI 0) bl (nI ci) (nI ma) (nI (skB tp sz (p + 1))) (nI sz) (-1)))), (q_tape, (A 0, cI Y 4000 (iF tq))), (q_inputs, (A 6, cI Y 6 i1)), (q_gates, (A 7, cI Y 6 g1)), (q_outputs, (A 8, cI Y 6 o1)), (q_tabled, (A 9, cI Y 6 t1)), (q_sign, (A 10, cI Y 240 s1)), (q_left, (A 11, cI Y 240 l1)), (q_right, (A 12, cI Y 240 r1)), (q_tableOf, (A 13, cI Y 240 n1)), (q_outputOf, (A 14, cI Y 48 p1))]) rfl (st' := []) rfl ?_
    refine x_run C 76 2 (pc' := 139) (lv' := [(2, .int 1), (0, .ref o0), (1, .int (nI ci))]) (st' := []) rfl ?_
    refine x_sub (lv' := [(0, .ref o0), (1, .int (nI ci)), (2, .int 1)]) [1, 2, 0] rfl ?_
    have o0_ : oR tp sz (pcN tp sz + (pcQ tp sz sgA lfA rtA tnA).2.2.1) ci 0 ((pcQ tp sz sgA lfA rtA tnA).1, (pcQ tp sz sgA lfA rtA tnA).2.1, 0, ouA) ((pcQ tp sz sgA lfA rtA tnA).1, (pcQ tp sz sgA lfA rtA tnA).2.1, 0, ouA) (skB tp sz (p + 1)) 1 o1 p1 := oR_0 (by rw [pq]) (by rw [pq]; show p + 1 ≤ 10000; omega) (by rw [pq]) rfl R.o
    exact L139 hn1 0 (by omega) _ _ _ _ _ _ _ _ _ _ _ _ _ rfl ge fr o0_
  have L95 : (1 ≤ (pcN tp sz) ∧ (pcN tp sz) ≤ 16) → ∀ i, i ≤ 40 → ∀ (Q : rQ) (p : Nat) (wr1 : Int32) (i1 g1 o1 t1 s1 l1 r1 n1 p1 : Nat → Int32) (hw : wr1 = -1) (fr : kpM ci iA gA oA tA sA lA rA nA pA i1 g1 o1 t1 s1 l1 r1 n1 p1) (R : gR tp sz (pcN tp sz) ci i Q ((pcM tp sz).1, (pcM tp sz).2, 0, 0, sgA, lfA, rtA, tnA) p i1 g1 o1 t1 s1 l1 r1 n1), X G Y 0 0 95 [(0, .ref o0), (1, .int (nI ci))] [] (ovl w [(qm, (o0, cO 8 (mo A (nI 0) su (nI 0) bl (nI ci) (nI ma) (nI p) (nI sz) wr1))), (q_tape, (A 0, cI Y 4000 (iF tq))), (q_inputs, (A 6, cI Y 6 i1)), (q_gates, (A 7, cI Y 6 g1)), (q_outputs, (A 8, cI Y 6 o1)), (q_tabled, (A 9, cI Y 6 t1)), (q_sign, (A 10, cI Y 240 s1)), (q_left, (A 11, cI Y 240 l1)), (q_right, (A 12, cI Y 240 r1)), (q_tableOf, (A 13, cI Y 240 n1)), (q_outputOf, (A 14, cI Y 48 p1))]) := by
    intro hn1 i hi
    refine x_up (fun i => ∀ (Q : rQ) (p : Nat) (wr1 : Int32) (i1 g1 o1 t1 s1 l1 r1 n1 p1 : Nat → Int32) (hw : wr1 = -1) (fr : kpM ci iA gA oA tA sA lA rA nA pA i1 g1 o1 t1 s1 l1 r1 n1 p1) (R : gR tp sz (pcN tp sz) ci i Q ((pcM tp sz).1, (pcM tp sz).2, 0, 0, sgA, lfA, rtA, tnA) p i1 g1 o1 t1 s1 l1 r1 n1), X G Y 0 0 95 [(0, .ref o0), (1, .int (nI ci))] [] (ovl w [(qm, (o0, cO 8 (mo A (nI 0) su (nI 0) bl (nI ci) (nI ma) (nI p) (nI sz) wr1))), (q_tape, (A 0, cI Y 4000 (iF tq))), (q_inputs, (A 6, cI Y 6 i1)), (q_gates, (A 7, cI Y 6 g1)), (q_outputs, (A 8, cI Y 6 o1)), (q_tabled, (A 9, cI Y 6 t1)), (q_sign, (A 10, cI Y 240 s1)), (q_left, (A 11, cI Y 240 l1)), (q_right, (A 12, cI Y 240 r1)), (q_tableOf, (A 13, cI Y 240 n1)), (q_outputOf, (A 14, cI Y 48 p1))])) 40 ?_ ?_ i hi
    · intro Q p wr1 i1 g1 o1 t1 s1 l1 r1 n1 p1 hw fr R
      subst hw
      have h9 := skB_spec tp sz Q.1
      have hb := R.b
      have hpp := R.hp
      have tl := R.tl
      refine x_run C 55 1 (pc' := 96) (lv' := [(0, .ref o0), (1, .int (nI ci))]) (st' := [.ref o0]) rfl ?_
      refine x_get C 56 rfl fX8_159 N 0 rfl (v := .int (-1)) rfl ?_
      refine x_if_ge C 57 rfl (tgt := 123) rfl (fun hc21 => ?_) (fun hc21 => ?_)
      · exact absurd hc21 neg1
      · refine x_run C 58 1 (pc' := 103) (lv' := [(0, .ref o0), (1, .int (nI ci))]) (st' := [.ref o0]) rfl ?_
        refine x_cv C 59 (As := []) (rest := []) rfl vX8_168 N 0 rfl rfl (c_X8_byteAt Y _ o0 A (nI 0) su 0 bl ci ma p sz (-1) tq tp qm q_tape (ovl_at 0 N rfl) (ovl_at 1 N rfl) (N.ov [0, 1] (by decide) rfl) he (by omega) hT ht) rfl rfl (Nat.le_of_ble_eq_true rfl) ⟨Nat.le_of_ble_eq_true rfl, Nat.le_of_ble_eq_true rfl⟩ ⟨Nat.zero_le _, Nat.zero_le _⟩ [0, 1] ⟨rfl, rfl, trivial⟩ (os' := [(qm, (o0, cO 8 (mo A (nI 0) su (nI 0) bl (nI ci) (nI ma) (nI p) (nI sz) (-1)))), (q_tape, (A 0, cI Y 4000 (iF tq))), (q_inputs, (A 6, cI Y 6 i1)), (q_gates, (A 7, cI Y 6 g1)), (q_outputs, (A 8, cI Y 6 o1)), (q_tabled, (A 9, cI Y 6 t1)), (q_sign, (A 10, cI Y 240 s1)), (q_left, (A 11, cI Y 240 l1)), (q_right, (A 12, cI Y 240 r1)), (q_tableOf, (A 13, cI Y 240 n1)), (q_outputOf, (A 14, cI Y 48 p1))]) rfl (st' := [.int (lkC tp sz p)]) rfl ?_
        refine x_run C 60 1 (pc' := 108) (lv' := [(0, .ref o0), (1, .int (nI ci))]) (st' := [.int 62, .int (lkC tp sz p)]) rfl ?_
        refine x_icmp_eq C 61 rfl (tgt := 123) rfl (fun hc22 => ?_) (fun hc22 => ?_)
        · exact J123 40 Q p _ _ _ _ _ _ _ _ _ _ hn1 (by omega) rfl R hc22 fr
        · have hS : 40 = 40 ∨ isS (lkC tp sz p) = 0 := Or.inl rfl
          refine x_run C 62 2 (pc' := 113) (lv' := [(0, .ref o0), (1, .int (nI ci))]) (st' := [.int (nI ci), .ref o0]) rfl ?_
          refine x_cv C 64 (As := [.int (nI ci)]) (rest := []) rfl vX8_193 N 0 rfl rfl (c_X8_readGateF Y _ o0 A (nI 0) su 0 bl ci ma p sz tq tp g1 ci 40 qm q_tape q_gates (ovl_at 0 N rfl) (ovl_at 1 N rfl) (ovl_at 3 N rfl) (N.ov [0, 1, 3] (by decide) rfl) (by first | assumption | omega) (by omega) hT ht (by omega) R.gc (by first | assumption | omega) hS) rfl rfl (Nat.le_of_ble_eq_true rfl) ⟨Nat.le_of_ble_eq_true rfl, Nat.le_of_ble_eq_true rfl⟩ ⟨Nat.zero_le _, Nat.zero_le _⟩ [0, 1, 3] ⟨rfl, rfl, rfl, trivial⟩ (os' := [(qm, (o0, cO 8 (mo A (nI 0) su (nI 0) bl (nI ci) (nI ma) (nI p) (nI sz) (nI p)))), (q_tape, (A 0, cI Y 4000 (iF tq))), (q_inputs, (A 6, cI Y 6 i1)), (q_gates, (A 7, cI Y 6 g1)), (q_outputs, (A 8, cI Y 6 o1)), (q_tabled, (A 9, cI Y 6 t1)), (q_sign, (A 10, cI Y 240 s1)), (q_left, (A 11, cI Y 240 l1)), (q_right, (A 12, cI Y 240 r1)), (q_tableOf, (A 13, cI Y 240 n1)), (q_outputOf, (A 14, cI Y 48 p1))]) rfl (st' := []) rfl ?_
          refine x_run C 65 1 (pc' := 117) (lv' := [(0, .ref o0), (1, .int (nI ci))]) (st' := [.ref o0]) rfl ?_
          refine x_cv C 66 (As := []) (rest := []) rfl vX8_178 N 0 rfl rfl (c_X8_blanks Y _ o0 A (nI 0) su 0 bl ci ma p sz (nI p) tq tp qm q_tape (ovl_at 0 N rfl) (ovl_at 1 N rfl) (N.ov [0, 1] (by decide) rfl) (by first | assumption | omega) (by omega) hT ht) rfl rfl (Nat.le_of_ble_eq_true rfl) ⟨Nat.le_of_ble_eq_true rfl, Nat.le_of_ble_eq_true rfl⟩ ⟨Nat.zero_le _, Nat.zero_le _⟩ [0, 1] ⟨rfl, rfl, trivial⟩ (os' := [(qm, (o0, cO 8 (mo A (nI 0) su (nI 0) bl (nI ci) (nI ma) (nI (skB tp sz p)) (nI sz) (nI p)))), (q_tape, (A 0, cI Y 4000 (iF tq))), (q_inputs, (A 6, cI Y 6 i1)), (q_gates, (A 7, cI Y 6 g1)), (q_outputs, (A 8, cI Y 6 o1)), (q_tabled, (A 9, cI Y 6 t1)), (q_sign, (A 10, cI Y 240 s1)), (q_left, (A 11, cI Y 240 l1)), (q_right, (A 12, cI Y 240 r1)), (q_tableOf, (A 13, cI Y 240 n1)), (q_outputOf, (A 14, cI Y 48 p1))]) rfl (st' := []) rfl ?_
          refine x_run C 67 1 (pc' := 95) (lv' := [(0, .ref o0), (1, .int (nI ci))]) (st' := []) rfl ?_
          have q : (pcQ tp sz sgA lfA rtA tnA).2.1 = nI p := by unfold pcQ; exact gR_F R (by omega) hc22 hS
          exact J95f _ _ _ _ _ _ _ _ _ _ _ (by have := skB_spec tp sz p; omega) (nI_nn (by omega)) ((F_Q (by rw [q]; exact nI_n1 (by omega))).trans q) fr
    · intro i hi4 ih; intro Q p wr1 i1 g1 o1 t1 s1 l1 r1 n1 p1 hw fr R
      subst hw
      have h9 := skB_spec tp sz Q.1
      have hb := R.b
      have hpp := R.hp
      have tl := R.tl
      refine x_run C 55 1 (pc' := 96) (lv' := [(0, .ref o0), (1, .int (nI ci))]) (st' := [.ref o0]) rfl ?_
      refine x_get C 56 rfl fX8_159 N 0 rfl (v := .int (-1)) rfl ?_
      refine x_if_ge C 57 rfl (tgt := 123) rfl (fun hc23 => ?_) (fun hc23 => ?_)
      · exact absurd hc23 neg1
      · refine x_run C 58 1 (pc' := 103) (lv' := [(0, .ref o0), (1, .int (nI ci))]) (st' := [.ref o0]) rfl ?_
        refine x_cv C 59 (As := []) (rest := []) rfl vX8_168 N 0 rfl rfl (c_X8_byteAt Y _ o0 A (nI 0) su 0 bl ci ma p sz (-1) tq tp qm q_tape (ovl_at 0 N rfl) (ovl_at 1 N rfl) (N.ov [0, 1] (by decide) rfl) he (by omega) hT ht) rfl rfl (Nat.le_of_ble_eq_true rfl) ⟨Nat.le_of_ble_eq_true rfl, Nat.le_of_ble_eq_true rfl⟩ ⟨Nat.zero_le _, Nat.zero_le _⟩ [0, 1] ⟨rfl, rfl, trivial⟩ (os' := [(qm, (o0, cO 8 (mo A (nI 0) su (nI 0) bl (nI ci) (nI ma) (nI p) (nI sz) (-1)))), (q_tape, (A 0, cI Y 4000 (iF tq))), (q_inputs, (A 6, cI Y 6 i1)), (q_gates, (A 7, cI Y 6 g1)), (q_outputs, (A 8, cI Y 6 o1)), (q_tabled, (A 9, cI Y 6 t1)), (q_sign, (A 10, cI Y 240 s1)), (q_left, (A 11, cI Y 240 l1)), (q_right, (A 12, cI Y 240 r1)), (q_tableOf, (A 13, cI Y 240 n1)), (q_outputOf, (A 14, cI Y 48 p1))]) rfl (st' := [.int (lkC tp sz p)]) rfl ?_
        refine x_run C 60 1 (pc' := 108) (lv' := [(0, .ref o0), (1, .int (nI ci))]) (st' := [.int 62, .int (lkC tp sz p)]) rfl ?_
        refine x_icmp_eq C 61 rfl (tgt := 123) rfl (fun hc24 => ?_) (fun hc24 => ?_)
        · exact J123 i Q p _ _ _ _ _ _ _ _ _ _ hn1 (by omega) rfl R hc24 fr
        · by_cases hS : i = 40 ∨ isS (lkC tp sz p) = 0
          · refine x_run C 62 2 (pc' := 113) (lv' := [(0, .ref o0), (1, .int (nI ci))]) (st' := [.int (nI ci), .ref o0]) rfl ?_
            refine x_cv C 64 (As := [.int (nI ci)]) (rest := []) rfl vX8_193 N 0 rfl rfl (c_X8_readGateF Y _ o0 A (nI 0) su 0 bl ci ma p sz tq tp g1 ci i qm q_tape q_gates (ovl_at 0 N rfl) (ovl_at 1 N rfl) (ovl_at 3 N rfl) (N.ov [0, 1, 3] (by decide) rfl) (by first | assumption | omega) (by omega) hT ht (by omega) R.gc (by first | assumption | omega) hS) rfl rfl (Nat.le_of_ble_eq_true rfl) ⟨Nat.le_of_ble_eq_true rfl, Nat.le_of_ble_eq_true rfl⟩ ⟨Nat.zero_le _, Nat.zero_le _⟩ [0, 1, 3] ⟨rfl, rfl, rfl, trivial⟩ (os' := [(qm, (o0, cO 8 (mo A (nI 0) su (nI 0) bl (nI ci) (nI ma) (nI p) (nI sz) (nI p)))), (q_tape, (A 0, cI Y 4000 (iF tq))), (q_inputs, (A 6, cI Y 6 i1)), (q_gates, (A 7, cI Y 6 g1)), (q_outputs, (A 8, cI Y 6 o1)), (q_tabled, (A 9, cI Y 6 t1)), (q_sign, (A 10, cI Y 240 s1)), (q_left, (A 11, cI Y 240 l1)), (q_right, (A 12, cI Y 240 r1)), (q_tableOf, (A 13, cI Y 240 n1)), (q_outputOf, (A 14, cI Y 48 p1))]) rfl (st' := []) rfl ?_
            refine x_run C 65 1 (pc' := 117) (lv' := [(0, .ref o0), (1, .int (nI ci))]) (st' := [.ref o0]) rfl ?_
            refine x_cv C 66 (As := []) (rest := []) rfl vX8_178 N 0 rfl rfl (c_X8_blanks Y _ o0 A (nI 0) su 0 bl ci ma p sz (nI p) tq tp qm q_tape (ovl_at 0 N rfl) (ovl_at 1 N rfl) (N.ov [0, 1] (by decide) rfl) (by first | assumption | omega) (by omega) hT ht) rfl rfl (Nat.le_of_ble_eq_true rfl) ⟨Nat.le_of_ble_eq_true rfl, Nat.le_of_ble_eq_true rfl⟩ ⟨Nat.zero_le _, Nat.zero_le _⟩ [0, 1] ⟨rfl, rfl, trivial⟩ (os' := [(qm, (o0, cO 8 (mo A (nI 0) su (nI 0) bl (nI ci) (nI ma) (nI (skB tp sz p)) (nI sz) (nI p)))), (q_tape, (A 0, cI Y 4000 (iF tq))), (q_inputs, (A 6, cI Y 6 i1)), (q_gates, (A 7, cI Y 6 g1)), (q_outputs, (A 8, cI Y 6 o1)), (q_tabled, (A 9, cI Y 6 t1)), (q_sign, (A 10, cI Y 240 s1)), (q_left, (A 11, cI Y 240 l1)), (q_right, (A 12, cI Y 240 r1)), (q_tableOf, (A 13, cI Y 240 n1)), (q_outputOf, (A 14, cI Y 48 p1))]) rfl (st' := []) rfl ?_
            refine x_run C 67 1 (pc' := 95) (lv' := [(0, .ref o0), (1, .int (nI ci))]) (st' := []) rfl ?_
            have q : (pcQ tp sz sgA lfA rtA tnA).2.1 = nI p := by unfold pcQ; exact gR_F R (by omega) hc24 hS
            exact J95f _ _ _ _ _ _ _ _ _ _ _ (by have := skB_spec tp sz p; omega) (nI_nn (by omega)) ((F_Q (by rw [q]; exact nI_n1 (by omega))).trans q) fr
          · obtain ⟨k1, k2, k3⟩ := gR_s he R (by omega) hc24 (fun z => hS (Or.inr z))
            have m1 := mgA_le tp he (lkC tp sz p) ((pcN tp sz) + i - 1) (p + 1)
            have m2 := mtK_le tp he (mgA tp sz (lkC tp sz p) ((pcN tp sz) + i - 1) (p + 1)).2.2.1 (mgA tp sz (lkC tp sz p) ((pcN tp sz) + i - 1) (p + 1)).2.2.2
            have m3 := skB_spec tp sz (mtK tp sz (mgA tp sz (lkC tp sz p) ((pcN tp sz) + i - 1) (p + 1)).2.2.1 (mgA tp sz (lkC tp sz p) ((pcN tp sz) + i - 1) (p + 1)).2.2.2).1
            refine x_run C 62 2 (pc' := 113) (lv' := [(0, .ref o0), (1, .int (nI ci))]) (st' := [.int (nI ci), .ref o0]) rfl ?_
            refine x_cv C 64 (As := [.int (nI ci)]) (rest := []) rfl vX8_193 N 0 rfl rfl (c_X8_readGate Y _ o0 A (nI 0) su 0 bl ci ma p sz tq tp i1 g1 t1 s1 l1 r1 n1 ci (pcN tp sz) i Q.2.2.2.1 qm q_tape q_inputs q_gates q_tabled q_sign q_left q_right q_tableOf (ovl_at 0 N rfl) (ovl_at 1 N rfl) (ovl_at 2 N rfl) (ovl_at 3 N rfl) (ovl_at 5 N rfl) (ovl_at 6 N rfl) (ovl_at 7 N rfl) (ovl_at 8 N rfl) (ovl_at 9 N rfl) (N.ov [0, 1, 2, 3, 5, 6, 7, 8, 9] (by decide) rfl) (by first | assumption | omega) (by omega) hT ht (by omega) R.gc (by first | assumption | omega) (fun z => hS (Or.inr z)) R.hn hn1.1 hn1.2 R.t (by first | assumption | omega)) rfl rfl (Nat.le_of_ble_eq_true rfl) ⟨Nat.le_of_ble_eq_true rfl, Nat.le_of_ble_eq_true rfl⟩ ⟨Nat.zero_le _, Nat.zero_le _⟩ [0, 1, 2, 3, 5, 6, 7, 8, 9] ⟨rfl, rfl, rfl, rfl, rfl, rfl, rfl, rfl, rfl, trivial⟩ (os' := [(qm, (o0, cO 8 (mo A (nI 0) su (nI 0) bl (nI ci) (nI ma) (nI (mtK tp sz (mgA tp sz (lkC tp sz p) ((pcN tp sz) + i - 1) (p + 1)).2.2.1 (mgA tp sz (lkC tp sz p) ((pcN tp sz) + i - 1) (p + 1)).2.2.2).1) (nI sz) (mtK tp sz (mgA tp sz (lkC tp sz p) ((pcN tp sz) + i - 1) (p + 1)).2.2.1 (mgA tp sz (lkC tp sz p) ((pcN tp sz) + i - 1) (p + 1)).2.2.2).2))), (q_tape, (A 0, cI Y 4000 (iF tq))), (q_inputs, (A 6, cI Y 6 i1)), (q_gates, (A 7, cI Y 6 (upd g1 ci (nI (i + 1))))), (q_outputs, (A 8, cI Y 6 o1)), (q_tabled, (A 9, cI Y 6 (upd t1 ci (nI (Q.2.2.2.1 + tnI (lkC tp sz p)))))), (q_sign, (A 10, cI Y 240 (upd s1 (40 * ci + i) (lkC tp sz p)))), (q_left, (A 11, cI Y 240 (upd l1 (40 * ci + i) (mgA tp sz (lkC tp sz p) ((pcN tp sz) + i - 1) (p + 1)).1))), (q_right, (A 12, cI Y 240 (upd r1 (40 * ci + i) (mgA tp sz (lkC tp sz p) ((pcN tp sz) + i - 1) (p + 1)).2.1))), (q_tableOf, (A 13, cI Y 240 (upd n1 (40 * ci + i) (tnV (lkC tp sz p) Q.2.2.2.1)))), (q_outputOf, (A 14, cI Y 48 p1))]) rfl (st' := []) rfl ?_
            refine x_run C 65 1 (pc' := 117) (lv' := [(0, .ref o0), (1, .int (nI ci))]) (st' := [.ref o0]) rfl ?_
            refine x_cv C 66 (As := []) (rest := []) rfl vX8_178 N 0 rfl rfl (c_X8_blanks Y _ o0 A (nI 0) su 0 bl ci ma (mtK tp sz (mgA tp sz (lkC tp sz p) ((pcN tp sz) + i - 1) (p + 1)).2.2.1 (mgA tp sz (lkC tp sz p) ((pcN tp sz) + i - 1) (p + 1)).2.2.2).1 sz (mtK tp sz (mgA tp sz (lkC tp sz p) ((pcN tp sz) + i - 1) (p + 1)).2.2.1 (mgA tp sz (lkC tp sz p) ((pcN tp sz) + i - 1) (p + 1)).2.2.2).2 tq tp qm q_tape (ovl_at 0 N rfl) (ovl_at 1 N rfl) (N.ov [0, 1] (by decide) rfl) (by first | assumption | omega) (by omega) hT ht) rfl rfl (Nat.le_of_ble_eq_true rfl) ⟨Nat.le_of_ble_eq_true rfl, Nat.le_of_ble_eq_true rfl⟩ ⟨Nat.zero_le _, Nat.zero_le _⟩ [0, 1] ⟨rfl, rfl, trivial⟩ (os' := [(qm, (o0, cO 8 (mo A (nI 0) su (nI 0) bl (nI ci) (nI ma) (nI (skB tp sz (mtK tp sz (mgA tp sz (lkC tp sz p) ((pcN tp sz) + i - 1) (p + 1)).2.2.1 (mgA tp sz (lkC tp sz p) ((pcN tp sz) + i - 1) (p + 1)).2.2.2).1)) (nI sz) (mtK tp sz (mgA tp sz (lkC tp sz p) ((pcN tp sz) + i - 1) (p + 1)).2.2.1 (mgA tp sz (lkC tp sz p) ((pcN tp sz) + i - 1) (p + 1)).2.2.2).2))), (q_tape, (A 0, cI Y 4000 (iF tq))), (q_inputs, (A 6, cI Y 6 i1)), (q_gates, (A 7, cI Y 6 (upd g1 ci (nI (i + 1))))), (q_outputs, (A 8, cI Y 6 o1)), (q_tabled, (A 9, cI Y 6 (upd t1 ci (nI (Q.2.2.2.1 + tnI (lkC tp sz p)))))), (q_sign, (A 10, cI Y 240 (upd s1 (40 * ci + i) (lkC tp sz p)))), (q_left, (A 11, cI Y 240 (upd l1 (40 * ci + i) (mgA tp sz (lkC tp sz p) ((pcN tp sz) + i - 1) (p + 1)).1))), (q_right, (A 12, cI Y 240 (upd r1 (40 * ci + i) (mgA tp sz (lkC tp sz p) ((pcN tp sz) + i - 1) (p + 1)).2.1))), (q_tableOf, (A 13, cI Y 240 (upd n1 (40 * ci + i) (tnV (lkC tp sz p) Q.2.2.2.1)))), (q_outputOf, (A 14, cI Y 48 p1))]) rfl (st' := []) rfl ?_
            refine x_run C 67 1 (pc' := 95) (lv' := [(0, .ref o0), (1, .int (nI ci))]) (st' := []) rfl ?_
            by_cases hz : (stQ tp sz (pcN tp sz) Q).2.1 = -1
            · exact ih (stQ tp sz (pcN tp sz) Q) _ _ _ _ _ _ _ _ _ _ _ (k1.symm.trans hz) (kpM_0 fr _ _ _ _ _ _ _) (k3 hz _ rfl)
            · have q : (pcQ tp sz sgA lfA rtA tnA).2.1 = (stQ tp sz (pcN tp sz) Q).2.1 := by unfold pcQ; exact k2 hz
              exact J95f _ _ _ _ _ _ _ _ _ _ _ (by omega) ((mtK_nn he (by omega) (mgA_nn he (by omega))).resolve_left (fun z => hz (k1.trans z))) ((F_Q (by rw [q]; exact hz)).trans (q.trans k1)) (kpM_0 fr _ _ _ _ _ _ _)
  have h9 := skB_spec tp sz 0
  have h8 := ndg_spec tp sz (skB tp sz 0)
  have h7 := skB_spec tp sz (skB tp sz 0 + ndg tp sz (skB tp sz 0))
  have h6 := skB_spec tp sz (skB tp sz (skB tp sz 0 + ndg tp sz (skB tp sz 0)) + 1)
  refine x_run C 0 2 (pc' := 2) (lv' := [(0, .ref o0)]) (st' := [.int 0, .ref o0]) rfl ?_
  refine x_put C 2 rfl pX8_117 N 0 rfl rfl rfl (Nat.le_of_ble_eq_true rfl) (os' := [(qm, (o0, cO 8 (mo A (nI 0) su (nI sz) bl (nI ci) (nI ma) pa en wr))), (q_tape, (A 0, cI Y 4000 (iF tq))), (q_inputs, (A 6, cI Y 6 iA)), (q_gates, (A 7, cI Y 6 gA)), (q_outputs, (A 8, cI Y 6 oA)), (q_tabled, (A 9, cI Y 6 tA)), (q_sign, (A 10, cI Y 240 sA)), (q_left, (A 11, cI Y 240 lA)), (q_right, (A 12, cI Y 240 rA)), (q_tableOf, (A 13, cI Y 240 nA)), (q_outputOf, (A 14, cI Y 48 pA))]) rfl ?_
  refine x_run C 3 2 (pc' := 7) (lv' := [(0, .ref o0)]) (st' := [.ref o0, .ref o0]) rfl ?_
  refine x_cv C 5 (As := []) (rest := [.ref o0]) rfl vX8_144 N 0 rfl rfl (c_X8_uses Y _ o0 A (nI 0) su sz bl ci ma pa en wr qm (ovl_at 0 N rfl) (N.ov [0] (by decide) rfl) ) rfl rfl (Nat.le_of_ble_eq_true rfl) ⟨Nat.le_of_ble_eq_true rfl, Nat.le_of_ble_eq_true rfl⟩ ⟨Nat.zero_le _, Nat.zero_le _⟩ [0] ⟨rfl, trivial⟩ (os' := [(qm, (o0, cO 8 (mo A (nI 0) su (nI 0) bl (nI ci) (nI ma) pa en wr))), (q_tape, (A 0, cI Y 4000 (iF tq))), (q_inputs, (A 6, cI Y 6 iA)), (q_gates, (A 7, cI Y 6 gA)), (q_outputs, (A 8, cI Y 6 oA)), (q_tabled, (A 9, cI Y 6 tA)), (q_sign, (A 10, cI Y 240 sA)), (q_left, (A 11, cI Y 240 lA)), (q_right, (A 12, cI Y 240 rA)), (q_tableOf, (A 13, cI Y 240 nA)), (q_outputOf, (A 14, cI Y 48 pA))]) rfl (st' := [.int (nI sz), .ref o0]) rfl ?_
  refine x_put C 6 rfl pX8_165 N 0 rfl rfl rfl (Nat.le_of_ble_eq_true rfl) (os' := [(qm, (o0, cO 8 (mo A (nI 0) su (nI 0) bl (nI ci) (nI ma) pa (nI sz) wr))), (q_tape, (A 0, cI Y 4000 (iF tq))), (q_inputs, (A 6, cI Y 6 iA)), (q_gates, (A 7, cI Y 6 gA)), (q_outputs, (A 8, cI Y 6 oA)), (q_tabled, (A 9, cI Y 6 tA)), (q_sign, (A 10, cI Y 240 sA)), (q_left, (A 11, cI Y 240 lA)), (q_right, (A 12, cI Y 240 rA)), (q_tableOf, (A 13, cI Y 240 nA)), (q_outputOf, (A 14, cI Y 48 pA))]) rfl ?_
  refine x_run C 7 1 (pc' := 14) (lv' := [(0, .ref o0)]) (st' := [.ref o0]) rfl ?_
  refine x_get C 8 rfl fX8_190 N 0 rfl (v := .int (nI ci)) rfl ?_
  refine x_run C 9 1 (pc' := 19) (lv' := [(0, .ref o0)]) (st' := [.int 6, .int (nI ci)]) rfl ?_
  refine x_st (st' := [.int (nI 6), .int (nI ci)]) (by simp only [nlit, nI_add, pk_mul]) ?_
  refine x_icmpN_ne C 10 (by omega) (by omega) rfl (tgt := 25) rfl (fun hc25 => ?_) (fun hc25 => ?_)
  · refine x_run C 13 1 (pc' := 26) (lv' := [(0, .ref o0)]) (st' := [.ref o0]) rfl ?_
    refine x_get C 14 rfl fX8_190 N 0 rfl (v := .int (nI ci)) rfl ?_
    refine x_run C 15 3 (pc' := 32) (lv' := [(1, .int (nI ci)), (0, .ref o0)]) (st' := [.int 0, .ref o0]) rfl ?_
    refine x_put C 18 rfl pX8_162 N 0 rfl rfl rfl (Nat.le_of_ble_eq_true rfl) (os' := [(qm, (o0, cO 8 (mo A (nI 0) su (nI 0) bl (nI ci) (nI ma) (nI 0) (nI sz) wr))), (q_tape, (A 0, cI Y 4000 (iF tq))), (q_inputs, (A 6, cI Y 6 iA)), (q_gates, (A 7, cI Y 6 gA)), (q_outputs, (A 8, cI Y 6 oA)), (q_tabled, (A 9, cI Y 6 tA)), (q_sign, (A 10, cI Y 240 sA)), (q_left, (A 11, cI Y 240 lA)), (q_right, (A 12, cI Y 240 rA)), (q_tableOf, (A 13, cI Y 240 nA)), (q_outputOf, (A 14, cI Y 48 pA))]) rfl ?_
    refine x_run C 19 2 (pc' := 37) (lv' := [(1, .int (nI ci)), (0, .ref o0)]) (st' := [.int (-1), .ref o0]) rfl ?_
    refine x_put C 21 rfl pX8_159 N 0 rfl rfl rfl (Nat.le_of_ble_eq_true rfl) (os' := [(qm, (o0, cO 8 (mo A (nI 0) su (nI 0) bl (nI ci) (nI ma) (nI 0) (nI sz) (-1)))), (q_tape, (A 0, cI Y 4000 (iF tq))), (q_inputs, (A 6, cI Y 6 iA)), (q_gates, (A 7, cI Y 6 gA)), (q_outputs, (A 8, cI Y 6 oA)), (q_tabled, (A 9, cI Y 6 tA)), (q_sign, (A 10, cI Y 240 sA)), (q_left, (A 11, cI Y 240 lA)), (q_right, (A 12, cI Y 240 rA)), (q_tableOf, (A 13, cI Y 240 nA)), (q_outputOf, (A 14, cI Y 48 pA))]) rfl ?_
    refine x_run C 22 1 (pc' := 41) (lv' := [(1, .int (nI ci)), (0, .ref o0)]) (st' := [.ref o0]) rfl ?_
    refine x_get C 23 rfl fX8_31 N 0 rfl (v := .ref (A 7)) rfl ?_
    refine x_run C 24 2 (pc' := 46) (lv' := [(1, .int (nI ci)), (0, .ref o0)]) (st' := [.int 0, .int (nI ci), .ref (A 7)]) rfl ?_
    refine x_iastN C 26 rfl N 3 rfl (by omega) (by omega) (os' := [(qm, (o0, cO 8 (mo A (nI 0) su (nI 0) bl (nI ci) (nI ma) (nI 0) (nI sz) (-1)))), (q_tape, (A 0, cI Y 4000 (iF tq))), (q_inputs, (A 6, cI Y 6 iA)), (q_gates, (A 7, cI Y 6 (upd gA ci 0))), (q_outputs, (A 8, cI Y 6 oA)), (q_tabled, (A 9, cI Y 6 tA)), (q_sign, (A 10, cI Y 240 sA)), (q_left, (A 11, cI Y 240 lA)), (q_right, (A 12, cI Y 240 rA)), (q_tableOf, (A 13, cI Y 240 nA)), (q_outputOf, (A 14, cI Y 48 pA))]) rfl ?_
    refine x_run C 27 1 (pc' := 48) (lv' := [(1, .int (nI ci)), (0, .ref o0)]) (st' := [.ref o0]) rfl ?_
    refine x_get C 28 rfl fX8_34 N 0 rfl (v := .ref (A 8)) rfl ?_
    refine x_run C 29 2 (pc' := 53) (lv' := [(1, .int (nI ci)), (0, .ref o0)]) (st' := [.int 0, .int (nI ci), .ref (A 8)]) rfl ?_
    refine x_iastN C 31 rfl N 4 rfl (by omega) (by omega) (os' := [(qm, (o0, cO 8 (mo A (nI 0) su (nI 0) bl (nI ci) (nI ma) (nI 0) (nI sz) (-1)))), (q_tape, (A 0, cI Y 4000 (iF tq))), (q_inputs, (A 6, cI Y 6 iA)), (q_gates, (A 7, cI Y 6 (upd gA ci 0))), (q_outputs, (A 8, cI Y 6 (upd oA ci 0))), (q_tabled, (A 9, cI Y 6 tA)), (q_sign, (A 10, cI Y 240 sA)), (q_left, (A 11, cI Y 240 lA)), (q_right, (A 12, cI Y 240 rA)), (q_tableOf, (A 13, cI Y 240 nA)), (q_outputOf, (A 14, cI Y 48 pA))]) rfl ?_
    refine x_run C 32 1 (pc' := 55) (lv' := [(1, .int (nI ci)), (0, .ref o0)]) (st' := [.ref o0]) rfl ?_
    refine x_get C 33 rfl fX8_37 N 0 rfl (v := .ref (A 9)) rfl ?_
    refine x_run C 34 2 (pc' := 60) (lv' := [(1, .int (nI ci)), (0, .ref o0)]) (st' := [.int 0, .int (nI ci), .ref (A 9)]) rfl ?_
    refine x_iastN C 36 rfl N 5 rfl (by omega) (by omega) (os' := [(qm, (o0, cO 8 (mo A (nI 0) su (nI 0) bl (nI ci) (nI ma) (nI 0) (nI sz) (-1)))), (q_tape, (A 0, cI Y 4000 (iF tq))), (q_inputs, (A 6, cI Y 6 iA)), (q_gates, (A 7, cI Y 6 (upd gA ci 0))), (q_outputs, (A 8, cI Y 6 (upd oA ci 0))), (q_tabled, (A 9, cI Y 6 (upd tA ci 0))), (q_sign, (A 10, cI Y 240 sA)), (q_left, (A 11, cI Y 240 lA)), (q_right, (A 12, cI Y 240 rA)), (q_tableOf, (A 13, cI Y 240 nA)), (q_outputOf, (A 14, cI Y 48 pA))]) rfl ?_
    refine x_run C 37 1 (pc' := 62) (lv' := [(1, .int (nI ci)), (0, .ref o0)]) (st' := [.ref o0]) rfl ?_
    refine x_cv C 38 (As := []) (rest := []) rfl vX8_178 N 0 rfl rfl (c_X8_blanks Y _ o0 A (nI 0) su 0 bl ci ma 0 sz (-1) tq tp qm q_tape (ovl_at 0 N rfl) (ovl_at 1 N rfl) (N.ov [0, 1] (by decide) rfl) he (by omega) hT ht) rfl rfl (Nat.le_of_ble_eq_true rfl) ⟨Nat.le_of_ble_eq_true rfl, Nat.le_of_ble_eq_true rfl⟩ ⟨Nat.zero_le _, Nat.zero_le _⟩ [0, 1] ⟨rfl, rfl, trivial⟩ (os' := [(qm, (o0, cO 8 (mo A (nI 0) su (nI 0) bl (nI ci) (nI ma) (nI (skB tp sz 0)) (nI sz) (-1)))), (q_tape, (A 0, cI Y 4000 (iF tq))), (q_inputs, (A 6, cI Y 6 iA)), (q_gates, (A 7, cI Y 6 (upd gA ci 0))), (q_outputs, (A 8, cI Y 6 (upd oA ci 0))), (q_tabled, (A 9, cI Y 6 (upd tA ci 0))), (q_sign, (A 10, cI Y 240 sA)), (q_left, (A 11, cI Y 240 lA)), (q_right, (A 12, cI Y 240 rA)), (q_tableOf, (A 13, cI Y 240 nA)), (q_outputOf, (A 14, cI Y 48 pA))]) rfl (st' := []) rfl ?_
    refine x_run C 39 1 (pc' := 66) (lv' := [(1, .int (nI ci)), (0, .ref o0)]) (st' := [.ref o0]) rfl ?_
    refine x_get C 40 rfl fX8_28 N 0 rfl (v := .ref (A 6)) rfl ?_
    refine x_run C 41 4 (pc' := 74) (lv' := [(1, .int (nI ci)), (0, .ref o0)]) (st' := [.int 16, .int 1, .ref o0, .int (nI ci), .ref (A 6)]) rfl ?_
    refine x_cv C 45 (As := [.int 1, .int 16]) (rest := [.int (nI ci), .ref (A 6)]) rfl vX8_184 N 0 rfl rfl (c_X8_number Y _ o0 A (nI 0) su 0 bl ci ma (skB tp sz 0) sz (-1) tq tp 1 16 qm q_tape (ovl_at 0 N rfl) (ovl_at 1 N rfl) (N.ov [0, 1] (by decide) rfl) he (by omega) hT ht) rfl rfl (Nat.le_of_ble_eq_true rfl) ⟨Nat.le_of_ble_eq_true rfl, Nat.le_of_ble_eq_true rfl⟩ ⟨Nat.zero_le _, Nat.zero_le _⟩ [0, 1] ⟨rfl, rfl, trivial⟩ (os' := [(qm, (o0, cO 8 (mo A (nI 0) su (nI 0) bl (nI ci) (nI ma) (nI ((skB tp sz 0) + (ndg tp sz (skB tp sz 0)))) (nI sz) (mnW tp sz 1 16 (skB tp sz 0) (-1))))), (q_tape, (A 0, cI Y 4000 (iF tq))), (q_inputs, (A 6, cI Y 6 iA)), (q_gates, (A 7, cI Y 6 (upd gA ci 0))), (q_outputs, (A 8, cI Y 6 (upd oA ci 0))), (q_tabled, (A 9, cI Y 6 (upd tA ci 0))), (q_sign, (A 10, cI Y 240 sA)), (q_left, (A 11, cI Y 240 lA)), (q_right, (A 12, cI Y 240 rA)), (q_tableOf, (A 13, cI Y 240 nA)), (q_outputOf, (A 14, cI Y 48 pA))]) rfl (st' := [.int (dvI tp sz (skB tp sz 0) (ndg tp sz (skB tp sz 0))), .int (nI ci), .ref (A 6)]) rfl ?_
    refine x_iastN C 46 rfl N 2 rfl (by omega) (by omega) (os' := [(qm, (o0, cO 8 (mo A (nI 0) su (nI 0) bl (nI ci) (nI ma) (nI ((skB tp sz 0) + (ndg tp sz (skB tp sz 0)))) (nI sz) (mnW tp sz 1 16 (skB tp sz 0) (-1))))), (q_tape, (A 0, cI Y 4000 (iF tq))), (q_inputs, (A 6, cI Y 6 (upd iA ci (dvI tp sz (skB tp sz 0) (ndg tp sz (skB tp sz 0)))))), (q_gates, (A 7, cI Y 6 (upd gA ci 0))), (q_outputs, (A 8, cI Y 6 (upd oA ci 0))), (q_tabled, (A 9, cI Y 6 (upd tA ci 0))), (q_sign, (A 10, cI Y 240 sA)), (q_left, (A 11, cI Y 240 lA)), (q_right, (A 12, cI Y 240 rA)), (q_tableOf, (A 13, cI Y 240 nA)), (q_outputOf, (A 14, cI Y 48 pA))]) rfl ?_
    refine x_run C 47 1 (pc' := 79) (lv' := [(1, .int (nI ci)), (0, .ref o0)]) (st' := [.ref o0]) rfl ?_
    refine x_get C 48 rfl fX8_159 N 0 rfl (v := .int (mnW tp sz 1 16 (skB tp sz 0) (-1))) rfl ?_
    refine x_if_ge C 49 rfl (tgt := 91) rfl (fun hc26 => ?_) (fun hc26 => ?_)
    · refine x_run C 53 1 (pc' := 92) (lv' := [(1, .int (nI ci)), (0, .ref o0)]) (st' := [.ref o0]) rfl ?_
      refine x_cv C 54 (As := []) (rest := []) rfl vX8_178 N 0 rfl rfl (c_X8_blanks Y _ o0 A (nI 0) su 0 bl ci ma ((skB tp sz 0) + (ndg tp sz (skB tp sz 0))) sz (mnW tp sz 1 16 (skB tp sz 0) (-1)) tq tp qm q_tape (ovl_at 0 N rfl) (ovl_at 1 N rfl) (N.ov [0, 1] (by decide) rfl) he (by omega) hT ht) rfl rfl (Nat.le_of_ble_eq_true rfl) ⟨Nat.le_of_ble_eq_true rfl, Nat.le_of_ble_eq_true rfl⟩ ⟨Nat.zero_le _, Nat.zero_le _⟩ [0, 1] ⟨rfl, rfl, trivial⟩ (os' := [(qm, (o0, cO 8 (mo A (nI 0) su (nI 0) bl (nI ci) (nI ma) (nI (skB tp sz ((skB tp sz 0) + (ndg tp sz (skB tp sz 0))))) (nI sz) (mnW tp sz 1 16 (skB tp sz 0) (-1))))), (q_tape, (A 0, cI Y 4000 (iF tq))), (q_inputs, (A 6, cI Y 6 (upd iA ci (dvI tp sz (skB tp sz 0) (ndg tp sz (skB tp sz 0)))))), (q_gates, (A 7, cI Y 6 (upd gA ci 0))), (q_outputs, (A 8, cI Y 6 (upd oA ci 0))), (q_tabled, (A 9, cI Y 6 (upd tA ci 0))), (q_sign, (A 10, cI Y 240 sA)), (q_left, (A 11, cI Y 240 lA)), (q_right, (A 12, cI Y 240 rA)), (q_tableOf, (A 13, cI Y 240 nA)), (q_outputOf, (A 14, cI Y 48 pA))]) rfl (st' := []) rfl ?_
      refine x_sub (lv' := [(0, .ref o0), (1, .int (nI ci))]) [1, 0] rfl ?_
      have m2 := pcM_2 (tp := tp) he
      rw [mtK_k hc26] at m2
      exact J95f _ _ _ _ _ _ _ _ _ _ _ (by omega) hc26 ((F_M (fun z => neg1 ((m2.symm.trans z) ▸ hc26))).trans m2) (kpM_i _ _ _ _ _ _ _ _ _ _ _ _ _ _)
    · refine x_run C 50 2 (pc' := 88) (lv' := [(1, .int (nI ci)), (0, .ref o0)]) (st' := [.int 59, .ref o0]) rfl ?_
      refine x_cv C 52 (As := [.int 59]) (rest := []) rfl vX8_187 N 0 rfl rfl (c_X8_take Y _ o0 A (nI 0) su 0 bl ci ma ((skB tp sz 0) + (ndg tp sz (skB tp sz 0))) sz (mnW tp sz 1 16 (skB tp sz 0) (-1)) tq tp 59 qm q_tape (ovl_at 0 N rfl) (ovl_at 1 N rfl) (N.ov [0, 1] (by decide) rfl) he (by omega) hT ht) rfl rfl (Nat.le_of_ble_eq_true rfl) ⟨Nat.le_of_ble_eq_true rfl, Nat.le_of_ble_eq_true rfl⟩ ⟨Nat.zero_le _, Nat.zero_le _⟩ [0, 1] ⟨rfl, rfl, trivial⟩ (os' := [(qm, (o0, cO 8 (mo A (nI 0) su (nI 0) bl (nI ci) (nI ma) (nI ((skB tp sz ((skB tp sz 0) + (ndg tp sz (skB tp sz 0)))) + 1)) (nI sz) (if lkC tp sz (skB tp sz ((skB tp sz 0) + (ndg tp sz (skB tp sz 0)))) = 59 then (mnW tp sz 1 16 (skB tp sz 0) (-1)) else flt (mnW tp sz 1 16 (skB tp sz 0) (-1)) (nI (skB tp sz ((skB tp sz 0) + (ndg tp sz (skB tp sz 0))))))))), (q_tape, (A 0, cI Y 4000 (iF tq))), (q_inputs, (A 6, cI Y 6 (upd iA ci (dvI tp sz (skB tp sz 0) (ndg tp sz (skB tp sz 0)))))), (q_gates, (A 7, cI Y 6 (upd gA ci 0))), (q_outputs, (A 8, cI Y 6 (upd oA ci 0))), (q_tabled, (A 9, cI Y 6 (upd tA ci 0))), (q_sign, (A 10, cI Y 240 sA)), (q_left, (A 11, cI Y 240 lA)), (q_right, (A 12, cI Y 240 rA)), (q_tableOf, (A 13, cI Y 240 nA)), (q_outputOf, (A 14, cI Y 48 pA))]) rfl (st' := []) rfl ?_
      refine x_run C 53 1 (pc' := 92) (lv' := [(1, .int (nI ci)), (0, .ref o0)]) (st' := [.ref o0]) rfl ?_
      refine x_cv C 54 (As := []) (rest := []) rfl vX8_178 N 0 rfl rfl (c_X8_blanks Y _ o0 A (nI 0) su 0 bl ci ma ((skB tp sz ((skB tp sz 0) + (ndg tp sz (skB tp sz 0)))) + 1) sz (if lkC tp sz (skB tp sz ((skB tp sz 0) + (ndg tp sz (skB tp sz 0)))) = 59 then (mnW tp sz 1 16 (skB tp sz 0) (-1)) else flt (mnW tp sz 1 16 (skB tp sz 0) (-1)) (nI (skB tp sz ((skB tp sz 0) + (ndg tp sz (skB tp sz 0)))))) tq tp qm q_tape (ovl_at 0 N rfl) (ovl_at 1 N rfl) (N.ov [0, 1] (by decide) rfl) he (by omega) hT ht) rfl rfl (Nat.le_of_ble_eq_true rfl) ⟨Nat.le_of_ble_eq_true rfl, Nat.le_of_ble_eq_true rfl⟩ ⟨Nat.zero_le _, Nat.zero_le _⟩ [0, 1] ⟨rfl, rfl, trivial⟩ (os' := [(qm, (o0, cO 8 (mo A (nI 0) su (nI 0) bl (nI ci) (nI ma) (nI (skB tp sz ((skB tp sz ((skB tp sz 0) + (ndg tp sz (skB tp sz 0)))) + 1))) (nI sz) (if lkC tp sz (skB tp sz ((skB tp sz 0) + (ndg tp sz (skB tp sz 0)))) = 59 then (mnW tp sz 1 16 (skB tp sz 0) (-1)) else flt (mnW tp sz 1 16 (skB tp sz 0) (-1)) (nI (skB tp sz ((skB tp sz 0) + (ndg tp sz (skB tp sz 0))))))))), (q_tape, (A 0, cI Y 4000 (iF tq))), (q_inputs, (A 6, cI Y 6 (upd iA ci (dvI tp sz (skB tp sz 0) (ndg tp sz (skB tp sz 0)))))), (q_gates, (A 7, cI Y 6 (upd gA ci 0))), (q_outputs, (A 8, cI Y 6 (upd oA ci 0))), (q_tabled, (A 9, cI Y 6 (upd tA ci 0))), (q_sign, (A 10, cI Y 240 sA)), (q_left, (A 11, cI Y 240 lA)), (q_right, (A 12, cI Y 240 rA)), (q_tableOf, (A 13, cI Y 240 nA)), (q_outputOf, (A 14, cI Y 48 pA))]) rfl (st' := []) rfl ?_
      refine x_sub (lv' := [(0, .ref o0), (1, .int (nI ci))]) [1, 0] rfl ?_
      have m2 := pcM_2 (tp := tp) he
      have m1 : mnW tp sz 1 16 (skB tp sz 0) (-1) = -1 := (mnW_nn (by omega) (Or.inl rfl)).resolve_right hc26
      have m4 := mtK_nn (tp := tp) he (p := skB tp sz 0 + ndg tp sz (skB tp sz 0)) (by omega) (Or.inl m1)
      by_cases hM : (pcM tp sz).2 = -1
      · obtain ⟨x1, x2, x3, x4, x5⟩ := pcM_1 he hM
        refine L95 ⟨x2, x3⟩ 0 (by omega) ((pcM tp sz).1, (pcM tp sz).2, 0, 0, sgA, lfA, rtA, tnA) _ _ _ _ _ _ _ _ _ _ _ ?_ (kpM_i _ _ _ _ _ _ _ _ _ _ _ _ _ _) (gR_0 he hM)
        rw [m2, mtK, if_neg hc26] at hM
        exact hM
      · refine J95f _ _ _ _ _ _ _ _ _ _ _ (by omega) ?_ ?_ (kpM_i _ _ _ _ _ _ _ _ _ _ _ _ _ _)
        · have m5 := m4.resolve_left (fun z => hM (m2.trans z))
          rw [mtK, if_neg hc26] at m5
          exact m5
        · refine (F_M hM).trans (m2.trans ?_)
          rw [mtK, if_neg hc26]
  · exact absurd hc25 (by omega)
