theorem rgN_g (tp : Nat → Nat) (sz n : Nat) : ∀ (m i : Nat) (Q : rQ), (rgN tp sz n m i Q).2.2.1 ≤ Q.2.2.1 + m
  | 0, i, Q => Nat.le_refl _
  | m + 1, i, Q => by
    unfold rgN
    repeat' split
    · simp only; omega
    · simp only; omega
    · simp only; omega
    · have h := rgN_g tp sz n m (i + 1) (stQ tp sz n Q)
      have h2 : (stQ tp sz n Q).2.2.1 ≤ Q.2.2.1 + 1 := by
        show (if (gtA tp sz n Q).2.2.2 = -1 then Q.2.2.1 + 1 else Q.2.2.1) ≤ _
        split <;> omega
      omega
    · omega
theorem rgN_p (tp : Nat → Nat) {sz : Nat} (hsz : sz ≤ 4000) (n : Nat) : ∀ (m i : Nat) (Q : rQ), Q.1 ≤ 5000 + 20 * i → (rgN tp sz n m i Q).1 ≤ 5000 + 20 * (i + m)
  | 0, i, Q, h => h
  | m + 1, i, Q, h => by
    have h3 := skB_spec tp sz Q.1
    unfold rgN
    repeat' split
    · simp only; omega
    · simp only; omega
    · simp only; omega
    · have h1 := rmG_le tp hsz 59 (gtA tp sz n Q).2.2.1 (gtA tp sz n Q).2.2.2
      have h2 := rgA_le tp hsz (lkC tp sz (skB tp sz Q.1)) (n + Q.2.2.1 - 1) (skB tp sz Q.1 + 1)
      have h4 := rgN_p tp hsz n m (i + 1) (stQ tp sz n Q) (by
        show (rmG tp sz 59 (gtA tp sz n Q).2.2.1 (gtA tp sz n Q).2.2.2).1 ≤ _
        unfold gtA at h1 ⊢
        omega)
      omega
    · omega
theorem rgN_f {tp : Nat → Nat} {sz n m i : Nat} {Q : rQ} (h : (rgN tp sz n m i Q).2.1 = -1) : Q.2.1 = -1 := by
  cases m with
  | zero => exact h
  | succ m =>
    unfold rgN at h
    split at h
    · assumption
    · exact h
theorem rmG_f {tp : Nat → Nat} {sz p : Nat} {m fp : Int32} (h : (rmG tp sz m p fp).2 = -1) : fp = -1 := by
  unfold rmG at h
  split at h
  · assumption
  · exact h
/-- a number as it is read between two bounds -/
theorem rn_nat (tp : Nat → Nat) {sz : Nat} (hsz : sz ≤ 4000) (lo hi : Nat) {p : Nat} (hp : p ≤ 100000) (fp : Int32) (hh : hi < 1000) (hl : lo < 1000) : (rnG tp sz (nI lo) (nI hi) p fp).1 = nI (rnG tp sz (nI lo) (nI hi) p fp).1.toNatClampNeg ∧ (rnG tp sz (nI lo) (nI hi) p fp).1.toNatClampNeg ≤ hi ∧ ((rnG tp sz (nI lo) (nI hi) p fp).2.2 = -1 → lo ≤ (rnG tp sz (nI lo) (nI hi) p fp).1.toNatClampNeg) := by
  have h9 := skB_spec tp sz p
  have h8 := ndg_spec tp sz (skB tp sz p)
  have nm : ∀ {q : Nat}, q < 2 ^ 20 → ¬ nI q = -1 := fun hq e => by
    have h1 := congrArg Int32.toInt e
    rw [nI_toInt (by omega)] at h1
    have h2 : (-1 : Int32).toInt = -1 := by decide
    omega
  have z0 : (0 : Int32) = nI (0 : Int32).toNatClampNeg ∧ (0 : Int32).toNatClampNeg ≤ hi := ⟨by decide, by rw [sb_cl0]; omega⟩
  have key : ∀ v : Int32, ¬ v < nI lo → v ≤ nI hi → v = nI v.toNatClampNeg ∧ v.toNatClampNeg ≤ hi ∧ lo ≤ v.toNatClampNeg := by
    intro v h1 h2
    have h0 : ¬ v < 0 := fun h => h1 (by
      rw [Int32.lt_iff_toInt_lt] at h ⊢
      rw [nI_toInt (by omega)]
      have : (0 : Int32).toInt = 0 := by decide
      omega)
    obtain ⟨j, hj, rfl⟩ := nI_of h0
    rw [nI_clamp hj]
    exact ⟨rfl, (nI_leI hj (by omega)).mp h2, Nat.not_lt.mp fun z => h1 ((nI_ltI hj (by omega)).mpr z)⟩
  unfold rnG
  split
  · unfold rnA
    split
    · exact ⟨z0.1, z0.2, fun h => absurd h (nm (by omega))⟩
    · split
      · exact ⟨z0.1, z0.2, fun h => absurd h (nm (by omega))⟩
      · rename_i h1
        split
        · rename_i h2
          obtain ⟨k1, k2, k3⟩ := key _ h1 h2
          split
          · exact ⟨k1, k2, fun _ => k3⟩
          · exact ⟨k1, k2, fun _ => k3⟩
        · exact ⟨z0.1, z0.2, fun h => absurd h (nm (by omega))⟩
  · rename_i hf
    exact ⟨z0.1, z0.2, fun h => absurd h hf⟩
def pcN (tp : Nat → Nat) (sz : Nat) : Nat := (rnG tp sz 1 16 0 (-1)).1.toNatClampNeg
def pcM (tp : Nat → Nat) (sz : Nat) : Nat × Int32 := (rmG tp sz 59 (rnG tp sz 1 16 0 (-1)).2.1 (rnG tp sz 1 16 0 (-1)).2.2)
def pcQ (tp : Nat → Nat) (sz : Nat) (sgA lfA rtA tnA : Nat → Int32) : rQ := rgN tp sz (pcN tp sz) 41 0 ((pcM tp sz).1, (pcM tp sz).2, 0, 0, sgA, lfA, rtA, tnA)
def pcO (tp : Nat → Nat) (sz : Nat) (sgA lfA rtA tnA ouA : Nat → Int32) : oQ := roN tp sz (pcN tp sz + (pcQ tp sz sgA lfA rtA tnA).2.2.1) 9 0 ((pcQ tp sz sgA lfA rtA tnA).1, (pcQ tp sz sgA lfA rtA tnA).2.1, 0, ouA)
set_option maxHeartbeats 4000000 in
set_option maxRecDepth 100000 in
theorem c_X2_readInto (Y : xD) (w : va_W) (r0 : Nat) (t0 : Nat) (t1 : Nat) (ts : Nat) (tp : Nat → Nat) (s0 : Int32) (p0 : Int32) (fp : Int32) (sz : Nat) (c0 : Nat) (c1 : Nat) (c2 : Nat) (c3 : Nat) (c4_ : Nat) (c5 : Nat) (n : Nat) (g : Nat) (tb : Nat) (o : Nat) (sgA : Nat → Int32) (lfA : Nat → Int32) (rtA : Nat → Int32) (tnA : Nat → Int32) (ouA : Nat → Int32) (q0 qt0 qt1 qc qs ql qri qn qo : Nat) (e0 : w[q0]? = some (r0, cO 2 [.ref t0, .int s0, .int p0, .int fp])) (e1 : w[qt0]? = some (t0, cO 6 [.ref t1, .int (nI ts)])) (e2 : w[qt1]? = some (t1, cB Y 4000 (bF tp))) (e3 : w[qc]? = some (c0, cO 1 [.ref c1, .ref c2, .ref c3, .ref c4_, .ref c5, .int (nI n), .int (nI g), .int (nI tb), .int (nI o)])) (e4 : w[qs]? = some (c1, cI Y 40 sgA)) (e5 : w[ql]? = some (c2, cI Y 40 lfA)) (e6 : w[qri]? = some (c3, cI Y 40 rtA)) (e7 : w[qn]? = some (c4_, cI Y 40 tnA)) (e8 : w[qo]? = some (c5, cI Y 8 ouA)) (N : xN w.length [q0, qt0, qt1, qc, qs, ql, qri, qn, qo]) (hsz : sz ≤ 4000) (ht : ∀ j, tp j < 256) : Cf Y mX2_readInto 6 [.ref r0, .ref c0, .int (nI sz)] w (some (.int (if (pcO tp sz sgA lfA rtA tnA ouA).2.1 = -1 then (0 : Int32) else -1000 - (pcO tp sz sgA lfA rtA tnA ouA).2.1))) [(q0, (r0, cO 2 [.ref t0, .int (nI sz), .int (nI (pcO tp sz sgA lfA rtA tnA ouA).1), .int ((pcO tp sz sgA lfA rtA tnA ouA).2.1)])), (qt0, (t0, cO 6 [.ref t1, .int (nI ts)])), (qt1, (t1, cB Y 4000 (bF tp))), (qc, (c0, cO 1 [.ref c1, .ref c2, .ref c3, .ref c4_, .ref c5, .int (nI (pcN tp sz)), .int (nI (pcQ tp sz sgA lfA rtA tnA).2.2.1), .int (nI (pcQ tp sz sgA lfA rtA tnA).2.2.2.1), .int (nI (pcO tp sz sgA lfA rtA tnA ouA).2.2.1)])), (qs, (c1, cI Y 40 (pcQ tp sz sgA lfA rtA tnA).2.2.2.2.1)), (ql, (c2, cI Y 40 (pcQ tp sz sgA lfA rtA tnA).2.2.2.2.2.1)), (qri, (c3, cI Y 40 (pcQ tp sz sgA lfA rtA tnA).2.2.2.2.2.2.1)), (qn, (c4_, cI Y 40 (pcQ tp sz sgA lfA rtA tnA).2.2.2.2.2.2.2)), (qo, (c5, cI Y 8 (pcO tp sz sgA lfA rtA tnA ouA).2.2.2))] := by
  refine Ct.intro (T := tX2_readInto) (by decide) oX2_readInto (Nat.le_of_ble_eq_true rfl) (fun G C B => ?_)
  refine x_lay [(q0, (r0, cO 2 [.ref t0, .int s0, .int p0, .int fp])), (qt0, (t0, cO 6 [.ref t1, .int (nI ts)])), (qt1, (t1, cB Y 4000 (bF tp))), (qc, (c0, cO 1 [.ref c1, .ref c2, .ref c3, .ref c4_, .ref c5, .int (nI n), .int (nI g), .int (nI tb), .int (nI o)])), (qs, (c1, cI Y 40 sgA)), (ql, (c2, cI Y 40 lfA)), (qri, (c3, cI Y 40 rtA)), (qn, (c4_, cI Y 40 tnA)), (qo, (c5, cI Y 8 ouA))] (lay_cons e0 (lay_cons e1 (lay_cons e2 (lay_cons e3 (lay_cons e4 (lay_cons e5 (lay_cons e6 (lay_cons e7 (lay_cons e8 lay_nil))))))))) ?_
  have hrn : (rnG tp sz 1 16 0 (-1)).1 = nI (pcN tp sz) ∧ pcN tp sz ≤ 16 ∧ ((rnG tp sz 1 16 0 (-1)).2.2 = -1 → 1 ≤ pcN tp sz) := by unfold pcN; exact rn_nat tp hsz 1 16 (p := 0) (by omega) (-1) (by omega) (by omega)
  have hn1 := rnG_le tp hsz 1 16 0 (-1)
  have hn2 : (pcM tp sz).1 ≤ (rnG tp sz 1 16 0 (-1)).2.1 + 1 ∨ (pcM tp sz).1 ≤ 4001 := by unfold pcM; exact rmG_le tp hsz 59 (rnG tp sz 1 16 0 (-1)).2.1 (rnG tp sz 1 16 0 (-1)).2.2
  have hn3 : (pcQ tp sz sgA lfA rtA tnA).2.2.1 ≤ 0 + 41 := by unfold pcQ; exact rgN_g tp sz (pcN tp sz) 41 0 ((pcM tp sz).1, (pcM tp sz).2, 0, 0, sgA, lfA, rtA, tnA)
  have hn4 : (pcQ tp sz sgA lfA rtA tnA).1 ≤ 5000 + 20 * (0 + 41) := by unfold pcQ; exact rgN_p tp hsz (pcN tp sz) 41 0 ((pcM tp sz).1, (pcM tp sz).2, 0, 0, sgA, lfA, rtA, tnA) (by simp only; omega)
  have hn5 : pcN tp sz ≤ 16 := hrn.2.1
  have hn6 : (pcM tp sz).2 = -1 → 1 ≤ pcN tp sz := by intro h; unfold pcM at h; exact hrn.2.2 (rmG_f h)
  have hn7 : (pcQ tp sz sgA lfA rtA tnA).2.1 = -1 → 1 ≤ pcN tp sz := by intro h; unfold pcQ at h; exact hn6 (rgN_f h)
  refine x_run C 0 2 (pc' := 2) (lv' := [(0, .ref r0), (1, .ref c0), (2, .int (nI sz))]) (st' := [.int (nI sz), .ref r0]) rfl ?_
  refine x_put C 2 rfl pX2_15 N 0 rfl rfl rfl (Nat.le_of_ble_eq_true rfl) (os' := [(q0, (r0, cO 2 [.ref t0, .int (nI sz), .int p0, .int fp])), (qt0, (t0, cO 6 [.ref t1, .int (nI ts)])), (qt1, (t1, cB Y 4000 (bF tp))), (qc, (c0, cO 1 [.ref c1, .ref c2, .ref c3, .ref c4_, .ref c5, .int (nI n), .int (nI g), .int (nI tb), .int (nI o)])), (qs, (c1, cI Y 40 sgA)), (ql, (c2, cI Y 40 lfA)), (qri, (c3, cI Y 40 rtA)), (qn, (c4_, cI Y 40 tnA)), (qo, (c5, cI Y 8 ouA))]) rfl ?_
  refine x_run C 3 2 (pc' := 7) (lv' := [(0, .ref r0), (1, .ref c0), (2, .int (nI sz))]) (st' := [.int 0, .ref r0]) rfl ?_
  refine x_put C 5 rfl pX2_19 N 0 rfl rfl rfl (Nat.le_of_ble_eq_true rfl) (os' := [(q0, (r0, cO 2 [.ref t0, .int (nI sz), .int 0, .int fp])), (qt0, (t0, cO 6 [.ref t1, .int (nI ts)])), (qt1, (t1, cB Y 4000 (bF tp))), (qc, (c0, cO 1 [.ref c1, .ref c2, .ref c3, .ref c4_, .ref c5, .int (nI n), .int (nI g), .int (nI tb), .int (nI o)])), (qs, (c1, cI Y 40 sgA)), (ql, (c2, cI Y 40 lfA)), (qri, (c3, cI Y 40 rtA)), (qn, (c4_, cI Y 40 tnA)), (qo, (c5, cI Y 8 ouA))]) rfl ?_
  refine x_run C 6 2 (pc' := 12) (lv' := [(0, .ref r0), (1, .ref c0), (2, .int (nI sz))]) (st' := [.int (-1), .ref r0]) rfl ?_
  refine x_put C 8 rfl pX2_22 N 0 rfl rfl rfl (Nat.le_of_ble_eq_true rfl) (os' := [(q0, (r0, cO 2 [.ref t0, .int (nI sz), .int 0, .int (-1)])), (qt0, (t0, cO 6 [.ref t1, .int (nI ts)])), (qt1, (t1, cB Y 4000 (bF tp))), (qc, (c0, cO 1 [.ref c1, .ref c2, .ref c3, .ref c4_, .ref c5, .int (nI n), .int (nI g), .int (nI tb), .int (nI o)])), (qs, (c1, cI Y 40 sgA)), (ql, (c2, cI Y 40 lfA)), (qri, (c3, cI Y 40 rtA)), (qn, (c4_, cI Y 40 tnA)), (qo, (c5, cI Y 8 ouA))]) rfl ?_
  refine x_run C 9 4 (pc' := 20) (lv' := [(0, .ref r0), (1, .ref c0), (2, .int (nI sz))]) (st' := [.int 16, .int 1, .ref r0, .ref c0]) rfl ?_
  refine x_cv C 13 (As := [.int 1, .int 16]) (rest := [.ref c0]) rfl vX2_25 N 0 rfl rfl (c_X2_readNumber Y _ r0 t0 sz 0 t1 ts tp (-1) 1 16 q0 qt0 qt1 (ovl_at 0 N rfl) (ovl_at 1 N rfl) (ovl_at 2 N rfl) (N.ov [0, 1, 2] (by decide) rfl) (by omega) (by omega) ht) rfl rfl (Nat.le_of_ble_eq_true rfl) ⟨Nat.le_of_ble_eq_true rfl, Nat.le_of_ble_eq_true rfl⟩ ⟨Nat.zero_le _, Nat.zero_le _⟩ [0, 1, 2] ⟨rfl, rfl, rfl, trivial⟩ (os' := [(q0, (r0, cO 2 [.ref t0, .int (nI sz), .int (nI (rnG tp sz 1 16 0 (-1)).2.1), .int ((rnG tp sz 1 16 0 (-1)).2.2)])), (qt0, (t0, cO 6 [.ref t1, .int (nI ts)])), (qt1, (t1, cB Y 4000 (bF tp))), (qc, (c0, cO 1 [.ref c1, .ref c2, .ref c3, .ref c4_, .ref c5, .int (nI n), .int (nI g), .int (nI tb), .int (nI o)])), (qs, (c1, cI Y 40 sgA)), (ql, (c2, cI Y 40 lfA)), (qri, (c3, cI Y 40 rtA)), (qn, (c4_, cI Y 40 tnA)), (qo, (c5, cI Y 8 ouA))]) rfl (st' := [.int ((rnG tp sz 1 16 0 (-1)).1), .ref c0]) rfl ?_
  refine x_st (st' := [.int (nI (pcN tp sz)), .ref c0]) (by rw [hrn.1]) ?_
  refine x_cv C 14 (As := [.int (nI (pcN tp sz))]) (rest := []) rfl vX2_29 N 3 rfl rfl (c_X1_startWith Y _ c0 c1 c2 c3 c4_ c5 n g tb o (pcN tp sz) qc (ovl_at 3 N rfl) (N.ov [3] (by decide) rfl) ) rfl rfl (Nat.le_of_ble_eq_true rfl) ⟨Nat.le_of_ble_eq_true rfl, Nat.le_of_ble_eq_true rfl⟩ ⟨Nat.zero_le _, Nat.zero_le _⟩ [3] ⟨rfl, trivial⟩ (os' := [(q0, (r0, cO 2 [.ref t0, .int (nI sz), .int (nI (rnG tp sz 1 16 0 (-1)).2.1), .int ((rnG tp sz 1 16 0 (-1)).2.2)])), (qt0, (t0, cO 6 [.ref t1, .int (nI ts)])), (qt1, (t1, cB Y 4000 (bF tp))), (qc, (c0, cO 1 [.ref c1, .ref c2, .ref c3, .ref c4_, .ref c5, .int (nI (pcN tp sz)), .int 0, .int 0, .int 0])), (qs, (c1, cI Y 40 sgA)), (ql, (c2, cI Y 40 lfA)), (qri, (c3, cI Y 40 rtA)), (qn, (c4_, cI Y 40 tnA)), (qo, (c5, cI Y 8 ouA))]) rfl (st' := []) rfl ?_
  refine x_run C 15 2 (pc' := 29) (lv' := [(0, .ref r0), (1, .ref c0), (2, .int (nI sz))]) (st' := [.int 59, .ref r0]) rfl ?_
  refine x_cv C 17 (As := [.int 59]) (rest := []) rfl vX2_35 N 0 rfl rfl (c_X2_readMark Y _ r0 t0 sz (rnG tp sz 1 16 0 (-1)).2.1 t1 ts tp (rnG tp sz 1 16 0 (-1)).2.2 59 q0 qt0 qt1 (ovl_at 0 N rfl) (ovl_at 1 N rfl) (ovl_at 2 N rfl) (N.ov [0, 1, 2] (by decide) rfl) (by omega) (by omega) ht) rfl rfl (Nat.le_of_ble_eq_true rfl) ⟨Nat.le_of_ble_eq_true rfl, Nat.le_of_ble_eq_true rfl⟩ ⟨Nat.zero_le _, Nat.zero_le _⟩ [0, 1, 2] ⟨rfl, rfl, rfl, trivial⟩ (os' := [(q0, (r0, cO 2 [.ref t0, .int (nI sz), .int (nI (rmG tp sz 59 (rnG tp sz 1 16 0 (-1)).2.1 (rnG tp sz 1 16 0 (-1)).2.2).1), .int ((rmG tp sz 59 (rnG tp sz 1 16 0 (-1)).2.1 (rnG tp sz 1 16 0 (-1)).2.2).2)])), (qt0, (t0, cO 6 [.ref t1, .int (nI ts)])), (qt1, (t1, cB Y 4000 (bF tp))), (qc, (c0, cO 1 [.ref c1, .ref c2, .ref c3, .ref c4_, .ref c5, .int (nI (pcN tp sz)), .int 0, .int 0, .int 0])), (qs, (c1, cI Y 40 sgA)), (ql, (c2, cI Y 40 lfA)), (qri, (c3, cI Y 40 rtA)), (qn, (c4_, cI Y 40 tnA)), (qo, (c5, cI Y 8 ouA))]) rfl (st' := []) rfl ?_
  refine x_ov (os' := [(q0, (r0, cO 2 [.ref t0, .int (nI sz), .int (nI (pcM tp sz).1), .int ((pcM tp sz).2)])), (qt0, (t0, cO 6 [.ref t1, .int (nI ts)])), (qt1, (t1, cB Y 4000 (bF tp))), (qc, (c0, cO 1 [.ref c1, .ref c2, .ref c3, .ref c4_, .ref c5, .int (nI (pcN tp sz)), .int 0, .int 0, .int 0])), (qs, (c1, cI Y 40 sgA)), (ql, (c2, cI Y 40 lfA)), (qri, (c3, cI Y 40 rtA)), (qn, (c4_, cI Y 40 tnA)), (qo, (c5, cI Y 8 ouA))]) (by simp only [pcM]) ?_
  refine x_run C 18 2 (pc' := 34) (lv' := [(0, .ref r0), (1, .ref c0), (2, .int (nI sz))]) (st' := [.ref c0, .ref r0]) rfl ?_
  refine x_cv C 20 (As := [.ref c0]) (rest := []) rfl vX2_38 N 0 rfl rfl (c_X2_readGates Y _ r0 t0 sz (pcM tp sz).1 t1 ts tp (pcM tp sz).2 c0 c1 c2 c3 c4_ c5 (pcN tp sz) 0 0 0 sgA lfA rtA tnA q0 qt0 qt1 qc qs ql qri qn (ovl_at 0 N rfl) (ovl_at 1 N rfl) (ovl_at 2 N rfl) (ovl_at 3 N rfl) (ovl_at 4 N rfl) (ovl_at 5 N rfl) (ovl_at 6 N rfl) (ovl_at 7 N rfl) (N.ov [0, 1, 2, 3, 4, 5, 6, 7] (by decide) rfl) (by omega) (by omega) ht hn6 (by omega) (by omega)) rfl rfl (Nat.le_of_ble_eq_true rfl) ⟨Nat.le_of_ble_eq_true rfl, Nat.le_of_ble_eq_true rfl⟩ ⟨Nat.zero_le _, Nat.zero_le _⟩ [0, 1, 2, 3, 4, 5, 6, 7] ⟨rfl, rfl, rfl, rfl, rfl, rfl, rfl, rfl, trivial⟩ (os' := [(q0, (r0, cO 2 [.ref t0, .int (nI sz), .int (nI (rgN tp sz (pcN tp sz) 41 0 ((pcM tp sz).1, (pcM tp sz).2, 0, 0, sgA, lfA, rtA, tnA)).1), .int ((rgN tp sz (pcN tp sz) 41 0 ((pcM tp sz).1, (pcM tp sz).2, 0, 0, sgA, lfA, rtA, tnA)).2.1)])), (qt0, (t0, cO 6 [.ref t1, .int (nI ts)])), (qt1, (t1, cB Y 4000 (bF tp))), (qc, (c0, cO 1 [.ref c1, .ref c2, .ref c3, .ref c4_, .ref c5, .int (nI (pcN tp sz)), .int (nI (rgN tp sz (pcN tp sz) 41 0 ((pcM tp sz).1, (pcM tp sz).2, 0, 0, sgA, lfA, rtA, tnA)).2.2.1), .int (nI (rgN tp sz (pcN tp sz) 41 0 ((pcM tp sz).1, (pcM tp sz).2, 0, 0, sgA, lfA, rtA, tnA)).2.2.2.1), .int (nI 0)])), (qs, (c1, cI Y 40 (rgN tp sz (pcN tp sz) 41 0 ((pcM tp sz).1, (pcM tp sz).2, 0, 0, sgA, lfA, rtA, tnA)).2.2.2.2.1)), (ql, (c2, cI Y 40 (rgN tp sz (pcN tp sz) 41 0 ((pcM tp sz).1, (pcM tp sz).2, 0, 0, sgA, lfA, rtA, tnA)).2.2.2.2.2.1)), (qri, (c3, cI Y 40 (rgN tp sz (pcN tp sz) 41 0 ((pcM tp sz).1, (pcM tp sz).2, 0, 0, sgA, lfA, rtA, tnA)).2.2.2.2.2.2.1)), (qn, (c4_, cI Y 40 (rgN tp sz (pcN tp sz) 41 0 ((pcM tp sz).1, (pcM tp sz).2, 0, 0, sgA, lfA, rtA, tnA)).2.2.2.2.2.2.2)), (qo, (c5, cI Y 8 ouA))]) rfl (st' := []) rfl ?_
  refine x_ov (os' := [(q0, (r0, cO 2 [.ref t0, .int (nI sz), .int (nI (pcQ tp sz sgA lfA rtA tnA).1), .int ((pcQ tp sz sgA lfA rtA tnA).2.1)])), (qt0, (t0, cO 6 [.ref t1, .int (nI ts)])), (qt1, (t1, cB Y 4000 (bF tp))), (qc, (c0, cO 1 [.ref c1, .ref c2, .ref c3, .ref c4_, .ref c5, .int (nI (pcN tp sz)), .int (nI (pcQ tp sz sgA lfA rtA tnA).2.2.1), .int (nI (pcQ tp sz sgA lfA rtA tnA).2.2.2.1), .int (nI 0)])), (qs, (c1, cI Y 40 (pcQ tp sz sgA lfA rtA tnA).2.2.2.2.1)), (ql, (c2, cI Y 40 (pcQ tp sz sgA lfA rtA tnA).2.2.2.2.2.1)), (qri, (c3, cI Y 40 (pcQ tp sz sgA lfA rtA tnA).2.2.2.2.2.2.1)), (qn, (c4_, cI Y 40 (pcQ tp sz sgA lfA rtA tnA).2.2.2.2.2.2.2)), (qo, (c5, cI Y 8 ouA))]) (by simp only [pcQ]) ?_
  refine x_run C 21 2 (pc' := 39) (lv' := [(0, .ref r0), (1, .ref c0), (2, .int (nI sz))]) (st' := [.ref c0, .ref r0]) rfl ?_
  refine x_cv C 23 (As := [.ref c0]) (rest := []) rfl vX2_42 N 0 rfl rfl (c_X2_readOutputs Y _ r0 t0 sz (pcQ tp sz sgA lfA rtA tnA).1 t1 ts tp (pcQ tp sz sgA lfA rtA tnA).2.1 c0 c1 c2 c3 c4_ c5 (pcN tp sz) (pcQ tp sz sgA lfA rtA tnA).2.2.1 (pcQ tp sz sgA lfA rtA tnA).2.2.2.1 0 ouA q0 qt0 qt1 qc qo (ovl_at 0 N rfl) (ovl_at 1 N rfl) (ovl_at 2 N rfl) (ovl_at 3 N rfl) (ovl_at 8 N rfl) (N.ov [0, 1, 2, 3, 8] (by decide) rfl) (by omega) (by omega) ht hn7 (by omega) (by omega) (by omega)) rfl rfl (Nat.le_of_ble_eq_true rfl) ⟨Nat.le_of_ble_eq_true rfl, Nat.le_of_ble_eq_true rfl⟩ ⟨Nat.zero_le _, Nat.zero_le _⟩ [0, 1, 2, 3, 8] ⟨rfl, rfl, rfl, rfl, rfl, trivial⟩ (os' := [(q0, (r0, cO 2 [.ref t0, .int (nI sz), .int (nI (roN tp sz ((pcN tp sz) + (pcQ tp sz sgA lfA rtA tnA).2.2.1) 9 0 ((pcQ tp sz sgA lfA rtA tnA).1, (pcQ tp sz sgA lfA rtA tnA).2.1, 0, ouA)).1), .int ((roN tp sz ((pcN tp sz) + (pcQ tp sz sgA lfA rtA tnA).2.2.1) 9 0 ((pcQ tp sz sgA lfA rtA tnA).1, (pcQ tp sz sgA lfA rtA tnA).2.1, 0, ouA)).2.1)])), (qt0, (t0, cO 6 [.ref t1, .int (nI ts)])), (qt1, (t1, cB Y 4000 (bF tp))), (qc, (c0, cO 1 [.ref c1, .ref c2, .ref c3, .ref c4_, .ref c5, .int (nI (pcN tp sz)), .int (nI (pcQ tp sz sgA lfA rtA tnA).2.2.1), .int (nI (pcQ tp sz sgA lfA rtA tnA).2.2.2.1), .int (nI (roN tp sz ((pcN tp sz) + (pcQ tp sz sgA lfA rtA tnA).2.2.1) 9 0 ((pcQ tp sz sgA lfA rtA tnA).1, (pcQ tp sz sgA lfA rtA tnA).2.1, 0, ouA)).2.2.1)])), (qs, (c1, cI Y 40 (pcQ tp sz sgA lfA rtA tnA).2.2.2.2.1)), (ql, (c2, cI Y 40 (pcQ tp sz sgA lfA rtA tnA).2.2.2.2.2.1)), (qri, (c3, cI Y 40 (pcQ tp sz sgA lfA rtA tnA).2.2.2.2.2.2.1)), (qn, (c4_, cI Y 40 (pcQ tp sz sgA lfA rtA tnA).2.2.2.2.2.2.2)), (qo, (c5, cI Y 8 (roN tp sz ((pcN tp sz) + (pcQ tp sz sgA lfA rtA tnA).2.2.1) 9 0 ((pcQ tp sz sgA lfA rtA tnA).1, (pcQ tp sz sgA lfA rtA tnA).2.1, 0, ouA)).2.2.2))]) rfl (st' := []) rfl ?_
  refine x_ov (os' := [(q0, (r0, cO 2 [.ref t0, .int (nI sz), .int (nI (pcO tp sz sgA lfA rtA tnA ouA).1), .int ((pcO tp sz sgA lfA rtA tnA ouA).2.1)])), (qt0, (t0, cO 6 [.ref t1, .int (nI ts)])), (qt1, (t1, cB Y 4000 (bF tp))), (qc, (c0, cO 1 [.ref c1, .ref c2, .ref c3, .ref c4_, .ref c5, .int (nI (pcN tp sz)), .int (nI (pcQ tp sz sgA lfA rtA tnA).2.2.1), .int (nI (pcQ tp sz sgA lfA rtA tnA).2.2.2.1), .int (nI (pcO tp sz sgA lfA rtA tnA ouA).2.2.1)])), (qs, (c1, cI Y 40 (pcQ tp sz sgA lfA rtA tnA).2.2.2.2.1)), (ql, (c2, cI Y 40 (pcQ tp sz sgA lfA rtA tnA).2.2.2.2.2.1)), (qri, (c3, cI Y 40 (pcQ tp sz sgA lfA rtA tnA).2.2.2.2.2.2.1)), (qn, (c4_, cI Y 40 (pcQ tp sz sgA lfA rtA tnA).2.2.2.2.2.2.2)), (qo, (c5, cI Y 8 (pcO tp sz sgA lfA rtA tnA ouA).2.2.2))]) (by simp only [pcO]) ?_
  by_cases hfp : (pcO tp sz sgA lfA rtA tnA ouA).2.1 = -1
  · refine x_ov (os' := [(q0, (r0, cO 2 [.ref t0, .int (nI sz), .int (nI (pcO tp sz sgA lfA rtA tnA ouA).1), .int (-1)])), (qt0, (t0, cO 6 [.ref t1, .int (nI ts)])), (qt1, (t1, cB Y 4000 (bF tp))), (qc, (c0, cO 1 [.ref c1, .ref c2, .ref c3, .ref c4_, .ref c5, .int (nI (pcN tp sz)), .int (nI (pcQ tp sz sgA lfA rtA tnA).2.2.1), .int (nI (pcQ tp sz sgA lfA rtA tnA).2.2.2.1), .int (nI (pcO tp sz sgA lfA rtA tnA ouA).2.2.1)])), (qs, (c1, cI Y 40 (pcQ tp sz sgA lfA rtA tnA).2.2.2.2.1)), (ql, (c2, cI Y 40 (pcQ tp sz sgA lfA rtA tnA).2.2.2.2.2.1)), (qri, (c3, cI Y 40 (pcQ tp sz sgA lfA rtA tnA).2.2.2.2.2.2.1)), (qn, (c4_, cI Y 40 (pcQ tp sz sgA lfA rtA tnA).2.2.2.2.2.2.2)), (qo, (c5, cI Y 8 (pcO tp sz sgA lfA rtA tnA ouA).2.2.2))]) (by rw [hfp]) ?_
    refine x_run C 24 1 (pc' := 43) (lv' := [(0, .ref r0), (1, .ref c0), (2, .int (nI sz))]) (st' := [.ref r0]) rfl ?_
    refine x_cv C 25 (As := []) (rest := []) rfl vX2_45 N 0 rfl rfl (c_X2_isFine Y _ r0 t0 sz (pcO tp sz sgA lfA rtA tnA ouA).1 q0 (ovl_at 0 N rfl) (N.ov [0] (by decide) rfl) ) rfl rfl (Nat.le_of_ble_eq_true rfl) ⟨Nat.le_of_ble_eq_true rfl, Nat.le_of_ble_eq_true rfl⟩ ⟨Nat.zero_le _, Nat.zero_le _⟩ [0] ⟨rfl, trivial⟩ (os' := [(q0, (r0, cO 2 [.ref t0, .int (nI sz), .int (nI (pcO tp sz sgA lfA rtA tnA ouA).1), .int (-1)])), (qt0, (t0, cO 6 [.ref t1, .int (nI ts)])), (qt1, (t1, cB Y 4000 (bF tp))), (qc, (c0, cO 1 [.ref c1, .ref c2, .ref c3, .ref c4_, .ref c5, .int (nI (pcN tp sz)), .int (nI (pcQ tp sz sgA lfA rtA tnA).2.2.1), .int (nI (pcQ tp sz sgA lfA rtA tnA).2.2.2.1), .int (nI (pcO tp sz sgA lfA rtA tnA ouA).2.2.1)])), (qs, (c1, cI Y 40 (pcQ tp sz sgA lfA rtA tnA).2.2.2.2.1)), (ql, (c2, cI Y 40 (pcQ tp sz sgA lfA rtA tnA).2.2.2.2.2.1)), (qri, (c3, cI Y 40 (pcQ tp sz sgA lfA rtA tnA).2.2.2.2.2.2.1)), (qn, (c4_, cI Y 40 (pcQ tp sz sgA lfA rtA tnA).2.2.2.2.2.2.2)), (qo, (c5, cI Y 8 (pcO tp sz sgA lfA rtA tnA ouA).2.2.2))]) rfl (st' := [.int 1]) rfl ?_
    refine x_st (st' := [.int (nI 1)]) (by simp only [nlit, nI_add, pk_mul]) ?_
    refine x_ifN_eq C 26 (by omega) rfl (tgt := 53) rfl (fun hc1 => absurd hc1 (by omega)) (fun hc1 => ?_)
    refine x_run C 27 2 (pc' := 61) (lv' := [(0, .ref r0), (1, .ref c0), (2, .int (nI sz))]) (st' := [.int 0]) rfl ?_
    exact x_iret C B rfl 33 rfl (Nat.zero_le _) (Nat.zero_le _) ⟨by rw [if_pos hfp], by rw [hfp]⟩
  · refine x_run C 24 1 (pc' := 43) (lv' := [(0, .ref r0), (1, .ref c0), (2, .int (nI sz))]) (st' := [.ref r0]) rfl ?_
    refine x_cv C 25 (As := []) (rest := []) rfl vX2_45 N 0 rfl rfl (c_X2_isFineF Y _ r0 t0 sz (pcO tp sz sgA lfA rtA tnA ouA).1 (pcO tp sz sgA lfA rtA tnA ouA).2.1 q0 (ovl_at 0 N rfl) (N.ov [0] (by decide) rfl) hfp) rfl rfl (Nat.le_of_ble_eq_true rfl) ⟨Nat.le_of_ble_eq_true rfl, Nat.le_of_ble_eq_true rfl⟩ ⟨Nat.zero_le _, Nat.zero_le _⟩ [0] ⟨rfl, trivial⟩ (os' := [(q0, (r0, cO 2 [.ref t0, .int (nI sz), .int (nI (pcO tp sz sgA lfA rtA tnA ouA).1), .int ((pcO tp sz sgA lfA rtA tnA ouA).2.1)])), (qt0, (t0, cO 6 [.ref t1, .int (nI ts)])), (qt1, (t1, cB Y 4000 (bF tp))), (qc, (c0, cO 1 [.ref c1, .ref c2, .ref c3, .ref c4_, .ref c5, .int (nI (pcN tp sz)), .int (nI (pcQ tp sz sgA lfA rtA tnA).2.2.1), .int (nI (pcQ tp sz sgA lfA rtA tnA).2.2.2.1), .int (nI (pcO tp sz sgA lfA rtA tnA ouA).2.2.1)])), (qs, (c1, cI Y 40 (pcQ tp sz sgA lfA rtA tnA).2.2.2.2.1)), (ql, (c2, cI Y 40 (pcQ tp sz sgA lfA rtA tnA).2.2.2.2.2.1)), (qri, (c3, cI Y 40 (pcQ tp sz sgA lfA rtA tnA).2.2.2.2.2.2.1)), (qn, (c4_, cI Y 40 (pcQ tp sz sgA lfA rtA tnA).2.2.2.2.2.2.2)), (qo, (c5, cI Y 8 (pcO tp sz sgA lfA rtA tnA ouA).2.2.2))]) rfl (st' := [.int 0]) rfl ?_
    refine x_st (st' := [.int (nI 0)]) (by simp only [nlit, nI_add, pk_mul]) ?_
    refine x_ifN_eq C 26 (by omega) rfl (tgt := 53) rfl (fun hc2 => ?_) (fun hc2 => absurd hc2 (by omega))
    refine x_run C 29 2 (pc' := 57) (lv' := [(0, .ref r0), (1, .ref c0), (2, .int (nI sz))]) (st' := [.ref r0, .int (-1000)]) rfl ?_
    refine x_get C 31 rfl fX2_22 N 0 rfl (v := .int ((pcO tp sz sgA lfA rtA tnA ouA).2.1)) rfl ?_
    refine x_run C 32 1 (pc' := 61) (lv' := [(0, .ref r0), (1, .ref c0), (2, .int (nI sz))]) (st' := [.int ((-1000) - ((pcO tp sz sgA lfA rtA tnA ouA).2.1))]) rfl ?_
    exact x_iret C B rfl 33 rfl (Nat.zero_le _) (Nat.zero_le _) ⟨by rw [if_neg hfp], rfl⟩
