theorem xnw_b {args : Array Value} {s : State} : ∀ {x : Cond}, xisn x = true → x.before args s = true → x.before #[] s = true := by
  intro x h k
  cases x <;> first | exact k | exact absurd h (by decide) | (simp [xisn] at h)
theorem bF_0 : (fun _ => (0 : Int32)) = bF (fun _ => 0) := by
  funext j
  show (0 : Int32) = sb_b 0
  decide
theorem sl_of {n : Nat} : n.toInt32 = Int32.ofNat n := rfl
set_option maxHeartbeats 8000000 in
set_option maxRecDepth 100000 in
theorem law_init {G : xG} {Y : xD} {nm : String} (C : xC G Y (mL nm) tL_head room_1) {b : Nat} (J : ∀ x m, JJ G Y b x m 0 18) : X G Y 0 0 0 [(0, .ref b)] [] [] := by
  refine x_new C 0 rfl wL_7 (Nat.le_of_ble_eq_true rfl) (Nat.le_of_ble_eq_true rfl) (fun x => ?_)
  refine x_run C 1 1 (pc' := 4) (lv' := [(0, .ref b)]) (st' := [.ref x, .ref x]) rfl ?_
  refine x_callI C 2 (As := []) (rest := [.ref x]) rfl vL_9 (c_X7_init Y _ x 0 rfl (xN_cons Nat.zero_lt_one trivial (xN_nil _))) rfl rfl (Nat.le_of_ble_eq_true rfl) ⟨(Nat.le_of_ble_eq_true rfl), (Nat.le_of_ble_eq_true rfl)⟩ ⟨(Nat.le_of_ble_eq_true rfl), (Nat.le_of_ble_eq_true rfl)⟩ (fun v w2 hp => ?_)
  obtain ⟨hv_, a_1, a_2, a_3, a_4, a_5, a_6, a_7, a_8, a_9, a_10, a_11, a_12, a_13, a_14, a_15, a_16, a_17, a_18, a_19, a_20, a_21, a_22, a_23, a_24, a_25, a_26, a_27, a_28, a_29, a_30, a_31, a_32, a_33, a_34, a_35, a_36, a_37, a_38, a_39, a_40, a_41, a_42, a_43, a_44, a_45, a_46, a_47, a_48, a_49, a_50, l2, F2, c_0, u_0, u_1, u_2, u_3, u_4, u_5, u_6, u_7, u_8, u_9, u_10, u_11, u_12, u_13, u_14, u_15, u_16, u_17, u_18, u_19, u_20, u_21, u_22, u_23, u_24, u_25, u_26, u_27, u_28, u_29, u_30, u_31, u_32, u_33, u_34, u_35, u_36, u_37, u_38, u_39, u_40, u_41, u_42, u_43, u_44, u_45, u_46, u_47, u_48, u_49⟩ := hp
  subst hv_
  have l2 : w2.length = 51 := l2
  have q_0 : w2[0]? = _ := c_0
  have q_1 : w2[1]? = _ := u_0
  have q_2 : w2[2]? = _ := u_1
  have q_3 : w2[3]? = _ := u_2
  have q_4 : w2[4]? = _ := u_3
  have q_5 : w2[5]? = _ := u_4
  have q_6 : w2[6]? = _ := u_5
  have q_7 : w2[7]? = _ := u_6
  have q_8 : w2[8]? = _ := u_7
  have q_9 : w2[9]? = _ := u_8
  have q_10 : w2[10]? = _ := u_9
  have q_11 : w2[11]? = _ := u_10
  have q_12 : w2[12]? = _ := u_11
  have q_13 : w2[13]? = _ := u_12
  have q_14 : w2[14]? = _ := u_13
  have q_15 : w2[15]? = _ := u_14
  have q_16 : w2[16]? = _ := u_15
  have q_17 : w2[17]? = _ := u_16
  have q_18 : w2[18]? = _ := u_17
  have q_19 : w2[19]? = _ := u_18
  have q_20 : w2[20]? = _ := u_19
  have q_21 : w2[21]? = _ := u_20
  have q_22 : w2[22]? = _ := u_21
  have q_23 : w2[23]? = _ := u_22
  have q_24 : w2[24]? = _ := u_23
  have q_25 : w2[25]? = _ := u_24
  have q_26 : w2[26]? = _ := u_25
  have q_27 : w2[27]? = _ := u_26
  have q_28 : w2[28]? = _ := u_27
  have q_29 : w2[29]? = _ := u_28
  have q_30 : w2[30]? = _ := u_29
  have q_31 : w2[31]? = _ := u_30
  have q_32 : w2[32]? = _ := u_31
  have q_33 : w2[33]? = _ := u_32
  have q_34 : w2[34]? = _ := u_33
  have q_35 : w2[35]? = _ := u_34
  have q_36 : w2[36]? = _ := u_35
  have q_37 : w2[37]? = _ := u_36
  have q_38 : w2[38]? = _ := u_37
  have q_39 : w2[39]? = _ := u_38
  have q_40 : w2[40]? = _ := u_39
  have q_41 : w2[41]? = _ := u_40
  have q_42 : w2[42]? = _ := u_41
  have q_43 : w2[43]? = _ := u_42
  have q_44 : w2[44]? = _ := u_43
  have q_45 : w2[45]? = _ := u_44
  have q_46 : w2[46]? = _ := u_45
  have q_47 : w2[47]? = _ := u_46
  have q_48 : w2[48]? = _ := u_47
  have q_49 : w2[49]? = _ := u_48
  have q_50 : w2[50]? = _ := u_49
  refine x_st (st' := [.ref x]) rfl ?_
  refine x_run C 3 1 (pc' := 8) (lv' := [(1, .ref x), (0, .ref b)]) (st' := []) rfl ?_
  refine x_new C 4 rfl wL_10 (Nat.le_of_ble_eq_true rfl) (Nat.le_of_ble_eq_true rfl) (fun m => ?_)
  refine x_grow (ws := w2) (os := []) (fun w3 l3 F3 e3 => ?_)
  rw [l2] at l3 F3 e3
  refine x_run C 5 1 (pc' := 12) (lv' := [(1, .ref x), (0, .ref b)]) (st' := [.ref m, .ref m]) rfl ?_
  refine x_callI C 6 (As := []) (rest := [.ref m]) rfl vL_12 (c_X8_init Y _ m 51 e3 (xN_cons (by omega) trivial (xN_nil _))) rfl rfl (Nat.le_of_ble_eq_true rfl) ⟨(Nat.le_of_ble_eq_true rfl), (Nat.le_of_ble_eq_true rfl)⟩ ⟨(Nat.le_of_ble_eq_true rfl), (Nat.le_of_ble_eq_true rfl)⟩ (fun v w4 hp => ?_)
  obtain ⟨hv_, A, r', b', hr_, l4, F4, p_51, m_0, m_1, m_2, m_3, m_4, m_5, m_6, m_7, m_8, m_9, m_10, m_11, m_12, m_13, m_14, m_15, m_16, m_17, m_18, m_19, m_20, m_21, m_22, m_23, m_24, m_25, m_26, m_27, m_28, m_29, m_30, m_31, m_32⟩ := hp
  subst hv_
  rw [l3] at l4 F4 m_0 m_1 m_2 m_3 m_4 m_5 m_6 m_7 m_8 m_9 m_10 m_11 m_12 m_13 m_14 m_15 m_16 m_17 m_18 m_19 m_20 m_21 m_22 m_23 m_24 m_25 m_26 m_27 m_28 m_29 m_30 m_31 m_32
  have p_52 : w4[52]? = _ := m_0
  have p_53 : w4[53]? = _ := m_1
  have p_54 : w4[54]? = _ := m_2
  have p_55 : w4[55]? = _ := m_3
  have p_56 : w4[56]? = _ := m_4
  have p_57 : w4[57]? = _ := m_5
  have p_58 : w4[58]? = _ := m_6
  have p_59 : w4[59]? = _ := m_7
  have p_60 : w4[60]? = _ := m_8
  have p_61 : w4[61]? = _ := m_9
  have p_62 : w4[62]? = _ := m_10
  have p_63 : w4[63]? = _ := m_11
  have p_64 : w4[64]? = _ := m_12
  have p_65 : w4[65]? = _ := m_13
  have p_66 : w4[66]? = _ := m_14
  have p_67 : w4[67]? = _ := m_15
  have p_68 : w4[68]? = _ := m_16
  have p_69 : w4[69]? = _ := m_17
  have p_70 : w4[70]? = _ := m_18
  have p_71 : w4[71]? = _ := m_19
  have p_72 : w4[72]? = _ := m_20
  have p_73 : w4[73]? = _ := m_21
  have p_74 : w4[74]? = _ := m_22
  have p_75 : w4[75]? = _ := m_23
  have p_76 : w4[76]? = _ := m_24
  have p_77 : w4[77]? = _ := m_25
  have p_78 : w4[78]? = _ := m_26
  have p_79 : w4[79]? = _ := m_27
  have p_80 : w4[80]? = _ := m_28
  have p_81 : w4[81]? = _ := m_29
  have p_82 : w4[82]? = _ := m_30
  have p_83 : w4[83]? = _ := m_31
  have p_84 : w4[84]? = _ := m_32
  have Q4 : ∀ (p : Nat) {c : Nat × va_E}, p < 51 → p ≠ 51 → w2[p]? = some c → w4[p]? = some c := fun p c h1 h2 h3 => (F4 p (by omega) h2).trans ((F3 p h1).trans h3)
  refine x_st (st' := [.ref m]) rfl ?_
  refine x_run C 7 3 (pc' := 18) (lv' := [(3, .int 0), (2, .ref m), (1, .ref x), (0, .ref b)]) (st' := []) rfl ?_
  refine x_sub (lv' := [(0, .ref b), (1, .ref x), (2, .ref m), (3, .int 0)]) [3, 2, 1, 0] rfl ?_
  exact J x m 0 w4 a_1 a_2 a_3 a_4 a_5 a_6 a_7 a_8 a_9 a_10 a_11 a_12 a_13 a_14 (fun c_ k_ => [a_15, a_16, a_17, a_18, a_19, a_20, a_21, a_22, a_23, a_24, a_25, a_26, a_27, a_28, a_29, a_30, a_31, a_32, a_33, a_34, a_35, a_36, a_37, a_38, a_39, a_40, a_41, a_42, a_43, a_44, a_45, a_46, a_47, a_48, a_49, a_50].getD (6 * c_ + k_) 0) (fun _ _ => 0) A 0 (nI 0) 0 (fun _ => 0) 0 0 0 0 0 (nI 0) (ek (fun _ => 0) 40).1 (fun _ => 0) (fun _ => 0) (fun _ => 0) (va_up (va_up (va_up (va_up (va_up (va_up (fun _ => none) 0 (some a_15)) (0 + 1) (some a_21)) ((0 + 1) + 1) (some a_27)) (((0 + 1) + 1) + 1) (some a_33)) ((((0 + 1) + 1) + 1) + 1) (some a_39)) (((((0 + 1) + 1) + 1) + 1) + 1) (some a_45)) (fun _ => none) (fun _ => 0) (fun _ => 0) (fun _ => 0) (fun _ => 0) (fun _ _ => 0) (fun _ _ => 0) (fun _ _ => 0) (fun _ _ => 0) (fun _ _ => 0) (fun _ => 0) (fun _ => 0) (fun _ => 0) (fun _ => 0) (fun _ => 0) (fun _ => 0) (fun _ => 0) (fun _ _ => 0) (fun _ _ => 0) (fun _ _ => 0) (nI 0) (nI 0) (nI 0) (nI 0) (fun _ => 0) (fun _ => 0) r' b' (fun _ => 0) (iF (fun _ => 0)) (iF (fun _ => 0)) (iF (fun _ => 0)) (iF (fun _ => 0)) (iF (fun _ => 0)) (iF (fun _ => 0)) (iF (fun _ => 0)) (iF (fun _ => 0)) (iF (fun _ => 0)) (iF (fun _ => 0)) (iF (fun _ => 0)) (iF (fun _ => 0)) (iF (fun _ => 0)) (iF (fun _ => 0)) (fun _ => 0) (fun _ => 0) (fun _ => 0) (fun _ => 0) (fun _ => 0) (fun _ => 0) (fun _ => 0) (fun _ => 0) (fun _ => 0) (fun _ => 0) (fun _ => 0) (fun _ => 0) (fun _ => 0) l4 (Q4 0 (by omega) (by omega) q_0) (Q4 1 (by omega) (by omega) q_1) (by rw [← bF_0]; exact (Q4 2 (by omega) (by omega) q_2)) (Q4 3 (by omega) (by omega) q_3) (Q4 4 (by omega) (by omega) q_4) (Q4 5 (by omega) (by omega) q_5) (Q4 6 (by omega) (by omega) q_6) (Q4 7 (by omega) (by omega) q_7) (Q4 8 (by omega) (by omega) q_8) (Q4 9 (by omega) (by omega) q_9) (Q4 10 (by omega) (by omega) q_10) (Q4 11 (by omega) (by omega) q_11) (Q4 12 (by omega) (by omega) q_12) (Q4 13 (by omega) (by omega) q_13) (Q4 14 (by omega) (by omega) q_14) p_51 p_52 p_53 p_54 p_55 p_56 p_57 p_58 p_59 p_60 p_61 p_62 p_63 p_64 p_65 p_66 p_67 p_68 p_69 p_70 p_71 p_72 p_73 p_74 p_75 p_76 p_77 p_78 p_79 p_80 p_81 p_82 p_83 p_84
    (fun c_ hc_ => by
      have e_ : c_ = 0 ∨ c_ = 1 ∨ c_ = 2 ∨ c_ = 3 ∨ c_ = 4 ∨ c_ = 5 := by omega
      rcases e_ with rfl | rfl | rfl | rfl | rfl | rfl
      · exact ⟨(Q4 15 (by omega) (by omega) q_15), (Q4 16 (by omega) (by omega) q_16), (Q4 17 (by omega) (by omega) q_17), (Q4 18 (by omega) (by omega) q_18), (Q4 19 (by omega) (by omega) q_19), (Q4 20 (by omega) (by omega) q_20)⟩
      · exact ⟨(Q4 21 (by omega) (by omega) q_21), (Q4 22 (by omega) (by omega) q_22), (Q4 23 (by omega) (by omega) q_23), (Q4 24 (by omega) (by omega) q_24), (Q4 25 (by omega) (by omega) q_25), (Q4 26 (by omega) (by omega) q_26)⟩
      · exact ⟨(Q4 27 (by omega) (by omega) q_27), (Q4 28 (by omega) (by omega) q_28), (Q4 29 (by omega) (by omega) q_29), (Q4 30 (by omega) (by omega) q_30), (Q4 31 (by omega) (by omega) q_31), (Q4 32 (by omega) (by omega) q_32)⟩
      · exact ⟨(Q4 33 (by omega) (by omega) q_33), (Q4 34 (by omega) (by omega) q_34), (Q4 35 (by omega) (by omega) q_35), (Q4 36 (by omega) (by omega) q_36), (Q4 37 (by omega) (by omega) q_37), (Q4 38 (by omega) (by omega) q_38)⟩
      · exact ⟨(Q4 39 (by omega) (by omega) q_39), (Q4 40 (by omega) (by omega) q_40), (Q4 41 (by omega) (by omega) q_41), (Q4 42 (by omega) (by omega) q_42), (Q4 43 (by omega) (by omega) q_43), (Q4 44 (by omega) (by omega) q_44)⟩
      · exact ⟨(Q4 45 (by omega) (by omega) q_45), (Q4 46 (by omega) (by omega) q_46), (Q4 47 (by omega) (by omega) q_47), (Q4 48 (by omega) (by omega) q_48), (Q4 49 (by omega) (by omega) q_49), (Q4 50 (by omega) (by omega) q_50)⟩)
    (fun j_ hj_ => absurd hj_ (Nat.not_lt_zero _)) (by decide) (by decide) (by decide) (fun _ => (by decide : (0 : Nat) < 256)) (fun j_ hj_ => absurd hj_ (Nat.not_lt_zero _)) (fun b_ _ => (byW_0 b_).symm) hr_ (fun c_ hc_ => by
      have e_ : c_ = 0 ∨ c_ = 1 ∨ c_ = 2 ∨ c_ = 3 ∨ c_ = 4 ∨ c_ = 5 := by omega
      rcases e_ with rfl | rfl | rfl | rfl | rfl | rfl <;> rfl) (fun j_ hj_ => absurd hj_ (Nat.not_lt_zero _)) (fun _ => Or.inl rfl) (fun j_ hj_ => absurd hj_ (Nat.not_lt_zero _)) (fun j_ hj_ => absurd hj_ (Nat.not_lt_zero _)) (fun j_ hj_ => absurd hj_ (Nat.not_lt_zero _))
