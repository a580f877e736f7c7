def lkC (tp : Nat → Nat) (sz p : Nat) : Int32 := if p < sz then nI (tp p) else -1
def skF (tp : Nat → Nat) : Nat → Nat → Nat
  | 0, p => p
  | m + 1, p => if tp p = 32 then skF tp m (p + 1) else p
/-- behind blanks -/
def skB (tp : Nat → Nat) (sz p : Nat) : Nat := skF tp (sz - p) p
theorem skF_spec (tp : Nat → Nat) : ∀ m p, p ≤ skF tp m p ∧ skF tp m p ≤ p + m ∧ (∀ j, p ≤ j → j < skF tp m p → tp j = 32) ∧ (skF tp m p < p + m → ¬ tp (skF tp m p) = 32)
  | 0, p => ⟨Nat.le_refl _, Nat.le_refl _, fun j h1 h2 => absurd h2 (by unfold skF; omega), fun h => absurd h (by unfold skF; omega)⟩
  | m + 1, p => by
    unfold skF
    split
    · rename_i h
      obtain ⟨a, b, c, d⟩ := skF_spec tp m (p + 1)
      refine ⟨by omega, by omega, fun j h1 h2 => ?_, fun h2 => d (by omega)⟩
      by_cases hj : j = p
      · rw [hj]; exact h
      · exact c j (by omega) h2
    · rename_i h
      exact ⟨Nat.le_refl _, by omega, fun j h1 h2 => absurd h2 (by omega), fun _ => h⟩
theorem skB_spec (tp : Nat → Nat) (sz p : Nat) : p ≤ skB tp sz p ∧ skB tp sz p ≤ p + (sz - p) ∧ (∀ j, p ≤ j → j < skB tp sz p → tp j = 32) ∧ (skB tp sz p < p + (sz - p) → ¬ tp (skB tp sz p) = 32) := skF_spec tp (sz - p) p
theorem nI32 {x : Nat} (h : x < 256) : nI x = 32 ↔ x = 32 := nI_eq (by omega) (by decide)
theorem skB_in {tp : Nat → Nat} {sz p k : Nat} (h : k < skB tp sz p - p) : p + k < sz ∧ lkC tp sz (p + k) = 32 := by
  obtain ⟨a, b, c, d⟩ := skB_spec tp sz p
  have h1 : p + k < sz := by omega
  refine ⟨h1, ?_⟩
  rw [lkC, if_pos h1, c (p + k) (by omega) (by omega)]
  rfl
theorem skB_no {tp : Nat → Nat} {sz p : Nat} (ht : ∀ j, tp j < 256) (h : p + (skB tp sz p - p) < sz) : ¬ lkC tp sz (p + (skB tp sz p - p)) = 32 := by
  obtain ⟨a, b, c, d⟩ := skB_spec tp sz p
  rw [lkC, if_pos h, show p + (skB tp sz p - p) = skB tp sz p by omega]
  exact fun z => d (by omega) ((nI32 (ht _)).mp z)
theorem skB_add (tp : Nat → Nat) (sz p : Nat) : p + (skB tp sz p - p) = skB tp sz p := by have := (skB_spec tp sz p).1; omega
set_option maxHeartbeats 4000000 in
set_option maxRecDepth 100000 in
theorem c_X2_look (Y : xD) (w : va_W) (r0 : Nat) (t0 : Nat) (sz : Nat) (p : Nat) (t1 : Nat) (ts : Nat) (tp : Nat → Nat) (fp : Int32) (q0 qt0 qt1 : Nat) (e0 : w[q0]? = some (r0, cO 2 [.ref t0, .int (nI sz), .int (nI p), .int fp])) (e1 : w[qt0]? = some (t0, cO 6 [.ref t1, .int (nI ts)])) (e2 : w[qt1]? = some (t1, cB Y 4000 (bF tp))) (N : xN w.length [q0, qt0, qt1]) (hp : p ≤ 1000000) (hsz : sz ≤ 4000) (ht : ∀ j, tp j < 256) : Cf Y mX2_look 1 [.ref r0] w (some (.int (lkC tp sz p))) [(q0, (r0, cO 2 [.ref t0, .int (nI sz), .int (nI p), .int fp])), (qt0, (t0, cO 6 [.ref t1, .int (nI ts)])), (qt1, (t1, cB Y 4000 (bF tp)))] := by
  refine Ct.intro (T := tX2_look) (by decide) oX2_look (Nat.le_of_ble_eq_true rfl) (fun G C B => ?_)
  refine x_lay [(q0, (r0, cO 2 [.ref t0, .int (nI sz), .int (nI p), .int fp])), (qt0, (t0, cO 6 [.ref t1, .int (nI ts)])), (qt1, (t1, cB Y 4000 (bF tp)))] (lay_cons e0 (lay_cons e1 (lay_cons e2 lay_nil))) ?_
  refine x_run C 0 1 (pc' := 1) (lv' := [(0, .ref r0)]) (st' := [.ref r0]) rfl ?_
  refine x_get C 1 rfl fX2_19 N 0 rfl (v := .int (nI p)) rfl ?_
  refine x_run C 2 1 (pc' := 5) (lv' := [(0, .ref r0)]) (st' := [.ref r0, .int (nI p)]) rfl ?_
  refine x_get C 3 rfl fX2_15 N 0 rfl (v := .int (nI sz)) rfl ?_
  refine x_icmpN_ge C 4 (by omega) (by omega) rfl (tgt := 25) rfl (fun hc1 => ?_) (fun hc1 => ?_)
  · refine x_run C 11 1 (pc' := 26) (lv' := [(0, .ref r0)]) (st' := [.int (-1)]) rfl ?_
    exact x_iret C B rfl 12 rfl (Nat.zero_le _) (Nat.zero_le _) ⟨by first | rw [lkC, if_pos (by omega)] | rw [lkC, if_neg (by omega)], rfl⟩
  · refine x_run C 5 1 (pc' := 12) (lv' := [(0, .ref r0)]) (st' := [.ref r0]) rfl ?_
    refine x_get C 6 rfl fX2_9 N 0 rfl (v := .ref t0) rfl ?_
    refine x_run C 7 1 (pc' := 16) (lv' := [(0, .ref r0)]) (st' := [.ref r0, .ref t0]) rfl ?_
    refine x_get C 8 rfl fX2_19 N 0 rfl (v := .int (nI p)) rfl ?_
    refine x_cv C 9 (As := [.int (nI p)]) (rest := []) rfl vX2_80 N 1 rfl rfl (c_X6_byteAt Y _ t0 t1 ts tp p qt0 qt1 (ovl_at 1 N rfl) (ovl_at 2 N rfl) (N.ov [1, 2] (by decide) rfl) (by first | assumption | omega) (by first | assumption | omega)) rfl rfl (Nat.le_of_ble_eq_true rfl) ⟨Nat.le_of_ble_eq_true rfl, Nat.le_of_ble_eq_true rfl⟩ ⟨Nat.zero_le _, Nat.zero_le _⟩ [1, 2] ⟨rfl, rfl, trivial⟩ (os' := [(q0, (r0, cO 2 [.ref t0, .int (nI sz), .int (nI p), .int fp])), (qt0, (t0, cO 6 [.ref t1, .int (nI ts)])), (qt1, (t1, cB Y 4000 (bF tp)))]) rfl (st' := [.int (nI (tp p))]) rfl ?_
    refine x_run C 10 1 (pc' := 26) (lv' := [(0, .ref r0)]) (st' := [.int (nI (tp p))]) rfl ?_
    exact x_iret C B rfl 12 rfl (Nat.zero_le _) (Nat.zero_le _) ⟨by first | rw [lkC, if_pos (by omega)] | rw [lkC, if_neg (by omega)], rfl⟩
set_option maxHeartbeats 4000000 in
set_option maxRecDepth 100000 in
theorem c_X2_skipBlanks (Y : xD) (w : va_W) (r0 : Nat) (t0 : Nat) (sz : Nat) (p : Nat) (t1 : Nat) (ts : Nat) (tp : Nat → Nat) (fp : Int32) (q0 qt0 qt1 : Nat) (e0 : w[q0]? = some (r0, cO 2 [.ref t0, .int (nI sz), .int (nI p), .int fp])) (e1 : w[qt0]? = some (t0, cO 6 [.ref t1, .int (nI ts)])) (e2 : w[qt1]? = some (t1, cB Y 4000 (bF tp))) (N : xN w.length [q0, qt0, qt1]) (hp : p ≤ 1000000) (hsz : sz ≤ 4000) (ht : ∀ j, tp j < 256) : Cf Y mX2_skipBlanks 2 [.ref r0] w none [(q0, (r0, cO 2 [.ref t0, .int (nI sz), .int (nI (skB tp sz p)), .int fp])), (qt0, (t0, cO 6 [.ref t1, .int (nI ts)])), (qt1, (t1, cB Y 4000 (bF tp)))] := by
  refine Ct.intro (T := tX2_skipBlanks) (by decide) oX2_skipBlanks (Nat.le_of_ble_eq_true rfl) (fun G C B => ?_)
  refine x_lay [(q0, (r0, cO 2 [.ref t0, .int (nI sz), .int (nI p), .int fp])), (qt0, (t0, cO 6 [.ref t1, .int (nI ts)])), (qt1, (t1, cB Y 4000 (bF tp)))] (lay_cons e0 (lay_cons e1 (lay_cons e2 lay_nil))) ?_
  have L0 : ∀ k : Nat, 0 ≤ k → k ≤ (skB tp sz p - p) → X G Y 0 0 0 [(0, .ref r0)] [] (ovl w [(q0, (r0, cO 2 [.ref t0, .int (nI sz), .int (nI (p + k)), .int fp])), (qt0, (t0, cO 6 [.ref t1, .int (nI ts)])), (qt1, (t1, cB Y 4000 (bF tp)))]) := by
    intro k lo0 hi0
    revert lo0
    refine x_up (fun k => 0 ≤ k → X G Y 0 0 0 [(0, .ref r0)] [] (ovl w [(q0, (r0, cO 2 [.ref t0, .int (nI sz), .int (nI (p + k)), .int fp])), (qt0, (t0, cO 6 [.ref t1, .int (nI ts)])), (qt1, (t1, cB Y 4000 (bF tp)))])) (skB tp sz p - p) ?_ ?_ k hi0
    · intro lo0
      have h9 := skB_spec tp sz p
      refine x_run C 0 1 (pc' := 1) (lv' := [(0, .ref r0)]) (st' := [.ref r0]) rfl ?_
      refine x_get C 1 rfl fX2_19 N 0 rfl (v := .int (nI (p + (skB tp sz p - p)))) rfl ?_
      refine x_run C 2 1 (pc' := 5) (lv' := [(0, .ref r0)]) (st' := [.ref r0, .int (nI (p + (skB tp sz p - p)))]) rfl ?_
      refine x_get C 3 rfl fX2_15 N 0 rfl (v := .int (nI sz)) rfl ?_
      refine x_icmpN_ge C 4 (by omega) (by omega) rfl (tgt := 33) rfl (fun hc1 => ?_) (fun hc1 => ?_)
      · exact x_vret C B rfl 16 rfl (Nat.zero_le _) (Nat.zero_le _) ⟨rfl, by rw [skB_add]⟩
      · refine x_run C 5 1 (pc' := 12) (lv' := [(0, .ref r0)]) (st' := [.ref r0]) rfl ?_
        refine x_cv C 6 (As := []) (rest := []) rfl vX2_52 N 0 rfl rfl (c_X2_look Y _ r0 t0 sz (p + (skB tp sz p - p)) t1 ts tp fp q0 qt0 qt1 (ovl_at 0 N rfl) (ovl_at 1 N rfl) (ovl_at 2 N rfl) (N.ov [0, 1, 2] (by decide) rfl) (by first | assumption | omega) (by first | assumption | omega) (by first | assumption | omega)) rfl rfl (Nat.le_of_ble_eq_true rfl) ⟨Nat.le_of_ble_eq_true rfl, Nat.le_of_ble_eq_true rfl⟩ ⟨Nat.zero_le _, Nat.zero_le _⟩ [0, 1, 2] ⟨rfl, rfl, rfl, trivial⟩ (os' := [(q0, (r0, cO 2 [.ref t0, .int (nI sz), .int (nI (p + (skB tp sz p - p))), .int fp])), (qt0, (t0, cO 6 [.ref t1, .int (nI ts)])), (qt1, (t1, cB Y 4000 (bF tp)))]) rfl (st' := [.int (lkC tp sz (p + (skB tp sz p - p)))]) rfl ?_
        refine x_run C 7 1 (pc' := 17) (lv' := [(0, .ref r0)]) (st' := [.int 32, .int (lkC tp sz (p + (skB tp sz p - p)))]) rfl ?_
        refine x_icmp_ne C 8 rfl (tgt := 33) rfl (fun hc2 => ?_) (fun hc2 => ?_)
        · exact x_vret C B rfl 16 rfl (Nat.zero_le _) (Nat.zero_le _) ⟨rfl, by rw [skB_add]⟩
        · exact absurd hc2 (skB_no ht (by omega))
    · intro k hi0 ih0 lo0
      have h9 := skB_spec tp sz p
      refine x_run C 0 1 (pc' := 1) (lv' := [(0, .ref r0)]) (st' := [.ref r0]) rfl ?_
      refine x_get C 1 rfl fX2_19 N 0 rfl (v := .int (nI (p + k))) rfl ?_
      refine x_run C 2 1 (pc' := 5) (lv' := [(0, .ref r0)]) (st' := [.ref r0, .int (nI (p + k))]) rfl ?_
      refine x_get C 3 rfl fX2_15 N 0 rfl (v := .int (nI sz)) rfl ?_
      refine x_icmpN_ge C 4 (by omega) (by omega) rfl (tgt := 33) rfl (fun hc3 => ?_) (fun hc3 => ?_)
      · exact absurd hc3 (by have := (skB_in hi0).1; omega)
      · refine x_run C 5 1 (pc' := 12) (lv' := [(0, .ref r0)]) (st' := [.ref r0]) rfl ?_
        refine x_cv C 6 (As := []) (rest := []) rfl vX2_52 N 0 rfl rfl (c_X2_look Y _ r0 t0 sz (p + k) t1 ts tp fp q0 qt0 qt1 (ovl_at 0 N rfl) (ovl_at 1 N rfl) (ovl_at 2 N rfl) (N.ov [0, 1, 2] (by decide) rfl) (by first | assumption | omega) (by first | assumption | omega) (by first | assumption | omega)) rfl rfl (Nat.le_of_ble_eq_true rfl) ⟨Nat.le_of_ble_eq_true rfl, Nat.le_of_ble_eq_true rfl⟩ ⟨Nat.zero_le _, Nat.zero_le _⟩ [0, 1, 2] ⟨rfl, rfl, rfl, trivial⟩ (os' := [(q0, (r0, cO 2 [.ref t0, .int (nI sz), .int (nI (p + k)), .int fp])), (qt0, (t0, cO 6 [.ref t1, .int (nI ts)])), (qt1, (t1, cB Y 4000 (bF tp)))]) rfl (st' := [.int (lkC tp sz (p + k))]) rfl ?_
        refine x_run C 7 1 (pc' := 17) (lv' := [(0, .ref r0)]) (st' := [.int 32, .int (lkC tp sz (p + k))]) rfl ?_
        refine x_icmp_ne C 8 rfl (tgt := 33) rfl (fun hc4 => ?_) (fun hc4 => ?_)
        · exact absurd (skB_in hi0).2 hc4
        · refine x_run C 9 2 (pc' := 22) (lv' := [(0, .ref r0)]) (st' := [.ref r0, .ref r0]) rfl ?_
          refine x_get C 11 rfl fX2_19 N 0 rfl (v := .int (nI (p + k))) rfl ?_
          refine x_run C 12 2 (pc' := 27) (lv' := [(0, .ref r0)]) (st' := [.int ((nI (p + k)) + 1), .ref r0]) rfl ?_
          refine x_put C 14 rfl pX2_19 N 0 rfl rfl rfl (Nat.le_of_ble_eq_true rfl) (os' := [(q0, (r0, cO 2 [.ref t0, .int (nI sz), .int ((nI (p + k)) + 1), .int fp])), (qt0, (t0, cO 6 [.ref t1, .int (nI ts)])), (qt1, (t1, cB Y 4000 (bF tp)))]) rfl ?_
          refine x_run C 15 1 (pc' := 0) (lv' := [(0, .ref r0)]) (st' := []) rfl ?_
          refine x_ov (os' := [(q0, (r0, cO 2 [.ref t0, .int (nI sz), .int (nI (p + (k + 1))), .int fp])), (qt0, (t0, cO 6 [.ref t1, .int (nI ts)])), (qt1, (t1, cB Y 4000 (bF tp)))]) (by simp only [nlit, nI_add, Nat.add_assoc]) ?_
          exact ih0 (by omega)
  refine x_ov (os' := [(q0, (r0, cO 2 [.ref t0, .int (nI sz), .int (nI (p + 0)), .int fp])), (qt0, (t0, cO 6 [.ref t1, .int (nI ts)])), (qt1, (t1, cB Y 4000 (bF tp)))]) (by rw [Nat.add_zero]) ?_
  exact L0 0 (Nat.le_refl _) (by omega)
def dgt (c : Int32) : Int32 := (if c < 48 then (0 : Int32) else (if 57 < c then (0 : Int32) else 1))
set_option maxHeartbeats 4000000 in
set_option maxRecDepth 100000 in
theorem c_X2_isDigit (Y : xD) (w : va_W) (c : Int32)     : Cf Y mX2_isDigit 0 [.int c] w (some (.int (dgt c))) [] := by
  refine Ct.intro (T := tX2_isDigit) (by decide) oX2_isDigit (Nat.le_of_ble_eq_true rfl) (fun G C B => ?_)
  have N : xN w.length (keys []) := xN_nil _
  refine x_lay [] lay_nil ?_
  refine x_run C 0 2 (pc' := 3) (lv' := [(0, .int c)]) (st' := [.int 48, .int c]) rfl ?_
  have J3 : X G Y 0 0 17 [(0, .int c)] [.int (if c < 48 then (0 : Int32) else (if 57 < c then (0 : Int32) else 1))] (ovl w []) := by
    exact x_zret C B rfl 9 rfl (by (repeat' split) <;> first | exact Or.inl rfl | exact Or.inr rfl) (Nat.zero_le _) (Nat.zero_le _) ⟨by first | rfl | (simp only [nlit, nI_add, pk_mul]; done), by first | rfl | (simp only [nlit, nI_add, pk_mul]; done)⟩
  refine x_icmp_lt C 2 rfl (tgt := 16) rfl (fun hc1 => ?_) (fun hc1 => ?_)
  · refine x_run C 8 1 (pc' := 17) (lv' := [(0, .int c)]) (st' := [.int 0]) rfl ?_
    refine x_st (st' := [.int (if c < 48 then (0 : Int32) else (if 57 < c then (0 : Int32) else 1))]) (by rw [if_pos hc1]) ?_
    exact J3
  · refine x_run C 3 2 (pc' := 9) (lv' := [(0, .int c)]) (st' := [.int 57, .int c]) rfl ?_
    refine x_icmp_gt C 5 rfl (tgt := 16) rfl (fun hc2 => ?_) (fun hc2 => ?_)
    · refine x_run C 8 1 (pc' := 17) (lv' := [(0, .int c)]) (st' := [.int 0]) rfl ?_
      refine x_st (st' := [.int (if c < 48 then (0 : Int32) else (if 57 < c then (0 : Int32) else 1))]) (by rw [if_neg hc1, if_pos hc2]) ?_
      exact J3
    · refine x_run C 6 2 (pc' := 17) (lv' := [(0, .int c)]) (st' := [.int 1]) rfl ?_
      refine x_st (st' := [.int (if c < 48 then (0 : Int32) else (if 57 < c then (0 : Int32) else 1))]) (by rw [if_neg hc1, if_neg hc2]) ?_
      exact J3
set_option maxHeartbeats 4000000 in
set_option maxRecDepth 100000 in
theorem c_X2_isFine (Y : xD) (w : va_W) (r0 : Nat) (t0 : Nat) (sz : Nat) (p : Nat) (q0 : Nat) (e0 : w[q0]? = some (r0, cO 2 [.ref t0, .int (nI sz), .int (nI p), .int (-1)])) (N : xN w.length [q0])  : Cf Y mX2_isFine 0 [.ref r0] w (some (.int 1)) [(q0, (r0, cO 2 [.ref t0, .int (nI sz), .int (nI p), .int (-1)]))] := by
  refine Ct.intro (T := tX2_isFine) (by decide) oX2_isFine (Nat.le_of_ble_eq_true rfl) (fun G C B => ?_)
  refine x_lay [(q0, (r0, cO 2 [.ref t0, .int (nI sz), .int (nI p), .int (-1)]))] (lay_cons e0 lay_nil) ?_
  refine x_run C 0 1 (pc' := 1) (lv' := [(0, .ref r0)]) (st' := [.ref r0]) rfl ?_
  refine x_get C 1 rfl fX2_22 N 0 rfl (v := .int (-1)) rfl ?_
  refine x_run C 2 1 (pc' := 5) (lv' := [(0, .ref r0)]) (st' := [.int (-1), .int (-1)]) rfl ?_
  refine x_icmp_ne C 3 rfl (tgt := 12) rfl (fun hc1 => ?_) (fun hc1 => ?_)
  · exact absurd rfl hc1
  · refine x_run C 4 2 (pc' := 13) (lv' := [(0, .ref r0)]) (st' := [.int 1]) rfl ?_
    exact x_zret C B rfl 7 rfl (by first | exact Or.inl rfl | exact Or.inr rfl | decide) (Nat.zero_le _) (Nat.zero_le _) ⟨by first | contradiction | rfl | (simp only [if_pos hc1]; done) | (simp only [if_pos hc1]; rfl) | (simp only [if_pos hc1]; simp only [nlit, nI_add, pk_mul]; done) | (simp only [if_pos hc1, nlit, nI_add, pk_mul]; done) | contradiction | (simp only [if_pos hc1, nlit, nI_add, pk_mul]; rfl), by first | contradiction | rfl | (simp only [if_pos hc1]; done) | (simp only [if_pos hc1]; rfl) | (simp only [if_pos hc1]; simp only [nlit, nI_add, pk_mul]; done) | (simp only [if_pos hc1, nlit, nI_add, pk_mul]; done) | contradiction | (simp only [if_pos hc1, nlit, nI_add, pk_mul]; rfl)⟩
set_option maxHeartbeats 4000000 in
set_option maxRecDepth 100000 in
theorem c_X2_isFineF (Y : xD) (w : va_W) (r0 : Nat) (t0 : Nat) (sz : Nat) (p : Nat) (fp : Int32) (q0 : Nat) (e0 : w[q0]? = some (r0, cO 2 [.ref t0, .int (nI sz), .int (nI p), .int fp])) (N : xN w.length [q0]) (hfp : ¬ fp = -1) : Cf Y mX2_isFine 0 [.ref r0] w (some (.int 0)) [(q0, (r0, cO 2 [.ref t0, .int (nI sz), .int (nI p), .int fp]))] := by
  refine Ct.intro (T := tX2_isFine) (by decide) oX2_isFine (Nat.le_of_ble_eq_true rfl) (fun G C B => ?_)
  refine x_lay [(q0, (r0, cO 2 [.ref t0, .int (nI sz), .int (nI p), .int fp]))] (lay_cons e0 lay_nil) ?_
  refine x_run C 0 1 (pc' := 1) (lv' := [(0, .ref r0)]) (st' := [.ref r0]) rfl ?_
  refine x_get C 1 rfl fX2_22 N 0 rfl (v := .int fp) rfl ?_
  refine x_run C 2 1 (pc' := 5) (lv' := [(0, .ref r0)]) (st' := [.int (-1), .int fp]) rfl ?_
  refine x_icmp_ne C 3 rfl (tgt := 12) rfl (fun hc1 => ?_) (fun hc1 => ?_)
  · refine x_run C 6 1 (pc' := 13) (lv' := [(0, .ref r0)]) (st' := [.int 0]) rfl ?_
    exact x_zret C B rfl 7 rfl (by first | exact Or.inl rfl | exact Or.inr rfl | decide) (Nat.zero_le _) (Nat.zero_le _) ⟨by first | contradiction | rfl | (simp only [if_neg hc1]; done) | (simp only [if_neg hc1]; rfl) | (simp only [if_neg hc1]; simp only [nlit, nI_add, pk_mul]; done) | (simp only [if_neg hc1, nlit, nI_add, pk_mul]; done) | contradiction | (simp only [if_neg hc1, nlit, nI_add, pk_mul]; rfl), by first | contradiction | rfl | (simp only [if_neg hc1]; done) | (simp only [if_neg hc1]; rfl) | (simp only [if_neg hc1]; simp only [nlit, nI_add, pk_mul]; done) | (simp only [if_neg hc1, nlit, nI_add, pk_mul]; done) | contradiction | (simp only [if_neg hc1, nlit, nI_add, pk_mul]; rfl)⟩
  · exact absurd hc1 hfp
set_option maxHeartbeats 4000000 in
set_option maxRecDepth 100000 in
theorem c_X2_fail (Y : xD) (w : va_W) (r0 : Nat) (t0 : Nat) (sz : Nat) (p : Nat) (fp : Int32) (k : Nat) (q0 : Nat) (e0 : w[q0]? = some (r0, cO 2 [.ref t0, .int (nI sz), .int (nI p), .int fp])) (N : xN w.length [q0])  : Cf Y mX2_fail 0 [.ref r0, .int (nI k)] w none [(q0, (r0, cO 2 [.ref t0, .int (nI sz), .int (nI p), .int (nI k)]))] := by
  refine Ct.intro (T := tX2_fail) (by decide) oX2_fail (Nat.le_of_ble_eq_true rfl) (fun G C B => ?_)
  refine x_lay [(q0, (r0, cO 2 [.ref t0, .int (nI sz), .int (nI p), .int fp]))] (lay_cons e0 lay_nil) ?_
  refine x_run C 0 2 (pc' := 2) (lv' := [(0, .ref r0), (1, .int (nI k))]) (st' := [.int (nI k), .ref r0]) rfl ?_
  refine x_put C 2 rfl pX2_22 N 0 rfl rfl rfl (Nat.le_of_ble_eq_true rfl) (os' := [(q0, (r0, cO 2 [.ref t0, .int (nI sz), .int (nI p), .int (nI k)]))]) rfl ?_
  exact x_vret C B rfl 3 rfl (Nat.zero_le _) (Nat.zero_le _) ⟨by first | rfl | (simp only [nlit, nI_add, pk_mul]; done), by first | rfl | (simp only [nlit, nI_add, pk_mul]; done)⟩
def rmA (tp : Nat → Nat) (sz : Nat) (m : Int32) (p : Nat) : Nat × Int32 := if lkC tp sz (skB tp sz p) = m then (skB tp sz p + 1, -1) else (skB tp sz p, nI (skB tp sz p))
def rmG (tp : Nat → Nat) (sz : Nat) (m : Int32) (p : Nat) (fp : Int32) : Nat × Int32 := if fp = -1 then rmA tp sz m p else (p, fp)
set_option maxHeartbeats 4000000 in
set_option maxRecDepth 100000 in
theorem c_X2_readMarkA (Y : xD) (w : va_W) (r0 : Nat) (t0 : Nat) (sz : Nat) (p : Nat) (t1 : Nat) (ts : Nat) (tp : Nat → Nat) (m : Int32) (q0 qt0 qt1 : Nat) (e0 : w[q0]? = some (r0, cO 2 [.ref t0, .int (nI sz), .int (nI p), .int (-1)])) (e1 : w[qt0]? = some (t0, cO 6 [.ref t1, .int (nI ts)])) (e2 : w[qt1]? = some (t1, cB Y 4000 (bF tp))) (N : xN w.length [q0, qt0, qt1]) (hp : p ≤ 100000) (hsz : sz ≤ 4000) (ht : ∀ j, tp j < 256) : Cf Y mX2_readMark 3 [.ref r0, .int m] w none [(q0, (r0, cO 2 [.ref t0, .int (nI sz), .int (nI (rmA tp sz m p).1), .int ((rmA tp sz m p).2)])), (qt0, (t0, cO 6 [.ref t1, .int (nI ts)])), (qt1, (t1, cB Y 4000 (bF tp)))] := by
  refine Ct.intro (T := tX2_readMark) (by decide) oX2_readMark (Nat.le_of_ble_eq_true rfl) (fun G C B => ?_)
  refine x_lay [(q0, (r0, cO 2 [.ref t0, .int (nI sz), .int (nI p), .int (-1)])), (qt0, (t0, cO 6 [.ref t1, .int (nI ts)])), (qt1, (t1, cB Y 4000 (bF tp)))] (lay_cons e0 (lay_cons e1 (lay_cons e2 lay_nil))) ?_
  have h9 := skB_spec tp sz p
  refine x_run C 0 1 (pc' := 1) (lv' := [(0, .ref r0), (1, .int m)]) (st' := [.ref r0]) rfl ?_
  refine x_cv C 1 (As := []) (rest := []) rfl vX2_45 N 0 rfl rfl (c_X2_isFine Y _ r0 t0 sz p q0 (ovl_at 0 N rfl) (N.ov [0] (by decide) rfl) ) rfl rfl (Nat.le_of_ble_eq_true rfl) ⟨Nat.le_of_ble_eq_true rfl, Nat.le_of_ble_eq_true rfl⟩ ⟨Nat.zero_le _, Nat.zero_le _⟩ [0] ⟨rfl, trivial⟩ (os' := [(q0, (r0, cO 2 [.ref t0, .int (nI sz), .int (nI p), .int (-1)])), (qt0, (t0, cO 6 [.ref t1, .int (nI ts)])), (qt1, (t1, cB Y 4000 (bF tp)))]) rfl (st' := [.int 1]) rfl ?_
  refine x_st (st' := [.int (nI 1)]) (by simp only [nlit, nI_add, pk_mul]) ?_
  refine x_ifN_ne C 2 (by omega) rfl (tgt := 8) rfl (fun hc1 => ?_) (fun hc1 => absurd hc1 (by omega))
  refine x_run C 4 1 (pc' := 9) (lv' := [(0, .ref r0), (1, .int m)]) (st' := [.ref r0]) rfl ?_
  refine x_cv C 5 (As := []) (rest := []) rfl vX2_49 N 0 rfl rfl (c_X2_skipBlanks Y _ r0 t0 sz p t1 ts tp (-1) q0 qt0 qt1 (ovl_at 0 N rfl) (ovl_at 1 N rfl) (ovl_at 2 N rfl) (N.ov [0, 1, 2] (by decide) rfl) (by first | assumption | omega) (by first | assumption | omega) (by first | assumption | omega)) rfl rfl (Nat.le_of_ble_eq_true rfl) ⟨Nat.le_of_ble_eq_true rfl, Nat.le_of_ble_eq_true rfl⟩ ⟨Nat.zero_le _, Nat.zero_le _⟩ [0, 1, 2] ⟨rfl, rfl, rfl, trivial⟩ (os' := [(q0, (r0, cO 2 [.ref t0, .int (nI sz), .int (nI (skB tp sz p)), .int (-1)])), (qt0, (t0, cO 6 [.ref t1, .int (nI ts)])), (qt1, (t1, cB Y 4000 (bF tp)))]) rfl (st' := []) rfl ?_
  refine x_run C 6 1 (pc' := 13) (lv' := [(0, .ref r0), (1, .int m)]) (st' := [.ref r0]) rfl ?_
  refine x_cv C 7 (As := []) (rest := []) rfl vX2_52 N 0 rfl rfl (c_X2_look Y _ r0 t0 sz (skB tp sz p) t1 ts tp (-1) q0 qt0 qt1 (ovl_at 0 N rfl) (ovl_at 1 N rfl) (ovl_at 2 N rfl) (N.ov [0, 1, 2] (by decide) rfl) (by first | assumption | omega) (by first | assumption | omega) (by first | assumption | omega)) rfl rfl (Nat.le_of_ble_eq_true rfl) ⟨Nat.le_of_ble_eq_true rfl, Nat.le_of_ble_eq_true rfl⟩ ⟨Nat.zero_le _, Nat.zero_le _⟩ [0, 1, 2] ⟨rfl, rfl, rfl, trivial⟩ (os' := [(q0, (r0, cO 2 [.ref t0, .int (nI sz), .int (nI (skB tp sz p)), .int (-1)])), (qt0, (t0, cO 6 [.ref t1, .int (nI ts)])), (qt1, (t1, cB Y 4000 (bF tp)))]) rfl (st' := [.int (lkC tp sz (skB tp sz p))]) rfl ?_
  refine x_run C 8 1 (pc' := 17) (lv' := [(0, .ref r0), (1, .int m)]) (st' := [.int m, .int (lkC tp sz (skB tp sz p))]) rfl ?_
  refine x_icmp_eq C 9 rfl (tgt := 29) rfl (fun hc2 => ?_) (fun hc2 => ?_)
  · refine x_run C 15 2 (pc' := 31) (lv' := [(0, .ref r0), (1, .int m)]) (st' := [.ref r0, .ref r0]) rfl ?_
    refine x_get C 17 rfl fX2_19 N 0 rfl (v := .int (nI (skB tp sz p))) rfl ?_
    refine x_run C 18 2 (pc' := 36) (lv' := [(0, .ref r0), (1, .int m)]) (st' := [.int ((nI (skB tp sz p)) + 1), .ref r0]) rfl ?_
    refine x_put C 20 rfl pX2_19 N 0 rfl rfl rfl (Nat.le_of_ble_eq_true rfl) (os' := [(q0, (r0, cO 2 [.ref t0, .int (nI sz), .int ((nI (skB tp sz p)) + 1), .int (-1)])), (qt0, (t0, cO 6 [.ref t1, .int (nI ts)])), (qt1, (t1, cB Y 4000 (bF tp)))]) rfl ?_
    exact x_vret C B rfl 21 rfl (Nat.zero_le _) (Nat.zero_le _) ⟨by first | contradiction | rfl | (simp only [rmA, if_pos hc2]; done) | (simp only [rmA, if_pos hc2]; rfl) | (simp only [rmA, if_pos hc2]; simp only [nlit, nI_add, pk_mul]; done) | (simp only [rmA, if_pos hc2, nlit, nI_add, pk_mul]; done) | contradiction | (simp only [rmA, if_pos hc2, nlit, nI_add, pk_mul]; rfl), by first | contradiction | rfl | (simp only [rmA, if_pos hc2]; done) | (simp only [rmA, if_pos hc2]; rfl) | (simp only [rmA, if_pos hc2]; simp only [nlit, nI_add, pk_mul]; done) | (simp only [rmA, if_pos hc2, nlit, nI_add, pk_mul]; done) | contradiction | (simp only [rmA, if_pos hc2, nlit, nI_add, pk_mul]; rfl)⟩
  · refine x_run C 10 2 (pc' := 22) (lv' := [(0, .ref r0), (1, .int m)]) (st' := [.ref r0, .ref r0]) rfl ?_
    refine x_get C 12 rfl fX2_19 N 0 rfl (v := .int (nI (skB tp sz p))) rfl ?_
    refine x_cv C 13 (As := [.int (nI (skB tp sz p))]) (rest := []) rfl vX2_60 N 0 rfl rfl (c_X2_fail Y _ r0 t0 sz (skB tp sz p) (-1) (skB tp sz p) q0 (ovl_at 0 N rfl) (N.ov [0] (by decide) rfl) ) rfl rfl (Nat.le_of_ble_eq_true rfl) ⟨Nat.le_of_ble_eq_true rfl, Nat.le_of_ble_eq_true rfl⟩ ⟨Nat.zero_le _, Nat.zero_le _⟩ [0] ⟨rfl, trivial⟩ (os' := [(q0, (r0, cO 2 [.ref t0, .int (nI sz), .int (nI (skB tp sz p)), .int (nI (skB tp sz p))])), (qt0, (t0, cO 6 [.ref t1, .int (nI ts)])), (qt1, (t1, cB Y 4000 (bF tp)))]) rfl (st' := []) rfl ?_
    exact x_vret C B rfl 14 rfl (Nat.zero_le _) (Nat.zero_le _) ⟨by first | contradiction | rfl | (simp only [rmA, if_neg hc2]; done) | (simp only [rmA, if_neg hc2]; rfl) | (simp only [rmA, if_neg hc2]; simp only [nlit, nI_add, pk_mul]; done) | (simp only [rmA, if_neg hc2, nlit, nI_add, pk_mul]; done) | contradiction | (simp only [rmA, if_neg hc2, nlit, nI_add, pk_mul]; rfl), by first | contradiction | rfl | (simp only [rmA, if_neg hc2]; done) | (simp only [rmA, if_neg hc2]; rfl) | (simp only [rmA, if_neg hc2]; simp only [nlit, nI_add, pk_mul]; done) | (simp only [rmA, if_neg hc2, nlit, nI_add, pk_mul]; done) | contradiction | (simp only [rmA, if_neg hc2, nlit, nI_add, pk_mul]; rfl)⟩
set_option maxHeartbeats 4000000 in
set_option maxRecDepth 100000 in
theorem c_X2_readMarkN (Y : xD) (w : va_W) (r0 : Nat) (t0 : Nat) (sz : Nat) (p : Nat) (t1 : Nat) (ts : Nat) (tp : Nat → Nat) (fp : Int32) (m : Int32) (q0 qt0 qt1 : Nat) (e0 : w[q0]? = some (r0, cO 2 [.ref t0, .int (nI sz), .int (nI p), .int fp])) (e1 : w[qt0]? = some (t0, cO 6 [.ref t1, .int (nI ts)])) (e2 : w[qt1]? = some (t1, cB Y 4000 (bF tp))) (N : xN w.length [q0, qt0, qt1]) (hp : p ≤ 100000) (hsz : sz ≤ 4000) (ht : ∀ j, tp j < 256) (hfp : ¬ fp = -1) : Cf Y mX2_readMark 3 [.ref r0, .int m] w none [(q0, (r0, cO 2 [.ref t0, .int (nI sz), .int (nI p), .int fp])), (qt0, (t0, cO 6 [.ref t1, .int (nI ts)])), (qt1, (t1, cB Y 4000 (bF tp)))] := by
  refine Ct.intro (T := tX2_readMark) (by decide) oX2_readMark (Nat.le_of_ble_eq_true rfl) (fun G C B => ?_)
  refine x_lay [(q0, (r0, cO 2 [.ref t0, .int (nI sz), .int (nI p), .int fp])), (qt0, (t0, cO 6 [.ref t1, .int (nI ts)])), (qt1, (t1, cB Y 4000 (bF tp)))] (lay_cons e0 (lay_cons e1 (lay_cons e2 lay_nil))) ?_
  refine x_run C 0 1 (pc' := 1) (lv' := [(0, .ref r0), (1, .int m)]) (st' := [.ref r0]) rfl ?_
  refine x_cv C 1 (As := []) (rest := []) rfl vX2_45 N 0 rfl rfl (c_X2_isFineF Y _ r0 t0 sz p fp q0 (ovl_at 0 N rfl) (N.ov [0] (by decide) rfl) (by first | assumption | omega)) rfl rfl (Nat.le_of_ble_eq_true rfl) ⟨Nat.le_of_ble_eq_true rfl, Nat.le_of_ble_eq_true rfl⟩ ⟨Nat.zero_le _, Nat.zero_le _⟩ [0] ⟨rfl, trivial⟩ (os' := [(q0, (r0, cO 2 [.ref t0, .int (nI sz), .int (nI p), .int fp])), (qt0, (t0, cO 6 [.ref t1, .int (nI ts)])), (qt1, (t1, cB Y 4000 (bF tp)))]) rfl (st' := [.int 0]) rfl ?_
  refine x_st (st' := [.int (nI 0)]) (by simp only [nlit, nI_add, pk_mul]) ?_
  refine x_ifN_ne C 2 (by omega) rfl (tgt := 8) rfl (fun hc1 => absurd hc1 (by omega)) (fun hc1 => ?_)
  exact x_vret C B rfl 3 rfl (Nat.zero_le _) (Nat.zero_le _) ⟨by first | rfl | (simp only [nlit, nI_add, pk_mul]; done), by first | rfl | (simp only [nlit, nI_add, pk_mul]; done)⟩
set_option maxHeartbeats 4000000 in
theorem c_X2_readMark (Y : xD) (w : va_W) (r0 : Nat) (t0 : Nat) (sz : Nat) (p : Nat) (t1 : Nat) (ts : Nat) (tp : Nat → Nat) (fp : Int32) (m : Int32) (q0 qt0 qt1 : Nat) (e0 : w[q0]? = some (r0, cO 2 [.ref t0, .int (nI sz), .int (nI p), .int fp])) (e1 : w[qt0]? = some (t0, cO 6 [.ref t1, .int (nI ts)])) (e2 : w[qt1]? = some (t1, cB Y 4000 (bF tp))) (N : xN w.length [q0, qt0, qt1]) (hp : p ≤ 100000) (hsz : sz ≤ 4000) (ht : ∀ j, tp j < 256) : Cf Y mX2_readMark 3 [.ref r0, .int m] w none [(q0, (r0, cO 2 [.ref t0, .int (nI sz), .int (nI (rmG tp sz m p fp).1), .int ((rmG tp sz m p fp).2)])), (qt0, (t0, cO 6 [.ref t1, .int (nI ts)])), (qt1, (t1, cB Y 4000 (bF tp)))] := by
  by_cases hfp : fp = -1
  · subst hfp
    have h := c_X2_readMarkA Y w r0 t0 sz p t1 ts tp m q0 qt0 qt1 e0 e1 e2 N hp hsz ht
    simp only [rmG, if_pos rfl]
    exact h
  · have h := c_X2_readMarkN Y w r0 t0 sz p t1 ts tp fp m q0 qt0 qt1 e0 e1 e2 N hp hsz ht hfp
    simp only [rmG, if_neg hfp]
    exact h
def ndF (tp : Nat → Nat) (sz : Nat) : Nat → Nat → Nat
  | 0, _ => 0
  | m + 1, p => if dgt (lkC tp sz p) = 0 then 0 else ndF tp sz m (p + 1) + 1
/-- how many digits stand there, four at most -/
def ndg (tp : Nat → Nat) (sz p : Nat) : Nat := ndF tp sz 4 p
theorem ndF_spec (tp : Nat → Nat) (sz : Nat) : ∀ m p, ndF tp sz m p ≤ m ∧ (∀ k, k < ndF tp sz m p → ¬ dgt (lkC tp sz (p + k)) = 0) ∧ (ndF tp sz m p < m → dgt (lkC tp sz (p + ndF tp sz m p)) = 0)
  | 0, p => ⟨Nat.le_refl _, fun k h => absurd h (by unfold ndF; omega), fun h => absurd h (by unfold ndF; omega)⟩
  | m + 1, p => by
    unfold ndF
    split
    · rename_i h
      exact ⟨by omega, fun k h2 => absurd h2 (by omega), fun _ => h⟩
    · rename_i h
      obtain ⟨a, b, c⟩ := ndF_spec tp sz m (p + 1)
      refine ⟨by omega, fun k hk => ?_, fun h2 => ?_⟩
      · cases k with
        | zero => exact h
        | succ k => rw [show p + (k + 1) = p + 1 + k by omega]; exact b k (by omega)
      · rw [show p + (ndF tp sz m (p + 1) + 1) = p + 1 + ndF tp sz m (p + 1) by omega]
        exact c (by omega)
theorem ndg_spec (tp : Nat → Nat) (sz p : Nat) : ndg tp sz p ≤ 4 ∧ (∀ k, k < ndg tp sz p → ¬ dgt (lkC tp sz (p + k)) = 0) ∧ (ndg tp sz p < 4 → dgt (lkC tp sz (p + ndg tp sz p)) = 0) := ndF_spec tp sz 4 p
def dvI (tp : Nat → Nat) (sz s : Nat) : Nat → Int32
  | 0 => 0
  | i + 1 => (10 * dvI tp sz s i + lkC tp sz (s + i)) - 48
/-- a number read where no fault is yet: its value, the place, the fault -/
def rnA (tp : Nat → Nat) (sz : Nat) (lo hi : Int32) (p : Nat) : Int32 × Nat × Int32 :=
  if skB tp sz p + ndg tp sz (skB tp sz p) = skB tp sz p then (0, skB tp sz p + ndg tp sz (skB tp sz p), nI (skB tp sz p))
  else if dvI tp sz (skB tp sz p) (ndg tp sz (skB tp sz p)) < lo then (0, skB tp sz p + ndg tp sz (skB tp sz p), nI (skB tp sz p))
  else if dvI tp sz (skB tp sz p) (ndg tp sz (skB tp sz p)) ≤ hi then
    (if dgt (lkC tp sz (skB tp sz p + ndg tp sz (skB tp sz p))) = 0 then (dvI tp sz (skB tp sz p) (ndg tp sz (skB tp sz p)), skB tp sz p + ndg tp sz (skB tp sz p), -1)
    else (dvI tp sz (skB tp sz p) (ndg tp sz (skB tp sz p)), skB tp sz p + ndg tp sz (skB tp sz p), nI (skB tp sz p + ndg tp sz (skB tp sz p))))
  else (0, skB tp sz p + ndg tp sz (skB tp sz p), nI (skB tp sz p))
def rnG (tp : Nat → Nat) (sz : Nat) (lo hi : Int32) (p : Nat) (fp : Int32) : Int32 × Nat × Int32 := if fp = -1 then rnA tp sz lo hi p else (0, p, fp)
set_option maxHeartbeats 4000000 in
set_option maxRecDepth 100000 in
theorem c_X2_readNumberA (Y : xD) (w : va_W) (r0 : Nat) (t0 : Nat) (sz : Nat) (p : Nat) (t1 : Nat) (ts : Nat) (tp : Nat → Nat) (lo : Int32) (hi : Int32) (q0 qt0 qt1 : Nat) (e0 : w[q0]? = some (r0, cO 2 [.ref t0, .int (nI sz), .int (nI p), .int (-1)])) (e1 : w[qt0]? = some (t0, cO 6 [.ref t1, .int (nI ts)])) (e2 : w[qt1]? = some (t1, cB Y 4000 (bF tp))) (N : xN w.length [q0, qt0, qt1]) (hp : p ≤ 100000) (hsz : sz ≤ 4000) (ht : ∀ j, tp j < 256) : Cf Y mX2_readNumber 3 [.ref r0, .int lo, .int hi] w (some (.int ((rnA tp sz lo hi p).1))) [(q0, (r0, cO 2 [.ref t0, .int (nI sz), .int (nI (rnA tp sz lo hi p).2.1), .int ((rnA tp sz lo hi p).2.2)])), (qt0, (t0, cO 6 [.ref t1, .int (nI ts)])), (qt1, (t1, cB Y 4000 (bF tp)))] := by
  refine Ct.intro (T := tX2_readNumber) (by decide) oX2_readNumber (Nat.le_of_ble_eq_true rfl) (fun G C B => ?_)
  refine x_lay [(q0, (r0, cO 2 [.ref t0, .int (nI sz), .int (nI p), .int (-1)])), (qt0, (t0, cO 6 [.ref t1, .int (nI ts)])), (qt1, (t1, cB Y 4000 (bF tp)))] (lay_cons e0 (lay_cons e1 (lay_cons e2 lay_nil))) ?_
  have h9 := skB_spec tp sz p
  have h8 := ndg_spec tp sz (skB tp sz p)
  refine x_run C 0 1 (pc' := 1) (lv' := [(0, .ref r0), (1, .int lo), (2, .int hi)]) (st' := [.ref r0]) rfl ?_
  refine x_cv C 1 (As := []) (rest := []) rfl vX2_45 N 0 rfl rfl (c_X2_isFine Y _ r0 t0 sz p q0 (ovl_at 0 N rfl) (N.ov [0] (by decide) rfl) ) rfl rfl (Nat.le_of_ble_eq_true rfl) ⟨Nat.le_of_ble_eq_true rfl, Nat.le_of_ble_eq_true rfl⟩ ⟨Nat.zero_le _, Nat.zero_le _⟩ [0] ⟨rfl, trivial⟩ (os' := [(q0, (r0, cO 2 [.ref t0, .int (nI sz), .int (nI p), .int (-1)])), (qt0, (t0, cO 6 [.ref t1, .int (nI ts)])), (qt1, (t1, cB Y 4000 (bF tp)))]) rfl (st' := [.int 1]) rfl ?_
  refine x_st (st' := [.int (nI 1)]) (by simp only [nlit, nI_add, pk_mul]) ?_
  refine x_ifN_ne C 2 (by omega) rfl (tgt := 9) rfl (fun hc1 => ?_) (fun hc1 => absurd hc1 (by omega))
  refine x_run C 5 1 (pc' := 10) (lv' := [(0, .ref r0), (1, .int lo), (2, .int hi)]) (st' := [.ref r0]) rfl ?_
  refine x_cv C 6 (As := []) (rest := []) rfl vX2_49 N 0 rfl rfl (c_X2_skipBlanks Y _ r0 t0 sz p t1 ts tp (-1) q0 qt0 qt1 (ovl_at 0 N rfl) (ovl_at 1 N rfl) (ovl_at 2 N rfl) (N.ov [0, 1, 2] (by decide) rfl) (by first | assumption | omega) (by first | assumption | omega) (by first | assumption | omega)) rfl rfl (Nat.le_of_ble_eq_true rfl) ⟨Nat.le_of_ble_eq_true rfl, Nat.le_of_ble_eq_true rfl⟩ ⟨Nat.zero_le _, Nat.zero_le _⟩ [0, 1, 2] ⟨rfl, rfl, rfl, trivial⟩ (os' := [(q0, (r0, cO 2 [.ref t0, .int (nI sz), .int (nI (skB tp sz p)), .int (-1)])), (qt0, (t0, cO 6 [.ref t1, .int (nI ts)])), (qt1, (t1, cB Y 4000 (bF tp)))]) rfl (st' := []) rfl ?_
  refine x_run C 7 1 (pc' := 14) (lv' := [(0, .ref r0), (1, .int lo), (2, .int hi)]) (st' := [.ref r0]) rfl ?_
  refine x_get C 8 rfl fX2_19 N 0 rfl (v := .int (nI (skB tp sz p))) rfl ?_
  refine x_run C 9 3 (pc' := 21) (lv' := [(4, .int 0), (3, .int (nI (skB tp sz p))), (0, .ref r0), (1, .int lo), (2, .int hi)]) (st' := []) rfl ?_
  have L21 : ∀ k : Nat, 0 ≤ k → k ≤ (ndg tp sz (skB tp sz p)) → X G Y 0 0 21 [(0, .ref r0), (1, .int lo), (2, .int hi), (3, .int (nI (skB tp sz p))), (4, .int (dvI tp sz (skB tp sz p) k))] [] (ovl w [(q0, (r0, cO 2 [.ref t0, .int (nI sz), .int (nI ((skB tp sz p) + k)), .int (-1)])), (qt0, (t0, cO 6 [.ref t1, .int (nI ts)])), (qt1, (t1, cB Y 4000 (bF tp)))]) := by
    intro k lo21 hi21
    revert lo21
    refine x_up (fun k => 0 ≤ k → X G Y 0 0 21 [(0, .ref r0), (1, .int lo), (2, .int hi), (3, .int (nI (skB tp sz p))), (4, .int (dvI tp sz (skB tp sz p) k))] [] (ovl w [(q0, (r0, cO 2 [.ref t0, .int (nI sz), .int (nI ((skB tp sz p) + k)), .int (-1)])), (qt0, (t0, cO 6 [.ref t1, .int (nI ts)])), (qt1, (t1, cB Y 4000 (bF tp)))])) (ndg tp sz (skB tp sz p)) ?_ ?_ k hi21
    · intro lo21
      refine x_run C 12 1 (pc' := 22) (lv' := [(0, .ref r0), (1, .int lo), (2, .int hi), (3, .int (nI (skB tp sz p))), (4, .int (dvI tp sz (skB tp sz p) (ndg tp sz (skB tp sz p))))]) (st' := [.ref r0]) rfl ?_
      refine x_get C 13 rfl fX2_19 N 0 rfl (v := .int (nI ((skB tp sz p) + (ndg tp sz (skB tp sz p))))) rfl ?_
      refine x_run C 14 3 (pc' := 28) (lv' := [(0, .ref r0), (1, .int lo), (2, .int hi), (3, .int (nI (skB tp sz p))), (4, .int (dvI tp sz (skB tp sz p) (ndg tp sz (skB tp sz p))))]) (st' := [.int ((nI (skB tp sz p)) + 4), .int (nI ((skB tp sz p) + (ndg tp sz (skB tp sz p))))]) rfl ?_
      refine x_st (st' := [.int (nI ((skB tp sz p) + 4)), .int (nI ((skB tp sz p) + (ndg tp sz (skB tp sz p))))]) (by simp only [nlit, nI_add, pk_mul]) ?_
      refine x_icmpN_ge C 17 (by omega) (by omega) rfl (tgt := 69) rfl (fun hc2 => ?_) (fun hc2 => ?_)
      · refine x_run C 38 1 (pc' := 70) (lv' := [(0, .ref r0), (1, .int lo), (2, .int hi), (3, .int (nI (skB tp sz p))), (4, .int (dvI tp sz (skB tp sz p) (ndg tp sz (skB tp sz p))))]) (st' := [.ref r0]) rfl ?_
        refine x_get C 39 rfl fX2_19 N 0 rfl (v := .int (nI ((skB tp sz p) + (ndg tp sz (skB tp sz p))))) rfl ?_
        refine x_run C 40 1 (pc' := 74) (lv' := [(0, .ref r0), (1, .int lo), (2, .int hi), (3, .int (nI (skB tp sz p))), (4, .int (dvI tp sz (skB tp sz p) (ndg tp sz (skB tp sz p))))]) (st' := [.int (nI (skB tp sz p)), .int (nI ((skB tp sz p) + (ndg tp sz (skB tp sz p))))]) rfl ?_
        refine x_icmpN_eq C 41 (by omega) (by omega) rfl (tgt := 89) rfl (fun hc3 => ?_) (fun hc3 => ?_)
        · refine x_run C 48 2 (pc' := 91) (lv' := [(0, .ref r0), (1, .int lo), (2, .int hi), (3, .int (nI (skB tp sz p))), (4, .int (dvI tp sz (skB tp sz p) (ndg tp sz (skB tp sz p))))]) (st' := [.int (nI (skB tp sz p)), .ref r0]) rfl ?_
          refine x_cv C 50 (As := [.int (nI (skB tp sz p))]) (rest := []) rfl vX2_60 N 0 rfl rfl (c_X2_fail Y _ r0 t0 sz ((skB tp sz p) + (ndg tp sz (skB tp sz p))) (-1) (skB tp sz p) q0 (ovl_at 0 N rfl) (N.ov [0] (by decide) rfl) ) rfl rfl (Nat.le_of_ble_eq_true rfl) ⟨Nat.le_of_ble_eq_true rfl, Nat.le_of_ble_eq_true rfl⟩ ⟨Nat.zero_le _, Nat.zero_le _⟩ [0] ⟨rfl, trivial⟩ (os' := [(q0, (r0, cO 2 [.ref t0, .int (nI sz), .int (nI ((skB tp sz p) + (ndg tp sz (skB tp sz p)))), .int (nI (skB tp sz p))])), (qt0, (t0, cO 6 [.ref t1, .int (nI ts)])), (qt1, (t1, cB Y 4000 (bF tp)))]) rfl (st' := []) rfl ?_
          refine x_run C 51 1 (pc' := 95) (lv' := [(0, .ref r0), (1, .int lo), (2, .int hi), (3, .int (nI (skB tp sz p))), (4, .int (dvI tp sz (skB tp sz p) (ndg tp sz (skB tp sz p))))]) (st' := [.int 0]) rfl ?_
          exact x_iret C B rfl 52 rfl (Nat.zero_le _) (Nat.zero_le _) ⟨by first | contradiction | rfl | (simp only [rnA, if_pos hc3]; done) | (simp only [rnA, if_pos hc3]; rfl) | (simp only [rnA, if_pos hc3]; simp only [nlit, nI_add, pk_mul]; done) | (simp only [rnA, if_pos hc3, nlit, nI_add, pk_mul]; done) | contradiction | (simp only [rnA, if_pos hc3, nlit, nI_add, pk_mul]; rfl), by first | contradiction | rfl | (simp only [rnA, if_pos hc3]; done) | (simp only [rnA, if_pos hc3]; rfl) | (simp only [rnA, if_pos hc3]; simp only [nlit, nI_add, pk_mul]; done) | (simp only [rnA, if_pos hc3, nlit, nI_add, pk_mul]; done) | contradiction | (simp only [rnA, if_pos hc3, nlit, nI_add, pk_mul]; rfl)⟩
        · refine x_run C 42 2 (pc' := 80) (lv' := [(0, .ref r0), (1, .int lo), (2, .int hi), (3, .int (nI (skB tp sz p))), (4, .int (dvI tp sz (skB tp sz p) (ndg tp sz (skB tp sz p))))]) (st' := [.int lo, .int (dvI tp sz (skB tp sz p) (ndg tp sz (skB tp sz p)))]) rfl ?_
          refine x_icmp_lt C 44 rfl (tgt := 89) rfl (fun hc4 => ?_) (fun hc4 => ?_)
          · refine x_run C 48 2 (pc' := 91) (lv' := [(0, .ref r0), (1, .int lo), (2, .int hi), (3, .int (nI (skB tp sz p))), (4, .int (dvI tp sz (skB tp sz p) (ndg tp sz (skB tp sz p))))]) (st' := [.int (nI (skB tp sz p)), .ref r0]) rfl ?_
            refine x_cv C 50 (As := [.int (nI (skB tp sz p))]) (rest := []) rfl vX2_60 N 0 rfl rfl (c_X2_fail Y _ r0 t0 sz ((skB tp sz p) + (ndg tp sz (skB tp sz p))) (-1) (skB tp sz p) q0 (ovl_at 0 N rfl) (N.ov [0] (by decide) rfl) ) rfl rfl (Nat.le_of_ble_eq_true rfl) ⟨Nat.le_of_ble_eq_true rfl, Nat.le_of_ble_eq_true rfl⟩ ⟨Nat.zero_le _, Nat.zero_le _⟩ [0] ⟨rfl, trivial⟩ (os' := [(q0, (r0, cO 2 [.ref t0, .int (nI sz), .int (nI ((skB tp sz p) + (ndg tp sz (skB tp sz p)))), .int (nI (skB tp sz p))])), (qt0, (t0, cO 6 [.ref t1, .int (nI ts)])), (qt1, (t1, cB Y 4000 (bF tp)))]) rfl (st' := []) rfl ?_
            refine x_run C 51 1 (pc' := 95) (lv' := [(0, .ref r0), (1, .int lo), (2, .int hi), (3, .int (nI (skB tp sz p))), (4, .int (dvI tp sz (skB tp sz p) (ndg tp sz (skB tp sz p))))]) (st' := [.int 0]) rfl ?_
            exact x_iret C B rfl 52 rfl (Nat.zero_le _) (Nat.zero_le _) ⟨by first | contradiction | rfl | (simp only [rnA, if_neg hc3, if_pos hc4]; done) | (simp only [rnA, if_neg hc3, if_pos hc4]; rfl) | (simp only [rnA, if_neg hc3, if_pos hc4]; simp only [nlit, nI_add, pk_mul]; done) | (simp only [rnA, if_neg hc3, if_pos hc4, nlit, nI_add, pk_mul]; done) | contradiction | (simp only [rnA, if_neg hc3, if_pos hc4, nlit, nI_add, pk_mul]; rfl), by first | contradiction | rfl | (simp only [rnA, if_neg hc3, if_pos hc4]; done) | (simp only [rnA, if_neg hc3, if_pos hc4]; rfl) | (simp only [rnA, if_neg hc3, if_pos hc4]; simp only [nlit, nI_add, pk_mul]; done) | (simp only [rnA, if_neg hc3, if_pos hc4, nlit, nI_add, pk_mul]; done) | contradiction | (simp only [rnA, if_neg hc3, if_pos hc4, nlit, nI_add, pk_mul]; rfl)⟩
          · refine x_run C 45 2 (pc' := 86) (lv' := [(0, .ref r0), (1, .int lo), (2, .int hi), (3, .int (nI (skB tp sz p))), (4, .int (dvI tp sz (skB tp sz p) (ndg tp sz (skB tp sz p))))]) (st' := [.int hi, .int (dvI tp sz (skB tp sz p) (ndg tp sz (skB tp sz p)))]) rfl ?_
            refine x_icmp_le C 47 rfl (tgt := 96) rfl (fun hc5 => ?_) (fun hc5 => ?_)
            · refine x_run C 53 1 (pc' := 97) (lv' := [(0, .ref r0), (1, .int lo), (2, .int hi), (3, .int (nI (skB tp sz p))), (4, .int (dvI tp sz (skB tp sz p) (ndg tp sz (skB tp sz p))))]) (st' := [.ref r0]) rfl ?_
              refine x_cv C 54 (As := []) (rest := []) rfl vX2_52 N 0 rfl rfl (c_X2_look Y _ r0 t0 sz ((skB tp sz p) + (ndg tp sz (skB tp sz p))) t1 ts tp (-1) q0 qt0 qt1 (ovl_at 0 N rfl) (ovl_at 1 N rfl) (ovl_at 2 N rfl) (N.ov [0, 1, 2] (by decide) rfl) (by first | assumption | omega) (by first | assumption | omega) (by first | assumption | omega)) rfl rfl (Nat.le_of_ble_eq_true rfl) ⟨Nat.le_of_ble_eq_true rfl, Nat.le_of_ble_eq_true rfl⟩ ⟨Nat.zero_le _, Nat.zero_le _⟩ [0, 1, 2] ⟨rfl, rfl, rfl, trivial⟩ (os' := [(q0, (r0, cO 2 [.ref t0, .int (nI sz), .int (nI ((skB tp sz p) + (ndg tp sz (skB tp sz p)))), .int (-1)])), (qt0, (t0, cO 6 [.ref t1, .int (nI ts)])), (qt1, (t1, cB Y 4000 (bF tp)))]) rfl (st' := [.int (lkC tp sz ((skB tp sz p) + (ndg tp sz (skB tp sz p))))]) rfl ?_
              refine x_cs C 55 (As := [.int (lkC tp sz ((skB tp sz p) + (ndg tp sz (skB tp sz p))))]) (rest := []) rfl vX2_77 N (c_X2_isDigit Y _ (lkC tp sz ((skB tp sz p) + (ndg tp sz (skB tp sz p))))    ) rfl rfl (Nat.le_of_ble_eq_true rfl) ⟨Nat.le_of_ble_eq_true rfl, Nat.le_of_ble_eq_true rfl⟩ ⟨Nat.zero_le _, Nat.zero_le _⟩ [] trivial (os' := [(q0, (r0, cO 2 [.ref t0, .int (nI sz), .int (nI ((skB tp sz p) + (ndg tp sz (skB tp sz p)))), .int (-1)])), (qt0, (t0, cO 6 [.ref t1, .int (nI ts)])), (qt1, (t1, cB Y 4000 (bF tp)))]) rfl (st' := [.int (dgt (lkC tp sz ((skB tp sz p) + (ndg tp sz (skB tp sz p)))))]) rfl ?_
              refine x_if_eq C 56 rfl (tgt := 114) rfl (fun hc6 => ?_) (fun hc6 => ?_)
              · refine x_run C 61 1 (pc' := 116) (lv' := [(0, .ref r0), (1, .int lo), (2, .int hi), (3, .int (nI (skB tp sz p))), (4, .int (dvI tp sz (skB tp sz p) (ndg tp sz (skB tp sz p))))]) (st' := [.int (dvI tp sz (skB tp sz p) (ndg tp sz (skB tp sz p)))]) rfl ?_
                exact x_iret C B rfl 62 rfl (Nat.zero_le _) (Nat.zero_le _) ⟨by first | contradiction | rfl | (simp only [rnA, if_neg hc3, if_neg hc4, if_pos hc5, if_pos hc6]; done) | (simp only [rnA, if_neg hc3, if_neg hc4, if_pos hc5, if_pos hc6]; rfl) | (simp only [rnA, if_neg hc3, if_neg hc4, if_pos hc5, if_pos hc6]; simp only [nlit, nI_add, pk_mul]; done) | (simp only [rnA, if_neg hc3, if_neg hc4, if_pos hc5, if_pos hc6, nlit, nI_add, pk_mul]; done) | contradiction | (simp only [rnA, if_neg hc3, if_neg hc4, if_pos hc5, if_pos hc6, nlit, nI_add, pk_mul]; rfl), by first | contradiction | rfl | (simp only [rnA, if_neg hc3, if_neg hc4, if_pos hc5, if_pos hc6]; done) | (simp only [rnA, if_neg hc3, if_neg hc4, if_pos hc5, if_pos hc6]; rfl) | (simp only [rnA, if_neg hc3, if_neg hc4, if_pos hc5, if_pos hc6]; simp only [nlit, nI_add, pk_mul]; done) | (simp only [rnA, if_neg hc3, if_neg hc4, if_pos hc5, if_pos hc6, nlit, nI_add, pk_mul]; done) | contradiction | (simp only [rnA, if_neg hc3, if_neg hc4, if_pos hc5, if_pos hc6, nlit, nI_add, pk_mul]; rfl)⟩
              · refine x_run C 57 2 (pc' := 108) (lv' := [(0, .ref r0), (1, .int lo), (2, .int hi), (3, .int (nI (skB tp sz p))), (4, .int (dvI tp sz (skB tp sz p) (ndg tp sz (skB tp sz p))))]) (st' := [.ref r0, .ref r0]) rfl ?_
                refine x_get C 59 rfl fX2_19 N 0 rfl (v := .int (nI ((skB tp sz p) + (ndg tp sz (skB tp sz p))))) rfl ?_
                refine x_cv C 60 (As := [.int (nI ((skB tp sz p) + (ndg tp sz (skB tp sz p))))]) (rest := []) rfl vX2_60 N 0 rfl rfl (c_X2_fail Y _ r0 t0 sz ((skB tp sz p) + (ndg tp sz (skB tp sz p))) (-1) ((skB tp sz p) + (ndg tp sz (skB tp sz p))) q0 (ovl_at 0 N rfl) (N.ov [0] (by decide) rfl) ) rfl rfl (Nat.le_of_ble_eq_true rfl) ⟨Nat.le_of_ble_eq_true rfl, Nat.le_of_ble_eq_true rfl⟩ ⟨Nat.zero_le _, Nat.zero_le _⟩ [0] ⟨rfl, trivial⟩ (os' := [(q0, (r0, cO 2 [.ref t0, .int (nI sz), .int (nI ((skB tp sz p) + (ndg tp sz (skB tp sz p)))), .int (nI ((skB tp sz p) + (ndg tp sz (skB tp sz p))))])), (qt0, (t0, cO 6 [.ref t1, .int (nI ts)])), (qt1, (t1, cB Y 4000 (bF tp)))]) rfl (st' := []) rfl ?_
                refine x_run C 61 1 (pc' := 116) (lv' := [(0, .ref r0), (1, .int lo), (2, .int hi), (3, .int (nI (skB tp sz p))), (4, .int (dvI tp sz (skB tp sz p) (ndg tp sz (skB tp sz p))))]) (st' := [.int (dvI tp sz (skB tp sz p) (ndg tp sz (skB tp sz p)))]) rfl ?_
                exact x_iret C B rfl 62 rfl (Nat.zero_le _) (Nat.zero_le _) ⟨by first | contradiction | rfl | (simp only [rnA, if_neg hc3, if_neg hc4, if_pos hc5, if_neg hc6]; done) | (simp only [rnA, if_neg hc3, if_neg hc4, if_pos hc5, if_neg hc6]; rfl) | (simp only [rnA, if_neg hc3, if_neg hc4, if_pos hc5, if_neg hc6]; simp only [nlit, nI_add, pk_mul]; done) | (simp only [rnA, if_neg hc3, if_neg hc4, if_pos hc5, if_neg hc6, nlit, nI_add, pk_mul]; done) | contradiction | (simp only [rnA, if_neg hc3, if_neg hc4, if_pos hc5, if_neg hc6, nlit, nI_add, pk_mul]; rfl), by first | contradiction | rfl | (simp only [rnA, if_neg hc3, if_neg hc4, if_pos hc5, if_neg hc6]; done) | (simp only [rnA, if_neg hc3, if_neg hc4, if_pos hc5, if_neg hc6]; rfl) | (simp only [rnA, if_neg hc3, if_neg hc4, if_pos hc5, if_neg hc6]; simp only [nlit, nI_add, pk_mul]; done) | (simp only [rnA, if_neg hc3, if_neg hc4, if_pos hc5, if_neg hc6, nlit, nI_add, pk_mul]; done) | contradiction | (simp only [rnA, if_neg hc3, if_neg hc4, if_pos hc5, if_neg hc6, nlit, nI_add, pk_mul]; rfl)⟩
            · refine x_run C 48 2 (pc' := 91) (lv' := [(0, .ref r0), (1, .int lo), (2, .int hi), (3, .int (nI (skB tp sz p))), (4, .int (dvI tp sz (skB tp sz p) (ndg tp sz (skB tp sz p))))]) (st' := [.int (nI (skB tp sz p)), .ref r0]) rfl ?_
              refine x_cv C 50 (As := [.int (nI (skB tp sz p))]) (rest := []) rfl vX2_60 N 0 rfl rfl (c_X2_fail Y _ r0 t0 sz ((skB tp sz p) + (ndg tp sz (skB tp sz p))) (-1) (skB tp sz p) q0 (ovl_at 0 N rfl) (N.ov [0] (by decide) rfl) ) rfl rfl (Nat.le_of_ble_eq_true rfl) ⟨Nat.le_of_ble_eq_true rfl, Nat.le_of_ble_eq_true rfl⟩ ⟨Nat.zero_le _, Nat.zero_le _⟩ [0] ⟨rfl, trivial⟩ (os' := [(q0, (r0, cO 2 [.ref t0, .int (nI sz), .int (nI ((skB tp sz p) + (ndg tp sz (skB tp sz p)))), .int (nI (skB tp sz p))])), (qt0, (t0, cO 6 [.ref t1, .int (nI ts)])), (qt1, (t1, cB Y 4000 (bF tp)))]) rfl (st' := []) rfl ?_
              refine x_run C 51 1 (pc' := 95) (lv' := [(0, .ref r0), (1, .int lo), (2, .int hi), (3, .int (nI (skB tp sz p))), (4, .int (dvI tp sz (skB tp sz p) (ndg tp sz (skB tp sz p))))]) (st' := [.int 0]) rfl ?_
              exact x_iret C B rfl 52 rfl (Nat.zero_le _) (Nat.zero_le _) ⟨by first | contradiction | rfl | (simp only [rnA, if_neg hc3, if_neg hc4, if_neg hc5]; done) | (simp only [rnA, if_neg hc3, if_neg hc4, if_neg hc5]; rfl) | (simp only [rnA, if_neg hc3, if_neg hc4, if_neg hc5]; simp only [nlit, nI_add, pk_mul]; done) | (simp only [rnA, if_neg hc3, if_neg hc4, if_neg hc5, nlit, nI_add, pk_mul]; done) | contradiction | (simp only [rnA, if_neg hc3, if_neg hc4, if_neg hc5, nlit, nI_add, pk_mul]; rfl), by first | contradiction | rfl | (simp only [rnA, if_neg hc3, if_neg hc4, if_neg hc5]; done) | (simp only [rnA, if_neg hc3, if_neg hc4, if_neg hc5]; rfl) | (simp only [rnA, if_neg hc3, if_neg hc4, if_neg hc5]; simp only [nlit, nI_add, pk_mul]; done) | (simp only [rnA, if_neg hc3, if_neg hc4, if_neg hc5, nlit, nI_add, pk_mul]; done) | contradiction | (simp only [rnA, if_neg hc3, if_neg hc4, if_neg hc5, nlit, nI_add, pk_mul]; rfl)⟩
      · refine x_run C 18 1 (pc' := 32) (lv' := [(0, .ref r0), (1, .int lo), (2, .int hi), (3, .int (nI (skB tp sz p))), (4, .int (dvI tp sz (skB tp sz p) (ndg tp sz (skB tp sz p))))]) (st' := [.ref r0]) rfl ?_
        refine x_cv C 19 (As := []) (rest := []) rfl vX2_52 N 0 rfl rfl (c_X2_look Y _ r0 t0 sz ((skB tp sz p) + (ndg tp sz (skB tp sz p))) t1 ts tp (-1) q0 qt0 qt1 (ovl_at 0 N rfl) (ovl_at 1 N rfl) (ovl_at 2 N rfl) (N.ov [0, 1, 2] (by decide) rfl) (by first | assumption | omega) (by first | assumption | omega) (by first | assumption | omega)) rfl rfl (Nat.le_of_ble_eq_true rfl) ⟨Nat.le_of_ble_eq_true rfl, Nat.le_of_ble_eq_true rfl⟩ ⟨Nat.zero_le _, Nat.zero_le _⟩ [0, 1, 2] ⟨rfl, rfl, rfl, trivial⟩ (os' := [(q0, (r0, cO 2 [.ref t0, .int (nI sz), .int (nI ((skB tp sz p) + (ndg tp sz (skB tp sz p)))), .int (-1)])), (qt0, (t0, cO 6 [.ref t1, .int (nI ts)])), (qt1, (t1, cB Y 4000 (bF tp)))]) rfl (st' := [.int (lkC tp sz ((skB tp sz p) + (ndg tp sz (skB tp sz p))))]) rfl ?_
        refine x_cs C 20 (As := [.int (lkC tp sz ((skB tp sz p) + (ndg tp sz (skB tp sz p))))]) (rest := []) rfl vX2_77 N (c_X2_isDigit Y _ (lkC tp sz ((skB tp sz p) + (ndg tp sz (skB tp sz p))))    ) rfl rfl (Nat.le_of_ble_eq_true rfl) ⟨Nat.le_of_ble_eq_true rfl, Nat.le_of_ble_eq_true rfl⟩ ⟨Nat.zero_le _, Nat.zero_le _⟩ [] trivial (os' := [(q0, (r0, cO 2 [.ref t0, .int (nI sz), .int (nI ((skB tp sz p) + (ndg tp sz (skB tp sz p)))), .int (-1)])), (qt0, (t0, cO 6 [.ref t1, .int (nI ts)])), (qt1, (t1, cB Y 4000 (bF tp)))]) rfl (st' := [.int (dgt (lkC tp sz ((skB tp sz p) + (ndg tp sz (skB tp sz p)))))]) rfl ?_
        refine x_if_eq C 21 rfl (tgt := 69) rfl (fun hc7 => ?_) (fun hc7 => ?_)
        · refine x_run C 38 1 (pc' := 70) (lv' := [(0, .ref r0), (1, .int lo), (2, .int hi), (3, .int (nI (skB tp sz p))), (4, .int (dvI tp sz (skB tp sz p) (ndg tp sz (skB tp sz p))))]) (st' := [.ref r0]) rfl ?_
          refine x_get C 39 rfl fX2_19 N 0 rfl (v := .int (nI ((skB tp sz p) + (ndg tp sz (skB tp sz p))))) rfl ?_
          refine x_run C 40 1 (pc' := 74) (lv' := [(0, .ref r0), (1, .int lo), (2, .int hi), (3, .int (nI (skB tp sz p))), (4, .int (dvI tp sz (skB tp sz p) (ndg tp sz (skB tp sz p))))]) (st' := [.int (nI (skB tp sz p)), .int (nI ((skB tp sz p) + (ndg tp sz (skB tp sz p))))]) rfl ?_
          refine x_icmpN_eq C 41 (by omega) (by omega) rfl (tgt := 89) rfl (fun hc8 => ?_) (fun hc8 => ?_)
          · refine x_run C 48 2 (pc' := 91) (lv' := [(0, .ref r0), (1, .int lo), (2, .int hi), (3, .int (nI (skB tp sz p))), (4, .int (dvI tp sz (skB tp sz p) (ndg tp sz (skB tp sz p))))]) (st' := [.int (nI (skB tp sz p)), .ref r0]) rfl ?_
            refine x_cv C 50 (As := [.int (nI (skB tp sz p))]) (rest := []) rfl vX2_60 N 0 rfl rfl (c_X2_fail Y _ r0 t0 sz ((skB tp sz p) + (ndg tp sz (skB tp sz p))) (-1) (skB tp sz p) q0 (ovl_at 0 N rfl) (N.ov [0] (by decide) rfl) ) rfl rfl (Nat.le_of_ble_eq_true rfl) ⟨Nat.le_of_ble_eq_true rfl, Nat.le_of_ble_eq_true rfl⟩ ⟨Nat.zero_le _, Nat.zero_le _⟩ [0] ⟨rfl, trivial⟩ (os' := [(q0, (r0, cO 2 [.ref t0, .int (nI sz), .int (nI ((skB tp sz p) + (ndg tp sz (skB tp sz p)))), .int (nI (skB tp sz p))])), (qt0, (t0, cO 6 [.ref t1, .int (nI ts)])), (qt1, (t1, cB Y 4000 (bF tp)))]) rfl (st' := []) rfl ?_
            refine x_run C 51 1 (pc' := 95) (lv' := [(0, .ref r0), (1, .int lo), (2, .int hi), (3, .int (nI (skB tp sz p))), (4, .int (dvI tp sz (skB tp sz p) (ndg tp sz (skB tp sz p))))]) (st' := [.int 0]) rfl ?_
            exact x_iret C B rfl 52 rfl (Nat.zero_le _) (Nat.zero_le _) ⟨by first | contradiction | rfl | (simp only [rnA, if_pos hc7, if_pos hc8]; done) | (simp only [rnA, if_pos hc7, if_pos hc8]; rfl) | (simp only [rnA, if_pos hc7, if_pos hc8]; simp only [nlit, nI_add, pk_mul]; done) | (simp only [rnA, if_pos hc7, if_pos hc8, nlit, nI_add, pk_mul]; done) | contradiction | (simp only [rnA, if_pos hc7, if_pos hc8, nlit, nI_add, pk_mul]; rfl), by first | contradiction | rfl | (simp only [rnA, if_pos hc7, if_pos hc8]; done) | (simp only [rnA, if_pos hc7, if_pos hc8]; rfl) | (simp only [rnA, if_pos hc7, if_pos hc8]; simp only [nlit, nI_add, pk_mul]; done) | (simp only [rnA, if_pos hc7, if_pos hc8, nlit, nI_add, pk_mul]; done) | contradiction | (simp only [rnA, if_pos hc7, if_pos hc8, nlit, nI_add, pk_mul]; rfl)⟩
          · refine x_run C 42 2 (pc' := 80) (lv' := [(0, .ref r0), (1, .int lo), (2, .int hi), (3, .int (nI (skB tp sz p))), (4, .int (dvI tp sz (skB tp sz p) (ndg tp sz (skB tp sz p))))]) (st' := [.int lo, .int (dvI tp sz (skB tp sz p) (ndg tp sz (skB tp sz p)))]) rfl ?_
            refine x_icmp_lt C 44 rfl (tgt := 89) rfl (fun hc9 => ?_) (fun hc9 => ?_)
            · refine x_run C 48 2 (pc' := 91) (lv' := [(0, .ref r0), (1, .int lo), (2, .int hi), (3, .int (nI (skB tp sz p))), (4, .int (dvI tp sz (skB tp sz p) (ndg tp sz (skB tp sz p))))]) (st' := [.int (nI (skB tp sz p)), .ref r0]) rfl ?_
              refine x_cv C 50 (As := [.int (nI (skB tp sz p))]) (rest := []) rfl vX2_60 N 0 rfl rfl (c_X2_fail Y _ r0 t0 sz ((skB tp sz p) + (ndg tp sz (skB tp sz p))) (-1) (skB tp sz p) q0 (ovl_at 0 N rfl) (N.ov [0] (by decide) rfl) ) rfl rfl (Nat.le_of_ble_eq_true rfl) ⟨Nat.le_of_ble_eq_true rfl, Nat.le_of_ble_eq_true rfl⟩ ⟨Nat.zero_le _, Nat.zero_le _⟩ [0] ⟨rfl, trivial⟩ (os' := [(q0, (r0, cO 2 [.ref t0, .int (nI sz), .int (nI ((skB tp sz p) + (ndg tp sz (skB tp sz p)))), .int (nI (skB tp sz p))])), (qt0, (t0, cO 6 [.ref t1, .int (nI ts)])), (qt1, (t1, cB Y 4000 (bF tp)))]) rfl (st' := []) rfl ?_
              refine x_run C 51 1 (pc' := 95) (lv' := [(0, .ref r0), (1, .int lo), (2, .int hi), (3, .int (nI (skB tp sz p))), (4, .int (dvI tp sz (skB tp sz p) (ndg tp sz (skB tp sz p))))]) (st' := [.int 0]) rfl ?_
              exact x_iret C B rfl 52 rfl (Nat.zero_le _) (Nat.zero_le _) ⟨by first | contradiction | rfl | (simp only [rnA, if_pos hc7, if_neg hc8, if_pos hc9]; done) | (simp only [rnA, if_pos hc7, if_neg hc8, if_pos hc9]; rfl) | (simp only [rnA, if_pos hc7, if_neg hc8, if_pos hc9]; simp only [nlit, nI_add, pk_mul]; done) | (simp only [rnA, if_pos hc7, if_neg hc8, if_pos hc9, nlit, nI_add, pk_mul]; done) | contradiction | (simp only [rnA, if_pos hc7, if_neg hc8, if_pos hc9, nlit, nI_add, pk_mul]; rfl), by first | contradiction | rfl | (simp only [rnA, if_pos hc7, if_neg hc8, if_pos hc9]; done) | (simp only [rnA, if_pos hc7, if_neg hc8, if_pos hc9]; rfl) | (simp only [rnA, if_pos hc7, if_neg hc8, if_pos hc9]; simp only [nlit, nI_add, pk_mul]; done) | (simp only [rnA, if_pos hc7, if_neg hc8, if_pos hc9, nlit, nI_add, pk_mul]; done) | contradiction | (simp only [rnA, if_pos hc7, if_neg hc8, if_pos hc9, nlit, nI_add, pk_mul]; rfl)⟩
            · refine x_run C 45 2 (pc' := 86) (lv' := [(0, .ref r0), (1, .int lo), (2, .int hi), (3, .int (nI (skB tp sz p))), (4, .int (dvI tp sz (skB tp sz p) (ndg tp sz (skB tp sz p))))]) (st' := [.int hi, .int (dvI tp sz (skB tp sz p) (ndg tp sz (skB tp sz p)))]) rfl ?_
              refine x_icmp_le C 47 rfl (tgt := 96) rfl (fun hc10 => ?_) (fun hc10 => ?_)
              · refine x_run C 53 1 (pc' := 97) (lv' := [(0, .ref r0), (1, .int lo), (2, .int hi), (3, .int (nI (skB tp sz p))), (4, .int (dvI tp sz (skB tp sz p) (ndg tp sz (skB tp sz p))))]) (st' := [.ref r0]) rfl ?_
                refine x_cv C 54 (As := []) (rest := []) rfl vX2_52 N 0 rfl rfl (c_X2_look Y _ r0 t0 sz ((skB tp sz p) + (ndg tp sz (skB tp sz p))) t1 ts tp (-1) q0 qt0 qt1 (ovl_at 0 N rfl) (ovl_at 1 N rfl) (ovl_at 2 N rfl) (N.ov [0, 1, 2] (by decide) rfl) (by first | assumption | omega) (by first | assumption | omega) (by first | assumption | omega)) rfl rfl (Nat.le_of_ble_eq_true rfl) ⟨Nat.le_of_ble_eq_true rfl, Nat.le_of_ble_eq_true rfl⟩ ⟨Nat.zero_le _, Nat.zero_le _⟩ [0, 1, 2] ⟨rfl, rfl, rfl, trivial⟩ (os' := [(q0, (r0, cO 2 [.ref t0, .int (nI sz), .int (nI ((skB tp sz p) + (ndg tp sz (skB tp sz p)))), .int (-1)])), (qt0, (t0, cO 6 [.ref t1, .int (nI ts)])), (qt1, (t1, cB Y 4000 (bF tp)))]) rfl (st' := [.int (lkC tp sz ((skB tp sz p) + (ndg tp sz (skB tp sz p))))]) rfl ?_
                refine x_cs C 55 (As := [.int (lkC tp sz ((skB tp sz p) + (ndg tp sz (skB tp sz p))))]) (rest := []) rfl vX2_77 N (c_X2_isDigit Y _ (lkC tp sz ((skB tp sz p) + (ndg tp sz (skB tp sz p))))    ) rfl rfl (Nat.le_of_ble_eq_true rfl) ⟨Nat.le_of_ble_eq_true rfl, Nat.le_of_ble_eq_true rfl⟩ ⟨Nat.zero_le _, Nat.zero_le _⟩ [] trivial (os' := [(q0, (r0, cO 2 [.ref t0, .int (nI sz), .int (nI ((skB tp sz p) + (ndg tp sz (skB tp sz p)))), .int (-1)])), (qt0, (t0, cO 6 [.ref t1, .int (nI ts)])), (qt1, (t1, cB Y 4000 (bF tp)))]) rfl (st' := [.int (dgt (lkC tp sz ((skB tp sz p) + (ndg tp sz (skB tp sz p)))))]) rfl ?_
                refine x_if_eq C 56 rfl (tgt := 114) rfl (fun hc11 => ?_) (fun hc11 => ?_)
                · refine x_run C 61 1 (pc' := 116) (lv' := [(0, .ref r0), (1, .int lo), (2, .int hi), (3, .int (nI (skB tp sz p))), (4, .int (dvI tp sz (skB tp sz p) (ndg tp sz (skB tp sz p))))]) (st' := [.int (dvI tp sz (skB tp sz p) (ndg tp sz (skB tp sz p)))]) rfl ?_
                  exact x_iret C B rfl 62 rfl (Nat.zero_le _) (Nat.zero_le _) ⟨by first | contradiction | rfl | (simp only [rnA, if_pos hc7, if_neg hc8, if_neg hc9, if_pos hc10, if_pos hc11]; done) | (simp only [rnA, if_pos hc7, if_neg hc8, if_neg hc9, if_pos hc10, if_pos hc11]; rfl) | (simp only [rnA, if_pos hc7, if_neg hc8, if_neg hc9, if_pos hc10, if_pos hc11]; simp only [nlit, nI_add, pk_mul]; done) | (simp only [rnA, if_pos hc7, if_neg hc8, if_neg hc9, if_pos hc10, if_pos hc11, nlit, nI_add, pk_mul]; done) | contradiction | (simp only [rnA, if_pos hc7, if_neg hc8, if_neg hc9, if_pos hc10, if_pos hc11, nlit, nI_add, pk_mul]; rfl), by first | contradiction | rfl | (simp only [rnA, if_pos hc7, if_neg hc8, if_neg hc9, if_pos hc10, if_pos hc11]; done) | (simp only [rnA, if_pos hc7, if_neg hc8, if_neg hc9, if_pos hc10, if_pos hc11]; rfl) | (simp only [rnA, if_pos hc7, if_neg hc8, if_neg hc9, if_pos hc10, if_pos hc11]; simp only [nlit, nI_add, pk_mul]; done) | (simp only [rnA, if_pos hc7, if_neg hc8, if_neg hc9, if_pos hc10, if_pos hc11, nlit, nI_add, pk_mul]; done) | contradiction | (simp only [rnA, if_pos hc7, if_neg hc8, if_neg hc9, if_pos hc10, if_pos hc11, nlit, nI_add, pk_mul]; rfl)⟩
                · refine x_run C 57 2 (pc' := 108) (lv' := [(0, .ref r0), (1, .int lo), (2, .int hi), (3, .int (nI (skB tp sz p))), (4, .int (dvI tp sz (skB tp sz p) (ndg tp sz (skB tp sz p))))]) (st' := [.ref r0, .ref r0]) rfl ?_
                  refine x_get C 59 rfl fX2_19 N 0 rfl (v := .int (nI ((skB tp sz p) + (ndg tp sz (skB tp sz p))))) rfl ?_
                  refine x_cv C 60 (As := [.int (nI ((skB tp sz p) + (ndg tp sz (skB tp sz p))))]) (rest := []) rfl vX2_60 N 0 rfl rfl (c_X2_fail Y _ r0 t0 sz ((skB tp sz p) + (ndg tp sz (skB tp sz p))) (-1) ((skB tp sz p) + (ndg tp sz (skB tp sz p))) q0 (ovl_at 0 N rfl) (N.ov [0] (by decide) rfl) ) rfl rfl (Nat.le_of_ble_eq_true rfl) ⟨Nat.le_of_ble_eq_true rfl, Nat.le_of_ble_eq_true rfl⟩ ⟨Nat.zero_le _, Nat.zero_le _⟩ [0] ⟨rfl, trivial⟩ (os' := [(q0, (r0, cO 2 [.ref t0, .int (nI sz), .int (nI ((skB tp sz p) + (ndg tp sz (skB tp sz p)))), .int (nI ((skB tp sz p) + (ndg tp sz (skB tp sz p))))])), (qt0, (t0, cO 6 [.ref t1, .int (nI ts)])), (qt1, (t1, cB Y 4000 (bF tp)))]) rfl (st' := []) rfl ?_
                  refine x_run C 61 1 (pc' := 116) (lv' := [(0, .ref r0), (1, .int lo), (2, .int hi), (3, .int (nI (skB tp sz p))), (4, .int (dvI tp sz (skB tp sz p) (ndg tp sz (skB tp sz p))))]) (st' := [.int (dvI tp sz (skB tp sz p) (ndg tp sz (skB tp sz p)))]) rfl ?_
                  exact x_iret C B rfl 62 rfl (Nat.zero_le _) (Nat.zero_le _) ⟨by first | contradiction | rfl | (simp only [rnA, if_pos hc7, if_neg hc8, if_neg hc9, if_pos hc10, if_neg hc11]; done) | (simp only [rnA, if_pos hc7, if_neg hc8, if_neg hc9, if_pos hc10, if_neg hc11]; rfl) | (simp only [rnA, if_pos hc7, if_neg hc8, if_neg hc9, if_pos hc10, if_neg hc11]; simp only [nlit, nI_add, pk_mul]; done) | (simp only [rnA, if_pos hc7, if_neg hc8, if_neg hc9, if_pos hc10, if_neg hc11, nlit, nI_add, pk_mul]; done) | contradiction | (simp only [rnA, if_pos hc7, if_neg hc8, if_neg hc9, if_pos hc10, if_neg hc11, nlit, nI_add, pk_mul]; rfl), by first | contradiction | rfl | (simp only [rnA, if_pos hc7, if_neg hc8, if_neg hc9, if_pos hc10, if_neg hc11]; done) | (simp only [rnA, if_pos hc7, if_neg hc8, if_neg hc9, if_pos hc10, if_neg hc11]; rfl) | (simp only [rnA, if_pos hc7, if_neg hc8, if_neg hc9, if_pos hc10, if_neg hc11]; simp only [nlit, nI_add, pk_mul]; done) | (simp only [rnA, if_pos hc7, if_neg hc8, if_neg hc9, if_pos hc10, if_neg hc11, nlit, nI_add, pk_mul]; done) | contradiction | (simp only [rnA, if_pos hc7, if_neg hc8, if_neg hc9, if_pos hc10, if_neg hc11, nlit, nI_add, pk_mul]; rfl)⟩
              · refine x_run C 48 2 (pc' := 91) (lv' := [(0, .ref r0), (1, .int lo), (2, .int hi), (3, .int (nI (skB tp sz p))), (4, .int (dvI tp sz (skB tp sz p) (ndg tp sz (skB tp sz p))))]) (st' := [.int (nI (skB tp sz p)), .ref r0]) rfl ?_
                refine x_cv C 50 (As := [.int (nI (skB tp sz p))]) (rest := []) rfl vX2_60 N 0 rfl rfl (c_X2_fail Y _ r0 t0 sz ((skB tp sz p) + (ndg tp sz (skB tp sz p))) (-1) (skB tp sz p) q0 (ovl_at 0 N rfl) (N.ov [0] (by decide) rfl) ) rfl rfl (Nat.le_of_ble_eq_true rfl) ⟨Nat.le_of_ble_eq_true rfl, Nat.le_of_ble_eq_true rfl⟩ ⟨Nat.zero_le _, Nat.zero_le _⟩ [0] ⟨rfl, trivial⟩ (os' := [(q0, (r0, cO 2 [.ref t0, .int (nI sz), .int (nI ((skB tp sz p) + (ndg tp sz (skB tp sz p)))), .int (nI (skB tp sz p))])), (qt0, (t0, cO 6 [.ref t1, .int (nI ts)])), (qt1, (t1, cB Y 4000 (bF tp)))]) rfl (st' := []) rfl ?_
                refine x_run C 51 1 (pc' := 95) (lv' := [(0, .ref r0), (1, .int lo), (2, .int hi), (3, .int (nI (skB tp sz p))), (4, .int (dvI tp sz (skB tp sz p) (ndg tp sz (skB tp sz p))))]) (st' := [.int 0]) rfl ?_
                exact x_iret C B rfl 52 rfl (Nat.zero_le _) (Nat.zero_le _) ⟨by first | contradiction | rfl | (simp only [rnA, if_pos hc7, if_neg hc8, if_neg hc9, if_neg hc10]; done) | (simp only [rnA, if_pos hc7, if_neg hc8, if_neg hc9, if_neg hc10]; rfl) | (simp only [rnA, if_pos hc7, if_neg hc8, if_neg hc9, if_neg hc10]; simp only [nlit, nI_add, pk_mul]; done) | (simp only [rnA, if_pos hc7, if_neg hc8, if_neg hc9, if_neg hc10, nlit, nI_add, pk_mul]; done) | contradiction | (simp only [rnA, if_pos hc7, if_neg hc8, if_neg hc9, if_neg hc10, nlit, nI_add, pk_mul]; rfl), by first | contradiction | rfl | (simp only [rnA, if_pos hc7, if_neg hc8, if_neg hc9, if_neg hc10]; done) | (simp only [rnA, if_pos hc7, if_neg hc8, if_neg hc9, if_neg hc10]; rfl) | (simp only [rnA, if_pos hc7, if_neg hc8, if_neg hc9, if_neg hc10]; simp only [nlit, nI_add, pk_mul]; done) | (simp only [rnA, if_pos hc7, if_neg hc8, if_neg hc9, if_neg hc10, nlit, nI_add, pk_mul]; done) | contradiction | (simp only [rnA, if_pos hc7, if_neg hc8, if_neg hc9, if_neg hc10, nlit, nI_add, pk_mul]; rfl)⟩
        · exact absurd (h8.2.2 (by omega)) hc7
    · intro k hi21 ih21 lo21
      refine x_run C 12 1 (pc' := 22) (lv' := [(0, .ref r0), (1, .int lo), (2, .int hi), (3, .int (nI (skB tp sz p))), (4, .int (dvI tp sz (skB tp sz p) k))]) (st' := [.ref r0]) rfl ?_
      refine x_get C 13 rfl fX2_19 N 0 rfl (v := .int (nI ((skB tp sz p) + k))) rfl ?_
      refine x_run C 14 3 (pc' := 28) (lv' := [(0, .ref r0), (1, .int lo), (2, .int hi), (3, .int (nI (skB tp sz p))), (4, .int (dvI tp sz (skB tp sz p) k))]) (st' := [.int ((nI (skB tp sz p)) + 4), .int (nI ((skB tp sz p) + k))]) rfl ?_
      refine x_st (st' := [.int (nI ((skB tp sz p) + 4)), .int (nI ((skB tp sz p) + k))]) (by simp only [nlit, nI_add, pk_mul]) ?_
      refine x_icmpN_ge C 17 (by omega) (by omega) rfl (tgt := 69) rfl (fun hc12 => ?_) (fun hc12 => ?_)
      · exact absurd hc12 (by omega)
      · refine x_run C 18 1 (pc' := 32) (lv' := [(0, .ref r0), (1, .int lo), (2, .int hi), (3, .int (nI (skB tp sz p))), (4, .int (dvI tp sz (skB tp sz p) k))]) (st' := [.ref r0]) rfl ?_
        refine x_cv C 19 (As := []) (rest := []) rfl vX2_52 N 0 rfl rfl (c_X2_look Y _ r0 t0 sz ((skB tp sz p) + k) t1 ts tp (-1) q0 qt0 qt1 (ovl_at 0 N rfl) (ovl_at 1 N rfl) (ovl_at 2 N rfl) (N.ov [0, 1, 2] (by decide) rfl) (by first | assumption | omega) (by first | assumption | omega) (by first | assumption | omega)) rfl rfl (Nat.le_of_ble_eq_true rfl) ⟨Nat.le_of_ble_eq_true rfl, Nat.le_of_ble_eq_true rfl⟩ ⟨Nat.zero_le _, Nat.zero_le _⟩ [0, 1, 2] ⟨rfl, rfl, rfl, trivial⟩ (os' := [(q0, (r0, cO 2 [.ref t0, .int (nI sz), .int (nI ((skB tp sz p) + k)), .int (-1)])), (qt0, (t0, cO 6 [.ref t1, .int (nI ts)])), (qt1, (t1, cB Y 4000 (bF tp)))]) rfl (st' := [.int (lkC tp sz ((skB tp sz p) + k))]) rfl ?_
        refine x_cs C 20 (As := [.int (lkC tp sz ((skB tp sz p) + k))]) (rest := []) rfl vX2_77 N (c_X2_isDigit Y _ (lkC tp sz ((skB tp sz p) + k))    ) rfl rfl (Nat.le_of_ble_eq_true rfl) ⟨Nat.le_of_ble_eq_true rfl, Nat.le_of_ble_eq_true rfl⟩ ⟨Nat.zero_le _, Nat.zero_le _⟩ [] trivial (os' := [(q0, (r0, cO 2 [.ref t0, .int (nI sz), .int (nI ((skB tp sz p) + k)), .int (-1)])), (qt0, (t0, cO 6 [.ref t1, .int (nI ts)])), (qt1, (t1, cB Y 4000 (bF tp)))]) rfl (st' := [.int (dgt (lkC tp sz ((skB tp sz p) + k)))]) rfl ?_
        refine x_if_eq C 21 rfl (tgt := 69) rfl (fun hc13 => ?_) (fun hc13 => ?_)
        · exact absurd hc13 (h8.2.1 k hi21)
        · refine x_run C 22 4 (pc' := 47) (lv' := [(0, .ref r0), (1, .int lo), (2, .int hi), (3, .int (nI (skB tp sz p))), (4, .int (dvI tp sz (skB tp sz p) k))]) (st' := [.ref r0, .int (10 * (dvI tp sz (skB tp sz p) k))]) rfl ?_
          refine x_cv C 26 (As := []) (rest := [.int (10 * (dvI tp sz (skB tp sz p) k))]) rfl vX2_52 N 0 rfl rfl (c_X2_look Y _ r0 t0 sz ((skB tp sz p) + k) t1 ts tp (-1) q0 qt0 qt1 (ovl_at 0 N rfl) (ovl_at 1 N rfl) (ovl_at 2 N rfl) (N.ov [0, 1, 2] (by decide) rfl) (by first | assumption | omega) (by first | assumption | omega) (by first | assumption | omega)) rfl rfl (Nat.le_of_ble_eq_true rfl) ⟨Nat.le_of_ble_eq_true rfl, Nat.le_of_ble_eq_true rfl⟩ ⟨Nat.zero_le _, Nat.zero_le _⟩ [0, 1, 2] ⟨rfl, rfl, rfl, trivial⟩ (os' := [(q0, (r0, cO 2 [.ref t0, .int (nI sz), .int (nI ((skB tp sz p) + k)), .int (-1)])), (qt0, (t0, cO 6 [.ref t1, .int (nI ts)])), (qt1, (t1, cB Y 4000 (bF tp)))]) rfl (st' := [.int (lkC tp sz ((skB tp sz p) + k)), .int (10 * (dvI tp sz (skB tp sz p) k))]) rfl ?_
          refine x_run C 27 6 (pc' := 58) (lv' := [(4, .int (((10 * (dvI tp sz (skB tp sz p) k)) + (lkC tp sz ((skB tp sz p) + k))) - 48)), (0, .ref r0), (1, .int lo), (2, .int hi), (3, .int (nI (skB tp sz p)))]) (st' := [.ref r0, .ref r0]) rfl ?_
          refine x_get C 33 rfl fX2_19 N 0 rfl (v := .int (nI ((skB tp sz p) + k))) rfl ?_
          refine x_run C 34 2 (pc' := 63) (lv' := [(4, .int (((10 * (dvI tp sz (skB tp sz p) k)) + (lkC tp sz ((skB tp sz p) + k))) - 48)), (0, .ref r0), (1, .int lo), (2, .int hi), (3, .int (nI (skB tp sz p)))]) (st' := [.int ((nI ((skB tp sz p) + k)) + 1), .ref r0]) rfl ?_
          refine x_put C 36 rfl pX2_19 N 0 rfl rfl rfl (Nat.le_of_ble_eq_true rfl) (os' := [(q0, (r0, cO 2 [.ref t0, .int (nI sz), .int ((nI ((skB tp sz p) + k)) + 1), .int (-1)])), (qt0, (t0, cO 6 [.ref t1, .int (nI ts)])), (qt1, (t1, cB Y 4000 (bF tp)))]) rfl ?_
          refine x_run C 37 1 (pc' := 21) (lv' := [(4, .int (((10 * (dvI tp sz (skB tp sz p) k)) + (lkC tp sz ((skB tp sz p) + k))) - 48)), (0, .ref r0), (1, .int lo), (2, .int hi), (3, .int (nI (skB tp sz p)))]) (st' := []) rfl ?_
          refine x_sub (lv' := [(0, .ref r0), (1, .int lo), (2, .int hi), (3, .int (nI (skB tp sz p))), (4, .int (((10 * (dvI tp sz (skB tp sz p) k)) + (lkC tp sz ((skB tp sz p) + k))) - 48))]) [1, 2, 3, 4, 0] rfl ?_
          refine x_loc (lv' := [(0, .ref r0), (1, .int lo), (2, .int hi), (3, .int (nI (skB tp sz p))), (4, .int (dvI tp sz (skB tp sz p) (k + 1)))]) (by rfl) ?_
          refine x_ov (os' := [(q0, (r0, cO 2 [.ref t0, .int (nI sz), .int (nI ((skB tp sz p) + (k + 1))), .int (-1)])), (qt0, (t0, cO 6 [.ref t1, .int (nI ts)])), (qt1, (t1, cB Y 4000 (bF tp)))]) (by simp only [nlit, nI_add, Nat.add_assoc]) ?_
          exact ih21 (by omega)
  refine x_sub (lv' := [(0, .ref r0), (1, .int lo), (2, .int hi), (3, .int (nI (skB tp sz p))), (4, .int 0)]) [2, 3, 4, 1, 0] rfl ?_
  refine x_loc (lv' := [(0, .ref r0), (1, .int lo), (2, .int hi), (3, .int (nI (skB tp sz p))), (4, .int (dvI tp sz (skB tp sz p) 0))]) (by rfl) ?_
  refine x_ov (os' := [(q0, (r0, cO 2 [.ref t0, .int (nI sz), .int (nI ((skB tp sz p) + 0)), .int (-1)])), (qt0, (t0, cO 6 [.ref t1, .int (nI ts)])), (qt1, (t1, cB Y 4000 (bF tp)))]) (by rw [Nat.add_zero]) ?_
  exact L21 0 (Nat.le_refl _) (by omega)
set_option maxHeartbeats 4000000 in
set_option maxRecDepth 100000 in
theorem c_X2_readNumberN (Y : xD) (w : va_W) (r0 : Nat) (t0 : Nat) (sz : Nat) (p : Nat) (t1 : Nat) (ts : Nat) (tp : Nat → Nat) (fp : Int32) (lo : Int32) (hi : Int32) (q0 qt0 qt1 : Nat) (e0 : w[q0]? = some (r0, cO 2 [.ref t0, .int (nI sz), .int (nI p), .int fp])) (e1 : w[qt0]? = some (t0, cO 6 [.ref t1, .int (nI ts)])) (e2 : w[qt1]? = some (t1, cB Y 4000 (bF tp))) (N : xN w.length [q0, qt0, qt1]) (hp : p ≤ 100000) (hsz : sz ≤ 4000) (ht : ∀ j, tp j < 256) (hfp : ¬ fp = -1) : Cf Y mX2_readNumber 3 [.ref r0, .int lo, .int hi] w (some (.int 0)) [(q0, (r0, cO 2 [.ref t0, .int (nI sz), .int (nI p), .int fp])), (qt0, (t0, cO 6 [.ref t1, .int (nI ts)])), (qt1, (t1, cB Y 4000 (bF tp)))] := by
  refine Ct.intro (T := tX2_readNumber) (by decide) oX2_readNumber (Nat.le_of_ble_eq_true rfl) (fun G C B => ?_)
  refine x_lay [(q0, (r0, cO 2 [.ref t0, .int (nI sz), .int (nI p), .int fp])), (qt0, (t0, cO 6 [.ref t1, .int (nI ts)])), (qt1, (t1, cB Y 4000 (bF tp)))] (lay_cons e0 (lay_cons e1 (lay_cons e2 lay_nil))) ?_
  refine x_run C 0 1 (pc' := 1) (lv' := [(0, .ref r0), (1, .int lo), (2, .int hi)]) (st' := [.ref r0]) rfl ?_
  refine x_cv C 1 (As := []) (rest := []) rfl vX2_45 N 0 rfl rfl (c_X2_isFineF Y _ r0 t0 sz p fp q0 (ovl_at 0 N rfl) (N.ov [0] (by decide) rfl) (by first | assumption | omega)) rfl rfl (Nat.le_of_ble_eq_true rfl) ⟨Nat.le_of_ble_eq_true rfl, Nat.le_of_ble_eq_true rfl⟩ ⟨Nat.zero_le _, Nat.zero_le _⟩ [0] ⟨rfl, trivial⟩ (os' := [(q0, (r0, cO 2 [.ref t0, .int (nI sz), .int (nI p), .int fp])), (qt0, (t0, cO 6 [.ref t1, .int (nI ts)])), (qt1, (t1, cB Y 4000 (bF tp)))]) rfl (st' := [.int 0]) rfl ?_
  refine x_st (st' := [.int (nI 0)]) (by simp only [nlit, nI_add, pk_mul]) ?_
  refine x_ifN_ne C 2 (by omega) rfl (tgt := 9) rfl (fun hc1 => absurd hc1 (by omega)) (fun hc1 => ?_)
  refine x_run C 3 1 (pc' := 8) (lv' := [(0, .ref r0), (1, .int lo), (2, .int hi)]) (st' := [.int 0]) rfl ?_
  exact x_iret C B rfl 4 rfl (Nat.zero_le _) (Nat.zero_le _) ⟨by first | rfl | (simp only [nlit, nI_add, pk_mul]; done), by first | rfl | (simp only [nlit, nI_add, pk_mul]; done)⟩
set_option maxHeartbeats 4000000 in
theorem c_X2_readNumber (Y : xD) (w : va_W) (r0 : Nat) (t0 : Nat) (sz : Nat) (p : Nat) (t1 : Nat) (ts : Nat) (tp : Nat → Nat) (fp : Int32) (lo : Int32) (hi : Int32) (q0 qt0 qt1 : Nat) (e0 : w[q0]? = some (r0, cO 2 [.ref t0, .int (nI sz), .int (nI p), .int fp])) (e1 : w[qt0]? = some (t0, cO 6 [.ref t1, .int (nI ts)])) (e2 : w[qt1]? = some (t1, cB Y 4000 (bF tp))) (N : xN w.length [q0, qt0, qt1]) (hp : p ≤ 100000) (hsz : sz ≤ 4000) (ht : ∀ j, tp j < 256) : Cf Y mX2_readNumber 3 [.ref r0, .int lo, .int hi] w (some (.int ((rnG tp sz lo hi p fp).1))) [(q0, (r0, cO 2 [.ref t0, .int (nI sz), .int (nI (rnG tp sz lo hi p fp).2.1), .int ((rnG tp sz lo hi p fp).2.2)])), (qt0, (t0, cO 6 [.ref t1, .int (nI ts)])), (qt1, (t1, cB Y 4000 (bF tp)))] := by
  by_cases hfp : fp = -1
  · subst hfp
    have h := c_X2_readNumberA Y w r0 t0 sz p t1 ts tp lo hi q0 qt0 qt1 e0 e1 e2 N hp hsz ht
    simp only [rnG, if_pos rfl]
    exact h
  · have h := c_X2_readNumberN Y w r0 t0 sz p t1 ts tp fp lo hi q0 qt0 qt1 e0 e1 e2 N hp hsz ht hfp
    simp only [rnG, if_neg hfp]
    exact h
