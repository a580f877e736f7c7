/-! ===== the reference's reading beside the class's ===== -/
def flt (wr x : Int32) : Int32 := if 0 ≤ wr then wr else x
/-- the fault behind a number read from p on -/
def mnW (tp : Nat → Nat) (e : Nat) (lo hi : Int32) (p : Nat) (wr : Int32) : Int32 :=
  if dvI tp e p (ndg tp e p) < lo then flt (if dgt (lkC tp e p) = 0 then flt wr (nI p) else wr) (nI p)
  else if hi < dvI tp e p (ndg tp e p) then flt (if dgt (lkC tp e p) = 0 then flt wr (nI p) else wr) (nI p)
  else (if dgt (lkC tp e p) = 0 then flt wr (nI p) else wr)
def mtK (tp : Nat → Nat) (e p : Nat) (wr : Int32) : Nat × Int32 := if 0 ≤ wr then (p, wr) else (skB tp e p + 1, if lkC tp e (skB tp e p) = 59 then wr else flt wr (nI (skB tp e p)))
theorem neg1 : ¬ (0 : Int32) ≤ -1 := by decide
theorem nI_nn {p : Nat} (h : p < 2 ^ 31) : 0 ≤ nI p := by
  rw [Int32.le_iff_toInt_le, nI_toInt h]
  show (0 : Int) ≤ ((p : Nat) : Int)
  omega
theorem nI_n1 {p : Nat} (h : p < 2 ^ 31) : ¬ nI p = -1 := fun z => neg1 (z ▸ nI_nn h)
theorem flt_n {x : Int32} : flt (-1) x = x := if_neg neg1
theorem flt_p {wr x : Int32} (h : 0 ≤ wr) : flt wr x = wr := if_pos h
theorem mnW_k {tp : Nat → Nat} {e : Nat} {lo hi : Int32} {p : Nat} {wr : Int32} (h : 0 ≤ wr) : mnW tp e lo hi p wr = wr := by
  unfold mnW
  rw [flt_p h, show (if dgt (lkC tp e p) = 0 then wr else wr) = wr from ite_self _, flt_p h, ite_self, ite_self]
theorem mtK_k {tp : Nat → Nat} {e p : Nat} {wr : Int32} (h : 0 ≤ wr) : mtK tp e p wr = (p, wr) := if_pos h
theorem ndg_0 {tp : Nat → Nat} {e p : Nat} : ndg tp e p = 0 ↔ dgt (lkC tp e p) = 0 := by
  unfold ndg ndF
  split
  · rename_i h; exact ⟨fun _ => h, fun _ => rfl⟩
  · rename_i h; exact ⟨fun z => absurd z (by omega), fun z => absurd z h⟩
theorem mnW_1 {tp : Nat → Nat} {e : Nat} {lo hi : Int32} {p : Nat} (hp : p < 2 ^ 31) : mnW tp e lo hi p (-1) = if ndg tp e p = 0 then nI p else if dvI tp e p (ndg tp e p) < lo then nI p else if hi < dvI tp e p (ndg tp e p) then nI p else -1 := by
  unfold mnW
  rw [flt_n]
  by_cases h : ndg tp e p = 0
  · rw [if_pos h, if_pos (ndg_0.mp h), flt_p (nI_nn hp), ite_self, ite_self]
  · rw [if_neg h, if_neg (fun z => h (ndg_0.mpr z)), flt_n]
theorem mnW_c {tp : Nat → Nat} {e : Nat} {lo hi : Int32} {p : Nat} (hp : p < 2 ^ 31) : mnW tp e lo hi p (-1) = -1 ∨ mnW tp e lo hi p (-1) = nI p := by
  rw [mnW_1 hp]
  repeat' split
  all_goals first | exact Or.inl rfl | exact Or.inr rfl
/-- a number of the class by the reference's -/
theorem rnA_m {tp : Nat → Nat} {e : Nat} {lo hi : Int32} {p : Nat} (hp : skB tp e p < 2 ^ 31) : (mnW tp e lo hi (skB tp e p) (-1) = -1 ∧ rnA tp e lo hi p = (dvI tp e (skB tp e p) (ndg tp e (skB tp e p)), skB tp e p + ndg tp e (skB tp e p), if dgt (lkC tp e (skB tp e p + ndg tp e (skB tp e p))) = 0 then -1 else nI (skB tp e p + ndg tp e (skB tp e p)))) ∨ (mnW tp e lo hi (skB tp e p) (-1) = nI (skB tp e p) ∧ (rnA tp e lo hi p).2.2 = nI (skB tp e p)) := by
  rw [mnW_1 hp]
  unfold rnA
  by_cases h0 : ndg tp e (skB tp e p) = 0
  · rw [if_pos h0, if_pos (show skB tp e p + ndg tp e (skB tp e p) = skB tp e p by omega)]
    exact Or.inr ⟨rfl, rfl⟩
  · rw [if_neg h0, if_neg (show ¬ skB tp e p + ndg tp e (skB tp e p) = skB tp e p by omega)]
    by_cases h1 : dvI tp e (skB tp e p) (ndg tp e (skB tp e p)) < lo
    · rw [if_pos h1, if_pos h1]
      exact Or.inr ⟨rfl, rfl⟩
    · rw [if_neg h1, if_neg h1]
      by_cases h2 : hi < dvI tp e (skB tp e p) (ndg tp e (skB tp e p))
      · rw [if_pos h2, if_neg (Int32.not_le.mpr h2)]
        exact Or.inr ⟨rfl, rfl⟩
      · rw [if_neg h2, if_pos (Int32.not_lt.mp h2)]
        refine Or.inl ⟨rfl, ?_⟩
        split <;> rfl
theorem dgt_32 {c : Int32} (h : ¬ dgt c = 0) : ¬ c = 32 := fun z => h (by subst z; decide)
theorem dgt_59 {c : Int32} (h : ¬ dgt c = 0) : ¬ c = 59 := fun z => h (by subst z; decide)
theorem dgt_n1 {c : Int32} (h : ¬ dgt c = 0) : ¬ c = -1 := fun z => h (by subst z; decide)
theorem skB_stay {tp : Nat → Nat} {e p : Nat} (h : ¬ lkC tp e p = 32) : skB tp e p = p := by
  obtain ⟨a, b, c, d⟩ := skB_spec tp e p
  by_cases hp : skB tp e p = p
  · exact hp
  · have := skB_in (tp := tp) (sz := e) (p := p) (k := 0) (by omega)
    rw [Nat.add_zero] at this
    exact absurd this.2 h
theorem skB_idem {tp : Nat → Nat} (ht : ∀ j, tp j < 256) {e p : Nat} : skB tp e (skB tp e p) = skB tp e p := by
  apply skB_stay
  intro z
  by_cases h : skB tp e p < e
  · have := skB_no (tp := tp) (sz := e) (p := p) ht (by rw [skB_add]; exact h)
    rw [skB_add] at this
    exact this z
  · unfold lkC at z
    rw [if_neg h] at z
    exact absurd z (by decide)
/-- a number and the mark behind it -/
theorem num_take {tp : Nat → Nat} {e : Nat} (he : e ≤ 4000) {lo hi : Int32} {p : Nat} (hp : p < 100000) : (rmG tp e 59 (rnA tp e lo hi p).2.1 (rnA tp e lo hi p).2.2).2 = (mtK tp e (skB tp e p + ndg tp e (skB tp e p)) (mnW tp e lo hi (skB tp e p) (-1))).2 ∧ ((rmG tp e 59 (rnA tp e lo hi p).2.1 (rnA tp e lo hi p).2.2).2 = -1 → (rmG tp e 59 (rnA tp e lo hi p).2.1 (rnA tp e lo hi p).2.2).1 = (mtK tp e (skB tp e p + ndg tp e (skB tp e p)) (mnW tp e lo hi (skB tp e p) (-1))).1 ∧ (rnA tp e lo hi p).2.2 = -1 ∧ (rnA tp e lo hi p).1 = dvI tp e (skB tp e p) (ndg tp e (skB tp e p)) ∧ mnW tp e lo hi (skB tp e p) (-1) = -1) := by
  have h9 := skB_spec tp e p
  have h8 := ndg_spec tp e (skB tp e p)
  rcases rnA_m (tp := tp) (e := e) (lo := lo) (hi := hi) (p := p) (by omega) with ⟨a, b⟩ | ⟨a, b⟩
  · rw [a, b]
    generalize hs : skB tp e p + ndg tp e (skB tp e p) = s at *
    by_cases hd : dgt (lkC tp e s) = 0
    · simp only [if_pos hd]
      unfold rmG rmA mtK
      rw [if_pos rfl, if_neg neg1, flt_n]
      by_cases h : lkC tp e (skB tp e s) = 59
      · rw [if_pos h, if_pos h]
        exact ⟨rfl, fun _ => ⟨by first | rfl | trivial, by first | rfl | trivial, by first | rfl | trivial, by first | rfl | trivial⟩⟩
      · rw [if_neg h, if_neg h]
        have h7 := skB_spec tp e s
        exact ⟨rfl, fun z => absurd z (nI_n1 (by omega))⟩
    · simp only [if_neg hd]
      have hn : ¬ nI s = -1 := nI_n1 (by omega)
      unfold rmG mtK
      rw [if_neg hn, if_neg neg1, flt_n, skB_stay (dgt_32 hd), if_neg (dgt_59 hd)]
      exact ⟨rfl, fun z => absurd z hn⟩
  · have hn : ¬ nI (skB tp e p) = -1 := nI_n1 (by omega)
    unfold rmG
    rw [a, b, if_neg hn, mtK_k (nI_nn (by omega))]
    exact ⟨rfl, fun z => absurd z hn⟩
/-- a gate's two numbers, the reference's way: left, right, place, fault -/
def mgA (tp : Nat → Nat) (e : Nat) (s : Int32) (h p : Nat) : Int32 × Int32 × Nat × Int32 :=
  if s = 33 then (dvI tp e (skB tp e p) (ndg tp e (skB tp e p)), -9, skB tp e p + ndg tp e (skB tp e p), mnW tp e 0 (nI h) (skB tp e p) (-1))
  else if 0 ≤ mnW tp e 0 (nI h) (skB tp e p) (-1) then (dvI tp e (skB tp e p) (ndg tp e (skB tp e p)), -9, skB tp e p + ndg tp e (skB tp e p), mnW tp e 0 (nI h) (skB tp e p) (-1))
  else
    (dvI tp e (skB tp e p) (ndg tp e (skB tp e p)), dvI tp e (skB tp e (skB tp e p + ndg tp e (skB tp e p))) (ndg tp e (skB tp e (skB tp e p + ndg tp e (skB tp e p)))), skB tp e (skB tp e p + ndg tp e (skB tp e p)) + ndg tp e (skB tp e (skB tp e p + ndg tp e (skB tp e p))),
      mnW tp e 0 (nI h) (skB tp e (skB tp e p + ndg tp e (skB tp e p))) (if lkC tp e (skB tp e p + ndg tp e (skB tp e p)) = 32 then mnW tp e 0 (nI h) (skB tp e p) (-1) else flt (mnW tp e 0 (nI h) (skB tp e p) (-1)) (nI (skB tp e p + ndg tp e (skB tp e p)))))
theorem rgA_m {tp : Nat → Nat} {e : Nat} (he : e ≤ 4000) {s : Int32} {h p : Nat} (hp : p < 50000) : (rmG tp e 59 (rgA tp e s h p).2.2.1 (rgA tp e s h p).2.2.2).2 = (mtK tp e (mgA tp e s h p).2.2.1 (mgA tp e s h p).2.2.2).2 ∧ ((rmG tp e 59 (rgA tp e s h p).2.2.1 (rgA tp e s h p).2.2.2).2 = -1 → (rmG tp e 59 (rgA tp e s h p).2.2.1 (rgA tp e s h p).2.2.2).1 = (mtK tp e (mgA tp e s h p).2.2.1 (mgA tp e s h p).2.2.2).1 ∧ (rgA tp e s h p).2.2.2 = -1 ∧ (rgA tp e s h p).1 = (mgA tp e s h p).1 ∧ (rgA tp e s h p).2.1 = (mgA tp e s h p).2.1) := by
  have h9 := skB_spec tp e p
  have h8 := ndg_spec tp e (skB tp e p)
  have g1 : rnG tp e 0 (nI h) p (-1) = rnA tp e 0 (nI h) p := if_pos rfl
  by_cases hs : s = 33
  · have c1 : rgA tp e s h p = ((rnA tp e 0 (nI h) p).1, -9, (rnA tp e 0 (nI h) p).2.1, (rnA tp e 0 (nI h) p).2.2) := by
      unfold rgA
      rw [if_pos hs, g1]
    have m1 : mgA tp e s h p = (dvI tp e (skB tp e p) (ndg tp e (skB tp e p)), -9, skB tp e p + ndg tp e (skB tp e p), mnW tp e 0 (nI h) (skB tp e p) (-1)) := if_pos hs
    rw [c1, m1]
    have := num_take (tp := tp) he (lo := 0) (hi := nI h) (p := p) (by omega)
    exact ⟨this.1, fun z => ⟨(this.2 z).1, (this.2 z).2.1, (this.2 z).2.2.1, rfl⟩⟩
  · have c1 : rgA tp e s h p = ((rnA tp e 0 (nI h) p).1, (rnG tp e 0 (nI h) (rnA tp e 0 (nI h) p).2.1 (rnA tp e 0 (nI h) p).2.2).1, (rnG tp e 0 (nI h) (rnA tp e 0 (nI h) p).2.1 (rnA tp e 0 (nI h) p).2.2).2.1, (rnG tp e 0 (nI h) (rnA tp e 0 (nI h) p).2.1 (rnA tp e 0 (nI h) p).2.2).2.2) := by
      unfold rgA
      rw [if_neg hs, g1]
    rw [c1]
    unfold mgA
    rw [if_neg hs]
    rcases rnA_m (tp := tp) (e := e) (lo := 0) (hi := nI h) (p := p) (by omega) with ⟨a, b⟩ | ⟨a, b⟩
    · rw [a, b, if_neg neg1, flt_n]
      generalize hq : skB tp e p + ndg tp e (skB tp e p) = q at *
      have h7 := skB_spec tp e q
      by_cases hd : dgt (lkC tp e q) = 0
      · simp only [if_pos hd]
        rw [show rnG tp e 0 (nI h) q (-1) = rnA tp e 0 (nI h) q from if_pos rfl]
        by_cases h32 : lkC tp e q = 32
        · rw [if_pos h32]
          have := num_take (tp := tp) he (lo := 0) (hi := nI h) (p := q) (by omega)
          exact ⟨this.1, fun z => ⟨(this.2 z).1, (this.2 z).2.1, by first | rfl | trivial, (this.2 z).2.2.1⟩⟩
        · rw [if_neg h32]
          have hn : 0 ≤ nI q := nI_nn (by omega)
          have h1 : ¬ nI q = -1 := nI_n1 (by omega)
          have f : (rnA tp e 0 (nI h) q).2.2 = nI q := by
            unfold rnA
            rw [skB_stay h32, if_pos (by rw [ndg_0.mpr hd]; omega)]
          rw [mnW_k hn, mtK_k hn, f]
          unfold rmG
          rw [if_neg h1]
          exact ⟨rfl, fun z => absurd z h1⟩
      · simp only [if_neg hd]
        have hn : 0 ≤ nI q := nI_nn (by omega)
        have h1 : ¬ nI q = -1 := nI_n1 (by omega)
        rw [if_neg (dgt_32 hd), mnW_k hn, mtK_k hn]
        have : rnG tp e 0 (nI h) q (nI q) = (0, q, nI q) := if_neg h1
        rw [this]
        unfold rmG
        rw [if_neg h1]
        exact ⟨rfl, fun z => absurd z h1⟩
    · have hn : 0 ≤ nI (skB tp e p) := nI_nn (by omega)
      have h1 : ¬ nI (skB tp e p) = -1 := nI_n1 (by omega)
      rw [a, if_pos hn, b]
      have : rnG tp e 0 (nI h) (rnA tp e 0 (nI h) p).2.1 (nI (skB tp e p)) = (0, (rnA tp e 0 (nI h) p).2.1, nI (skB tp e p)) := if_neg h1
      rw [this, mtK_k hn]
      unfold rmG
      rw [if_neg h1]
      exact ⟨rfl, fun z => absurd z h1⟩
/-- what stands in front of circuit c is as it was -/
abbrev kpM (c : Nat) (a0 a1 a2 a3 b0 b1 b2 b3 d : Nat → Int32) (i1 g1 o1 t1 s1 l1 r1 n1 p1 : Nat → Int32) : Prop := (∀ k, k < c → i1 k = a0 k ∧ g1 k = a1 k ∧ o1 k = a2 k ∧ t1 k = a3 k) ∧ (∀ j, j < 40 * c → s1 j = b0 j ∧ l1 j = b1 j ∧ r1 j = b2 j ∧ n1 j = b3 j) ∧ (∀ j, j < 8 * c → p1 j = d j)
theorem kpM.a {c : Nat} {a0 a1 a2 a3 b0 b1 b2 b3 d : Nat → Int32} {i1 g1 o1 t1 s1 l1 r1 n1 p1 : Nat → Int32} (R_ : kpM c a0 a1 a2 a3 b0 b1 b2 b3 d i1 g1 o1 t1 s1 l1 r1 n1 p1) : ∀ k, k < c → i1 k = a0 k ∧ g1 k = a1 k ∧ o1 k = a2 k ∧ t1 k = a3 k := R_.1
theorem kpM.b {c : Nat} {a0 a1 a2 a3 b0 b1 b2 b3 d : Nat → Int32} {i1 g1 o1 t1 s1 l1 r1 n1 p1 : Nat → Int32} (R_ : kpM c a0 a1 a2 a3 b0 b1 b2 b3 d i1 g1 o1 t1 s1 l1 r1 n1 p1) : ∀ j, j < 40 * c → s1 j = b0 j ∧ l1 j = b1 j ∧ r1 j = b2 j ∧ n1 j = b3 j := R_.2.1
theorem kpM.d {c : Nat} {a0 a1 a2 a3 b0 b1 b2 b3 d : Nat → Int32} {i1 g1 o1 t1 s1 l1 r1 n1 p1 : Nat → Int32} (R_ : kpM c a0 a1 a2 a3 b0 b1 b2 b3 d i1 g1 o1 t1 s1 l1 r1 n1 p1) : ∀ j, j < 8 * c → p1 j = d j := R_.2.2
/-- i gates read without a fault -/
abbrev gR (tp : Nat → Nat) (e n c i : Nat) (Q Q0 : rQ) (p : Nat) (i1 g1 o1 t1 s1 l1 r1 n1 : Nat → Int32) : Prop := (p = skB tp e Q.1) ∧ (Q.1 ≤ 5000 + 20 * i) ∧ (Q.2.1 = -1) ∧ (Q.2.2.1 = i) ∧ (i1 c = nI n) ∧ (g1 c = nI i) ∧ (o1 c = nI 0) ∧ (t1 c = nI Q.2.2.2.1) ∧ (Q.2.2.2.1 ≤ i) ∧ (∀ j, j < i → s1 (40 * c + j) = Q.2.2.2.2.1 j ∧ l1 (40 * c + j) = Q.2.2.2.2.2.1 j ∧ r1 (40 * c + j) = Q.2.2.2.2.2.2.1 j ∧ n1 (40 * c + j) = Q.2.2.2.2.2.2.2 j) ∧ (rgN tp e n 41 0 Q0 = rgN tp e n (41 - i) i Q)
theorem gR.hp {tp : Nat → Nat} {e n c i : Nat} {Q Q0 : rQ} {p : Nat} {i1 g1 o1 t1 s1 l1 r1 n1 : Nat → Int32} (R_ : gR tp e n c i Q Q0 p i1 g1 o1 t1 s1 l1 r1 n1) : p = skB tp e Q.1 := R_.1
theorem gR.b {tp : Nat → Nat} {e n c i : Nat} {Q Q0 : rQ} {p : Nat} {i1 g1 o1 t1 s1 l1 r1 n1 : Nat → Int32} (R_ : gR tp e n c i Q Q0 p i1 g1 o1 t1 s1 l1 r1 n1) : Q.1 ≤ 5000 + 20 * i := R_.2.1
theorem gR.f {tp : Nat → Nat} {e n c i : Nat} {Q Q0 : rQ} {p : Nat} {i1 g1 o1 t1 s1 l1 r1 n1 : Nat → Int32} (R_ : gR tp e n c i Q Q0 p i1 g1 o1 t1 s1 l1 r1 n1) : Q.2.1 = -1 := R_.2.2.1
theorem gR.g {tp : Nat → Nat} {e n c i : Nat} {Q Q0 : rQ} {p : Nat} {i1 g1 o1 t1 s1 l1 r1 n1 : Nat → Int32} (R_ : gR tp e n c i Q Q0 p i1 g1 o1 t1 s1 l1 r1 n1) : Q.2.2.1 = i := R_.2.2.2.1
theorem gR.hn {tp : Nat → Nat} {e n c i : Nat} {Q Q0 : rQ} {p : Nat} {i1 g1 o1 t1 s1 l1 r1 n1 : Nat → Int32} (R_ : gR tp e n c i Q Q0 p i1 g1 o1 t1 s1 l1 r1 n1) : i1 c = nI n := R_.2.2.2.2.1
theorem gR.gc {tp : Nat → Nat} {e n c i : Nat} {Q Q0 : rQ} {p : Nat} {i1 g1 o1 t1 s1 l1 r1 n1 : Nat → Int32} (R_ : gR tp e n c i Q Q0 p i1 g1 o1 t1 s1 l1 r1 n1) : g1 c = nI i := R_.2.2.2.2.2.1
theorem gR.o {tp : Nat → Nat} {e n c i : Nat} {Q Q0 : rQ} {p : Nat} {i1 g1 o1 t1 s1 l1 r1 n1 : Nat → Int32} (R_ : gR tp e n c i Q Q0 p i1 g1 o1 t1 s1 l1 r1 n1) : o1 c = nI 0 := R_.2.2.2.2.2.2.1
theorem gR.t {tp : Nat → Nat} {e n c i : Nat} {Q Q0 : rQ} {p : Nat} {i1 g1 o1 t1 s1 l1 r1 n1 : Nat → Int32} (R_ : gR tp e n c i Q Q0 p i1 g1 o1 t1 s1 l1 r1 n1) : t1 c = nI Q.2.2.2.1 := R_.2.2.2.2.2.2.2.1
theorem gR.tl {tp : Nat → Nat} {e n c i : Nat} {Q Q0 : rQ} {p : Nat} {i1 g1 o1 t1 s1 l1 r1 n1 : Nat → Int32} (R_ : gR tp e n c i Q Q0 p i1 g1 o1 t1 s1 l1 r1 n1) : Q.2.2.2.1 ≤ i := R_.2.2.2.2.2.2.2.2.1
theorem gR.s {tp : Nat → Nat} {e n c i : Nat} {Q Q0 : rQ} {p : Nat} {i1 g1 o1 t1 s1 l1 r1 n1 : Nat → Int32} (R_ : gR tp e n c i Q Q0 p i1 g1 o1 t1 s1 l1 r1 n1) : ∀ j, j < i → s1 (40 * c + j) = Q.2.2.2.2.1 j ∧ l1 (40 * c + j) = Q.2.2.2.2.2.1 j ∧ r1 (40 * c + j) = Q.2.2.2.2.2.2.1 j ∧ n1 (40 * c + j) = Q.2.2.2.2.2.2.2 j := R_.2.2.2.2.2.2.2.2.2.1
theorem gR.r {tp : Nat → Nat} {e n c i : Nat} {Q Q0 : rQ} {p : Nat} {i1 g1 o1 t1 s1 l1 r1 n1 : Nat → Int32} (R_ : gR tp e n c i Q Q0 p i1 g1 o1 t1 s1 l1 r1 n1) : rgN tp e n 41 0 Q0 = rgN tp e n (41 - i) i Q := R_.2.2.2.2.2.2.2.2.2.2
theorem kpM_0 {c : Nat} {a0 a1 a2 a3 b0 b1 b2 b3 d i1 g1 o1 t1 s1 l1 r1 n1 p1 : Nat → Int32} (F : kpM c a0 a1 a2 a3 b0 b1 b2 b3 d i1 g1 o1 t1 s1 l1 r1 n1 p1) (g : Nat) (v1 v2 v3 v4 v5 v6 : Int32) : kpM c a0 a1 a2 a3 b0 b1 b2 b3 d i1 (upd g1 c v1) o1 (upd t1 c v2) (upd s1 (40 * c + g) v3) (upd l1 (40 * c + g) v4) (upd r1 (40 * c + g) v5) (upd n1 (40 * c + g) v6) p1 := by
  refine ⟨fun k hk => ?_, fun j hj => ?_, F.d⟩
  · rw [upd_ne _ _ (by omega), upd_ne _ _ (by omega)]
    exact F.a k hk
  · rw [upd_ne _ _ (by omega), upd_ne _ _ (by omega), upd_ne _ _ (by omega), upd_ne _ _ (by omega)]
    exact F.b j hj
/-- a gate that the class reads, beside the reference's -/
theorem gR_s {tp : Nat → Nat} {e n c i : Nat} {Q Q0 : rQ} {p : Nat} {i1 g1 o1 t1 s1 l1 r1 n1 : Nat → Int32} (he : e ≤ 4000) (R : gR tp e n c i Q Q0 p i1 g1 o1 t1 s1 l1 r1 n1) (hi : i < 40) (h62 : ¬ lkC tp e p = 62) (hS : ¬ isS (lkC tp e p) = 0) :
    (stQ tp e n Q).2.1 = (mtK tp e (mgA tp e (lkC tp e p) (n + i - 1) (p + 1)).2.2.1 (mgA tp e (lkC tp e p) (n + i - 1) (p + 1)).2.2.2).2 ∧ (¬ (stQ tp e n Q).2.1 = -1 → (rgN tp e n 41 0 Q0).2.1 = (stQ tp e n Q).2.1) ∧ ((stQ tp e n Q).2.1 = -1 → ∀ p', p' = skB tp e (mtK tp e (mgA tp e (lkC tp e p) (n + i - 1) (p + 1)).2.2.1 (mgA tp e (lkC tp e p) (n + i - 1) (p + 1)).2.2.2).1 →
      gR tp e n c (i + 1) (stQ tp e n Q) Q0 p' i1 (upd g1 c (nI (i + 1))) o1 (upd t1 c (nI (Q.2.2.2.1 + tnI (lkC tp e p)))) (upd s1 (40 * c + i) (lkC tp e p)) (upd l1 (40 * c + i) (mgA tp e (lkC tp e p) (n + i - 1) (p + 1)).1) (upd r1 (40 * c + i) (mgA tp e (lkC tp e p) (n + i - 1) (p + 1)).2.1) (upd n1 (40 * c + i) (tnV (lkC tp e p) Q.2.2.2.1))) := by
  have h9 := skB_spec tp e Q.1
  have hb := R.b
  have hp := R.hp
  have hg : gtA tp e n Q = rgA tp e (lkC tp e p) (n + i - 1) (p + 1) := by
    unfold gtA
    rw [R.g, ← R.hp]
  have K := rgA_m (tp := tp) he (s := lkC tp e p) (h := n + i - 1) (p := p + 1) (by omega)
  rw [← hg] at K
  have e1 : (stQ tp e n Q).2.1 = (rmG tp e 59 (gtA tp e n Q).2.2.1 (gtA tp e n Q).2.2.2).2 := rfl
  have rr : rgN tp e n 41 0 Q0 = rgN tp e n (41 - (i + 1)) (i + 1) (stQ tp e n Q) := by
    rw [R.r, rgN_s (by omega), if_pos R.f, ← R.hp, if_neg h62, if_neg (by omega), if_neg hS]
  refine ⟨e1.trans K.1, fun hn => ?_, fun hz p' hp' => ?_⟩
  · rw [rr]
    obtain ⟨m, hm⟩ : ∃ m, 41 - (i + 1) = m + 1 := ⟨41 - (i + 1) - 1, by omega⟩
    rw [hm]
    show (if (stQ tp e n Q).2.1 = -1 then _ else stQ tp e n Q).2.1 = _
    rw [if_neg hn]
  · have Kz := K.2 (e1 ▸ hz)
    obtain ⟨k1, k2, k3, k4⟩ := Kz
    have q1 : (stQ tp e n Q).1 = (mtK tp e (mgA tp e (lkC tp e p) (n + i - 1) (p + 1)).2.2.1 (mgA tp e (lkC tp e p) (n + i - 1) (p + 1)).2.2.2).1 := k1
    have q3 : (stQ tp e n Q).2.2 = (Q.2.2.1 + 1, Q.2.2.2.1 + tnI (lkC tp e (skB tp e Q.1)), upd Q.2.2.2.2.1 Q.2.2.1 (lkC tp e (skB tp e Q.1)), upd Q.2.2.2.2.2.1 Q.2.2.1 (gtA tp e n Q).1, upd Q.2.2.2.2.2.2.1 Q.2.2.1 (gtA tp e n Q).2.1, upd Q.2.2.2.2.2.2.2 Q.2.2.1 (tnV (lkC tp e (skB tp e Q.1)) Q.2.2.2.1)) := by
      unfold stQ
      simp only [if_pos k2]
    have bd : (stQ tp e n Q).1 ≤ 5000 + 20 * (i + 1) := by
      have l1 := rmG_le tp he 59 (gtA tp e n Q).2.2.1 (gtA tp e n Q).2.2.2
      have l2 := rgA_le tp he (lkC tp e (skB tp e Q.1)) (n + Q.2.2.1 - 1) (skB tp e Q.1 + 1)
      have e2 : (stQ tp e n Q).1 = (rmG tp e 59 (gtA tp e n Q).2.2.1 (gtA tp e n Q).2.2.2).1 := rfl
      have e3 : gtA tp e n Q = rgA tp e (lkC tp e (skB tp e Q.1)) (n + Q.2.2.1 - 1) (skB tp e Q.1 + 1) := rfl
      rw [e2]
      rw [← e3] at l2
      omega
    have tni : tnI (lkC tp e p) ≤ 1 := by
      unfold tnI
      repeat' split
      all_goals omega
    have tl := R.tl
    rw [← R.hp, R.g] at q3
    refine ⟨hp'.trans (by rw [q1]), bd, hz, ?_, R.hn, upd_at _ _ _, R.o, ?_, ?_, ?_, rr⟩
    · rw [q3]
    · rw [q3]; exact upd_at _ _ _
    · rw [q3]; show Q.2.2.2.1 + tnI (lkC tp e p) ≤ i + 1; omega
    · intro j hj
      rw [q3]
      by_cases hji : j = i
      · subst hji
        refine ⟨?_, ?_, ?_, ?_⟩
        · show upd _ _ _ _ = upd _ _ _ _
          rw [upd_at, upd_at]
        · show upd _ _ _ _ = upd _ _ _ _
          rw [upd_at, upd_at, k3]
        · show upd _ _ _ _ = upd _ _ _ _
          rw [upd_at, upd_at, k4]
        · show upd _ _ _ _ = upd _ _ _ _
          rw [upd_at, upd_at]
      · have := R.s j (by omega)
        refine ⟨?_, ?_, ?_, ?_⟩
        · show upd _ _ _ _ = upd _ _ _ _
          rw [upd_ne _ _ (by omega), upd_ne _ _ hji]; exact this.1
        · show upd _ _ _ _ = upd _ _ _ _
          rw [upd_ne _ _ (by omega), upd_ne _ _ hji]; exact this.2.1
        · show upd _ _ _ _ = upd _ _ _ _
          rw [upd_ne _ _ (by omega), upd_ne _ _ hji]; exact this.2.2.1
        · show upd _ _ _ _ = upd _ _ _ _
          rw [upd_ne _ _ (by omega), upd_ne _ _ hji]; exact this.2.2.2
theorem gR_F {tp : Nat → Nat} {e n c i : Nat} {Q Q0 : rQ} {p : Nat} {i1 g1 o1 t1 s1 l1 r1 n1 : Nat → Int32} (R : gR tp e n c i Q Q0 p i1 g1 o1 t1 s1 l1 r1 n1) (hi : i ≤ 40) (h62 : ¬ lkC tp e p = 62) (hS : i = 40 ∨ isS (lkC tp e p) = 0) : (rgN tp e n 41 0 Q0).2.1 = nI p := by
  rw [R.r, rgN_s (by omega), if_pos R.f, ← R.hp, if_neg h62]
  by_cases h : i = 40
  · rw [if_pos h]
  · rw [if_neg h, if_pos (hS.resolve_left h)]
theorem gR_E {tp : Nat → Nat} {e n c i : Nat} {Q Q0 : rQ} {p : Nat} {i1 g1 o1 t1 s1 l1 r1 n1 : Nat → Int32} (R : gR tp e n c i Q Q0 p i1 g1 o1 t1 s1 l1 r1 n1) (hi : i ≤ 40) (h62 : lkC tp e p = 62) : rgN tp e n 41 0 Q0 = (p + 1, -1, Q.2.2) := by
  rw [R.r, rgN_s (by omega), if_pos R.f, ← R.hp, if_pos h62]
/-- i outputs read without a fault -/
abbrev oR (tp : Nat → Nat) (e v c i : Nat) (Q Q0 : oQ) (p : Nat) (ap : Int32) (o1 p1 : Nat → Int32) : Prop := (p = skB tp e Q.1) ∧ (Q.1 ≤ 10000 + 20 * i) ∧ (Q.2.1 = -1) ∧ (Q.2.2.1 = i) ∧ (ap = if i = 0 then 1 else if lkC tp e Q.1 = 32 then 1 else 0) ∧ (0 < i → dgt (lkC tp e Q.1) = 0) ∧ (o1 c = nI i) ∧ (∀ j, j < i → p1 (8 * c + j) = Q.2.2.2 j) ∧ (roN tp e v 9 0 Q0 = roN tp e v (9 - i) i Q)
theorem oR.hp {tp : Nat → Nat} {e v c i : Nat} {Q Q0 : oQ} {p : Nat} {ap : Int32} {o1 p1 : Nat → Int32} (R_ : oR tp e v c i Q Q0 p ap o1 p1) : p = skB tp e Q.1 := R_.1
theorem oR.b {tp : Nat → Nat} {e v c i : Nat} {Q Q0 : oQ} {p : Nat} {ap : Int32} {o1 p1 : Nat → Int32} (R_ : oR tp e v c i Q Q0 p ap o1 p1) : Q.1 ≤ 10000 + 20 * i := R_.2.1
theorem oR.f {tp : Nat → Nat} {e v c i : Nat} {Q Q0 : oQ} {p : Nat} {ap : Int32} {o1 p1 : Nat → Int32} (R_ : oR tp e v c i Q Q0 p ap o1 p1) : Q.2.1 = -1 := R_.2.2.1
theorem oR.g {tp : Nat → Nat} {e v c i : Nat} {Q Q0 : oQ} {p : Nat} {ap : Int32} {o1 p1 : Nat → Int32} (R_ : oR tp e v c i Q Q0 p ap o1 p1) : Q.2.2.1 = i := R_.2.2.2.1
theorem oR.hap {tp : Nat → Nat} {e v c i : Nat} {Q Q0 : oQ} {p : Nat} {ap : Int32} {o1 p1 : Nat → Int32} (R_ : oR tp e v c i Q Q0 p ap o1 p1) : ap = if i = 0 then 1 else if lkC tp e Q.1 = 32 then 1 else 0 := R_.2.2.2.2.1
theorem oR.dg {tp : Nat → Nat} {e v c i : Nat} {Q Q0 : oQ} {p : Nat} {ap : Int32} {o1 p1 : Nat → Int32} (R_ : oR tp e v c i Q Q0 p ap o1 p1) : 0 < i → dgt (lkC tp e Q.1) = 0 := R_.2.2.2.2.2.1
theorem oR.o {tp : Nat → Nat} {e v c i : Nat} {Q Q0 : oQ} {p : Nat} {ap : Int32} {o1 p1 : Nat → Int32} (R_ : oR tp e v c i Q Q0 p ap o1 p1) : o1 c = nI i := R_.2.2.2.2.2.2.1
theorem oR.s {tp : Nat → Nat} {e v c i : Nat} {Q Q0 : oQ} {p : Nat} {ap : Int32} {o1 p1 : Nat → Int32} (R_ : oR tp e v c i Q Q0 p ap o1 p1) : ∀ j, j < i → p1 (8 * c + j) = Q.2.2.2 j := R_.2.2.2.2.2.2.2.1
theorem oR.r {tp : Nat → Nat} {e v c i : Nat} {Q Q0 : oQ} {p : Nat} {ap : Int32} {o1 p1 : Nat → Int32} (R_ : oR tp e v c i Q Q0 p ap o1 p1) : roN tp e v 9 0 Q0 = roN tp e v (9 - i) i Q := R_.2.2.2.2.2.2.2.2
theorem lk_n1 {tp : Nat → Nat} {e p : Nat} (ht : ∀ j, tp j < 256) : lkC tp e p = -1 ↔ ¬ p < e := by
  unfold lkC
  constructor
  · intro h hp
    rw [if_pos hp] at h
    have := ht p
    exact nI_n1 (by omega) h
  · intro h
    rw [if_neg h]
theorem oR_E {tp : Nat → Nat} {e v c i : Nat} {Q Q0 : oQ} {p : Nat} {ap : Int32} {o1 p1 : Nat → Int32} (ht : ∀ j, tp j < 256) (R : oR tp e v c i Q Q0 p ap o1 p1) (hi : i ≤ 8) (h0 : 0 < i) (hp : ¬ p < e) : roN tp e v 9 0 Q0 = (p, -1, Q.2.2) := by
  rw [R.r, roN_s (by omega), if_pos R.f, ← R.hp, if_pos ⟨h0, (lk_n1 ht).mpr hp⟩]
theorem oR_F {tp : Nat → Nat} {e v c i : Nat} {Q Q0 : oQ} {p : Nat} {ap : Int32} {o1 p1 : Nat → Int32} (ht : ∀ j, tp j < 256) (he : e ≤ 4000) (R : oR tp e v c i Q Q0 p ap o1 p1) (hi : i ≤ 8) (hp : p < e ∨ i = 0) (h8 : i = 8 ∨ ap = 0) : (roN tp e v 9 0 Q0).2.1 = nI p := by
  have hn : ¬ (0 < i ∧ lkC tp e p = -1) := fun z => by
    have := (lk_n1 ht).mp z.2
    omega
  rw [R.r, roN_s (by omega), if_pos R.f, ← R.hp, if_neg hn]
  by_cases h : i = 8
  · rw [if_pos h]
  · rw [if_neg h]
    have a0 := h8.resolve_left h
    have hi0 : ¬ i = 0 := by
      intro z
      have := R.hap
      rw [if_pos z, a0] at this
      exact absurd this (by decide)
    have h32 : ¬ lkC tp e Q.1 = 32 := by
      intro z
      have := R.hap
      rw [if_neg hi0, if_pos z, a0] at this
      exact absurd this (by decide)
    have hpp : p = Q.1 := R.hp.trans (skB_stay h32)
    have hd := R.dg (by omega)
    have f : (onA tp e v Q).2.2 = nI p := by
      unfold onA
      rw [← R.hp]
      unfold rnG rnA
      rw [if_pos rfl, hpp, skB_stay h32, if_pos (show Q.1 + ndg tp e Q.1 = Q.1 by rw [ndg_0.mpr hd]; omega)]
    have hb := R.b
    have hn1 : ¬ (onA tp e v Q).2.2 = -1 := by
      rw [f]
      have h9 := skB_spec tp e Q.1
      exact nI_n1 (by omega)
    have z : (sOQ tp e v Q).2.1 = nI p := by
      rw [sOQ_f hn1]
      exact f
    obtain ⟨m, hm⟩ : ∃ m, 9 - (i + 1) = m + 1 := ⟨9 - (i + 1) - 1, by omega⟩
    rw [hm]
    show (if (sOQ tp e v Q).2.1 = -1 then _ else sOQ tp e v Q).2.1 = _
    rw [if_neg (by rw [z, ← f]; exact hn1), z]
/-- a number of the outputs: the fault; a digit too many; fine -/
theorem oR_s {tp : Nat → Nat} {e v c i : Nat} {Q Q0 : oQ} {p : Nat} {ap : Int32} {o1 p1 : Nat → Int32} (ht : ∀ j, tp j < 256) (he : e ≤ 4000) (R : oR tp e v c i Q Q0 p ap o1 p1) (hi : i < 8) (hp : p < e ∨ i = 0) :
    (0 ≤ mnW tp e 0 (nI (v - 1)) p (-1) ∧ (roN tp e v 9 0 Q0).2.1 = mnW tp e 0 (nI (v - 1)) p (-1)) ∨
    (mnW tp e 0 (nI (v - 1)) p (-1) = -1 ∧ ¬ dgt (lkC tp e (p + ndg tp e p)) = 0 ∧ (roN tp e v 9 0 Q0).2.1 = nI (p + ndg tp e p)) ∨
    (mnW tp e 0 (nI (v - 1)) p (-1) = -1 ∧ ∀ p', p' = skB tp e (p + ndg tp e p) → oR tp e v c (i + 1) (sOQ tp e v Q) Q0 p' (if lkC tp e (p + ndg tp e p) = 32 then 1 else 0) (upd o1 c (nI (i + 1))) (upd p1 (8 * c + i) (dvI tp e p (ndg tp e p)))) := by
  have h9 := skB_spec tp e Q.1
  have hb := R.b
  have hpp := R.hp
  have h8 := ndg_spec tp e p
  have hn : ¬ (0 < i ∧ lkC tp e p = -1) := fun z => by
    have := (lk_n1 ht).mp z.2
    omega
  have rr : roN tp e v 9 0 Q0 = roN tp e v (9 - (i + 1)) (i + 1) (sOQ tp e v Q) := by
    rw [R.r, roN_s (by omega), if_pos R.f, ← R.hp, if_neg hn, if_neg (by omega)]
  have hF : ∀ x, ¬ x = -1 → (onA tp e v Q).2.2 = x → (roN tp e v 9 0 Q0).2.1 = x := by
    intro x hx hq
    rw [rr]
    have hn1 : ¬ (onA tp e v Q).2.2 = -1 := by rw [hq]; exact hx
    have z : (sOQ tp e v Q).2.1 = x := by
      rw [sOQ_f hn1]
      exact hq
    obtain ⟨m, hm⟩ : ∃ m, 9 - (i + 1) = m + 1 := ⟨9 - (i + 1) - 1, by omega⟩
    rw [hm]
    show (if (sOQ tp e v Q).2.1 = -1 then _ else sOQ tp e v Q).2.1 = _
    rw [if_neg (by rw [z]; exact hx), z]
  have hs : skB tp e p = p := by rw [R.hp]; exact skB_idem ht
  have eA : onA tp e v Q = rnA tp e 0 (nI (v - 1)) p := by
    unfold onA
    rw [← R.hp]
    exact if_pos rfl
  have K := rnA_m (tp := tp) (e := e) (lo := 0) (hi := nI (v - 1)) (p := p) (by rw [hs]; omega)
  rw [hs, ← eA] at K
  rcases K with ⟨a, b⟩ | ⟨a, b⟩
  · by_cases hd : dgt (lkC tp e (p + ndg tp e p)) = 0
    · rw [if_pos hd] at b
      refine Or.inr (Or.inr ⟨a, fun p' hp' => ?_⟩)
      have hz : (onA tp e v Q).2.2 = -1 := by rw [b]
      have q := sOQ_t hz
      rw [b, R.g] at q
      refine ⟨?_, ?_, ?_, ?_, ?_, ?_, upd_at _ _ _, ?_, rr⟩
      · rw [q]; exact hp'
      · rw [q]; show p + ndg tp e p ≤ _; omega
      · rw [q]
      · rw [q]
      · rw [q, if_neg (show ¬ i + 1 = 0 by omega)]
      · intro _; rw [q]; exact hd
      · intro j hj
        rw [q]
        show upd _ _ _ _ = upd _ _ _ _
        by_cases hji : j = i
        · subst hji
          rw [upd_at, upd_at]
        · rw [upd_ne _ _ (by omega), upd_ne _ _ hji]
          exact R.s j (by omega)
    · rw [if_neg hd] at b
      refine Or.inr (Or.inl ⟨a, hd, hF _ (nI_n1 (by omega)) (by rw [b])⟩)
  · refine Or.inl ⟨?_, ?_⟩
    · rw [a]; exact nI_nn (by omega)
    · rw [a]; exact hF _ (nI_n1 (by omega)) b
/-! ===== the whole text ===== -/
theorem roN_f {tp : Nat → Nat} {e v : Nat} {Q : oQ} (h : ¬ Q.2.1 = -1) : roN tp e v 9 0 Q = Q := by
  have k := roN_s (tp := tp) (sz := e) (v := v) (i := 0) (by decide) Q
  rw [if_neg h] at k
  exact k
theorem rgN_k {tp : Nat → Nat} {e n : Nat} {Q : rQ} (h : ¬ Q.2.1 = -1) : rgN tp e n 41 0 Q = Q := by
  have k := rgN_s (tp := tp) (sz := e) (n := n) (i := 0) (by decide) Q
  rw [if_neg h] at k
  exact k
theorem F_Q {tp : Nat → Nat} {e : Nat} {a b c d o : Nat → Int32} (h : ¬ (pcQ tp e a b c d).2.1 = -1) : (pcO tp e a b c d o).2.1 = (pcQ tp e a b c d).2.1 := by
  unfold pcO
  generalize pcQ tp e a b c d = Q at h ⊢
  rw [roN_f (Q := (Q.1, Q.2.1, 0, o)) h]
theorem F_M {tp : Nat → Nat} {e : Nat} {a b c d o : Nat → Int32} (h : ¬ (pcM tp e).2 = -1) : (pcO tp e a b c d o).2.1 = (pcM tp e).2 := by
  have k : pcQ tp e a b c d = ((pcM tp e).1, (pcM tp e).2, 0, 0, a, b, c, d) := rgN_k (Q := ((pcM tp e).1, (pcM tp e).2, 0, 0, a, b, c, d)) h
  rw [F_Q (by rw [k]; exact h), k]
theorem pcM_2 {tp : Nat → Nat} {e : Nat} (he : e ≤ 4000) : (pcM tp e).2 = (mtK tp e (skB tp e 0 + ndg tp e (skB tp e 0)) (mnW tp e 1 16 (skB tp e 0) (-1))).2 := by
  have g1 : rnG tp e 1 16 0 (-1) = rnA tp e 1 16 0 := if_pos rfl
  unfold pcM
  rw [g1]
  exact (num_take he (by decide)).1
theorem pcM_1 {tp : Nat → Nat} {e : Nat} (he : e ≤ 4000) (h : (pcM tp e).2 = -1) : dvI tp e (skB tp e 0) (ndg tp e (skB tp e 0)) = nI (pcN tp e) ∧ 1 ≤ pcN tp e ∧ pcN tp e ≤ 16 ∧ (pcM tp e).1 = skB tp e (skB tp e 0 + ndg tp e (skB tp e 0)) + 1 ∧ (pcM tp e).1 ≤ 5000 := by
  have g1 : rnG tp e 1 16 0 (-1) = rnA tp e 1 16 0 := if_pos rfl
  have h9 := skB_spec tp e 0
  have h8 := ndg_spec tp e (skB tp e 0)
  have h7 := skB_spec tp e (skB tp e 0 + ndg tp e (skB tp e 0))
  have rn := rn_nat tp he 1 16 (p := 0) (by decide) (-1) (by decide) (by decide)
  unfold pcM at h ⊢
  rw [g1] at h ⊢
  have K := (num_take (tp := tp) he (lo := 1) (hi := 16) (p := 0) (by decide)).2 h
  obtain ⟨k1, k2, k3, k4⟩ := K
  change (rnG tp e 1 16 0 (-1)).1 = nI (pcN tp e) ∧ pcN tp e ≤ 16 ∧ ((rnG tp e 1 16 0 (-1)).2.2 = -1 → 1 ≤ pcN tp e) at rn
  rw [g1] at rn
  refine ⟨k3.symm.trans rn.1, rn.2.2 k2, rn.2.1, ?_, ?_⟩
  · rw [k1, k4]
    unfold mtK
    rw [if_neg neg1]
  · rw [k1, k4]
    unfold mtK
    rw [if_neg neg1]
    show skB tp e _ + 1 ≤ 5000
    omega
theorem mtK_le (tp : Nat → Nat) {e : Nat} (he : e ≤ 4000) (p : Nat) (w : Int32) : (mtK tp e p w).1 ≤ p + 1 ∨ (mtK tp e p w).1 ≤ 4001 := by
  have h9 := skB_spec tp e p
  unfold mtK
  split
  · simp only; omega
  · simp only; omega
theorem mgA_le (tp : Nat → Nat) {e : Nat} (he : e ≤ 4000) (s : Int32) (h p : Nat) : (mgA tp e s h p).2.2.1 ≤ p + 8 ∨ (mgA tp e s h p).2.2.1 ≤ 4008 := by
  have h9 := skB_spec tp e p
  have h8 := ndg_spec tp e (skB tp e p)
  have h7 := skB_spec tp e (skB tp e p + ndg tp e (skB tp e p))
  have h6 := ndg_spec tp e (skB tp e (skB tp e p + ndg tp e (skB tp e p)))
  unfold mgA
  repeat' split
  all_goals (simp only; omega)
/-- the gates as they are read at last -/
abbrev gE (c n : Nat) (Q : rQ) (i1 g1 t1 s1 l1 r1 n1 : Nat → Int32) : Prop := (i1 c = nI n) ∧ (g1 c = nI Q.2.2.1) ∧ (t1 c = nI Q.2.2.2.1) ∧ (∀ j, j < Q.2.2.1 → s1 (40 * c + j) = Q.2.2.2.2.1 j ∧ l1 (40 * c + j) = Q.2.2.2.2.2.1 j ∧ r1 (40 * c + j) = Q.2.2.2.2.2.2.1 j ∧ n1 (40 * c + j) = Q.2.2.2.2.2.2.2 j) ∧ (Q.2.2.1 ≤ 40)
theorem gE.hn {c n : Nat} {Q : rQ} {i1 g1 t1 s1 l1 r1 n1 : Nat → Int32} (R_ : gE c n Q i1 g1 t1 s1 l1 r1 n1) : i1 c = nI n := R_.1
theorem gE.hg {c n : Nat} {Q : rQ} {i1 g1 t1 s1 l1 r1 n1 : Nat → Int32} (R_ : gE c n Q i1 g1 t1 s1 l1 r1 n1) : g1 c = nI Q.2.2.1 := R_.2.1
theorem gE.ht {c n : Nat} {Q : rQ} {i1 g1 t1 s1 l1 r1 n1 : Nat → Int32} (R_ : gE c n Q i1 g1 t1 s1 l1 r1 n1) : t1 c = nI Q.2.2.2.1 := R_.2.2.1
theorem gE.s {c n : Nat} {Q : rQ} {i1 g1 t1 s1 l1 r1 n1 : Nat → Int32} (R_ : gE c n Q i1 g1 t1 s1 l1 r1 n1) : ∀ j, j < Q.2.2.1 → s1 (40 * c + j) = Q.2.2.2.2.1 j ∧ l1 (40 * c + j) = Q.2.2.2.2.2.1 j ∧ r1 (40 * c + j) = Q.2.2.2.2.2.2.1 j ∧ n1 (40 * c + j) = Q.2.2.2.2.2.2.2 j := R_.2.2.2.1
theorem gE.g4 {c n : Nat} {Q : rQ} {i1 g1 t1 s1 l1 r1 n1 : Nat → Int32} (R_ : gE c n Q i1 g1 t1 s1 l1 r1 n1) : Q.2.2.1 ≤ 40 := R_.2.2.2.2
theorem gR_gE {tp : Nat → Nat} {e n c i : Nat} {Q Q0 : rQ} {p : Nat} {i1 g1 o1 t1 s1 l1 r1 n1 : Nat → Int32} (R : gR tp e n c i Q Q0 p i1 g1 o1 t1 s1 l1 r1 n1) (hi : i ≤ 40) (h62 : lkC tp e p = 62) : gE c n (rgN tp e n 41 0 Q0) i1 g1 t1 s1 l1 r1 n1 := by
  rw [gR_E R hi h62]
  have g := R.g
  refine ⟨R.hn, ?_, R.t, ?_, ?_⟩
  · rw [R.gc, R.g]
  · intro j hj
    exact R.s j (by rw [← R.g]; exact hj)
  · show Q.2.2.1 ≤ 40; omega
theorem kpM_o {c : Nat} {a0 a1 a2 a3 b0 b1 b2 b3 d i1 g1 o1 t1 s1 l1 r1 n1 p1 : Nat → Int32} (F : kpM c a0 a1 a2 a3 b0 b1 b2 b3 d i1 g1 o1 t1 s1 l1 r1 n1 p1) (i : Nat) (v1 v2 : Int32) : kpM c a0 a1 a2 a3 b0 b1 b2 b3 d i1 g1 (upd o1 c v1) t1 s1 l1 r1 n1 (upd p1 (8 * c + i) v2) := by
  refine ⟨fun k hk => ?_, F.b, fun j hj => ?_⟩
  · rw [upd_ne _ _ (by omega)]
    exact F.a k hk
  · rw [upd_ne _ _ (by omega)]
    exact F.d j hj
theorem kpM_i (c : Nat) (a0 a1 a2 a3 b0 b1 b2 b3 d : Nat → Int32) (v1 v2 v3 v4 : Int32) : kpM c a0 a1 a2 a3 b0 b1 b2 b3 d (upd a0 c v1) (upd a1 c v2) (upd a2 c v3) (upd a3 c v4) b0 b1 b2 b3 d := by
  refine ⟨fun k hk => ?_, fun j hj => ⟨rfl, rfl, rfl, rfl⟩, fun j hj => rfl⟩
  rw [upd_ne _ _ (by omega), upd_ne _ _ (by omega), upd_ne _ _ (by omega), upd_ne _ _ (by omega)]
  exact ⟨rfl, rfl, rfl, rfl⟩
/-- what the reference keeps of a text without a fault -/
abbrev cOK (tp : Nat → Nat) (e c : Nat) (sgA lfA rtA tnA ouA : Nat → Int32) (i1 g1 o1 t1 s1 l1 r1 n1 p1 : Nat → Int32) : Prop := ((pcO tp e sgA lfA rtA tnA ouA).2.1 = -1) ∧ (gE c (pcN tp e) (pcQ tp e sgA lfA rtA tnA) i1 g1 t1 s1 l1 r1 n1) ∧ (o1 c = nI (pcO tp e sgA lfA rtA tnA ouA).2.2.1) ∧ (∀ j, j < (pcO tp e sgA lfA rtA tnA ouA).2.2.1 → p1 (8 * c + j) = (pcO tp e sgA lfA rtA tnA ouA).2.2.2 j)
theorem cOK.f {tp : Nat → Nat} {e c : Nat} {sgA lfA rtA tnA ouA : Nat → Int32} {i1 g1 o1 t1 s1 l1 r1 n1 p1 : Nat → Int32} (R_ : cOK tp e c sgA lfA rtA tnA ouA i1 g1 o1 t1 s1 l1 r1 n1 p1) : (pcO tp e sgA lfA rtA tnA ouA).2.1 = -1 := R_.1
theorem cOK.g {tp : Nat → Nat} {e c : Nat} {sgA lfA rtA tnA ouA : Nat → Int32} {i1 g1 o1 t1 s1 l1 r1 n1 p1 : Nat → Int32} (R_ : cOK tp e c sgA lfA rtA tnA ouA i1 g1 o1 t1 s1 l1 r1 n1 p1) : gE c (pcN tp e) (pcQ tp e sgA lfA rtA tnA) i1 g1 t1 s1 l1 r1 n1 := R_.2.1
theorem cOK.o {tp : Nat → Nat} {e c : Nat} {sgA lfA rtA tnA ouA : Nat → Int32} {i1 g1 o1 t1 s1 l1 r1 n1 p1 : Nat → Int32} (R_ : cOK tp e c sgA lfA rtA tnA ouA i1 g1 o1 t1 s1 l1 r1 n1 p1) : o1 c = nI (pcO tp e sgA lfA rtA tnA ouA).2.2.1 := R_.2.2.1
theorem cOK.p {tp : Nat → Nat} {e c : Nat} {sgA lfA rtA tnA ouA : Nat → Int32} {i1 g1 o1 t1 s1 l1 r1 n1 p1 : Nat → Int32} (R_ : cOK tp e c sgA lfA rtA tnA ouA i1 g1 o1 t1 s1 l1 r1 n1 p1) : ∀ j, j < (pcO tp e sgA lfA rtA tnA ouA).2.2.1 → p1 (8 * c + j) = (pcO tp e sgA lfA rtA tnA ouA).2.2.2 j := R_.2.2.2
theorem gR_0 {tp : Nat → Nat} {e : Nat} (he : e ≤ 4000) (h : (pcM tp e).2 = -1) {c : Nat} {a b d t : Nat → Int32} {iA gA oA tA sA lA rA nA : Nat → Int32} : gR tp e (pcN tp e) c 0 ((pcM tp e).1, (pcM tp e).2, 0, 0, a, b, d, t) ((pcM tp e).1, (pcM tp e).2, 0, 0, a, b, d, t) (skB tp e (skB tp e (skB tp e 0 + ndg tp e (skB tp e 0)) + 1)) (upd iA c (dvI tp e (skB tp e 0) (ndg tp e (skB tp e 0)))) (upd gA c 0) (upd oA c 0) (upd tA c 0) sA lA rA nA := by
  obtain ⟨k1, k2, k3, k4, k5⟩ := pcM_1 he h
  refine ⟨by rw [← k4], by show (pcM tp e).1 ≤ _; omega, h, rfl, ?_, upd_at _ _ _, upd_at _ _ _, upd_at _ _ _, Nat.le_refl _, fun j hj => absurd hj (by omega), rfl⟩
  rw [upd_at, k1]
theorem oR_0 {tp : Nat → Nat} {e v c p0 : Nat} {Q0 : oQ} {o1 p1 : Nat → Int32} (hq : Q0.1 = p0) (hb : Q0.1 ≤ 10000) (hf : Q0.2.1 = -1) (hg : Q0.2.2.1 = 0) (ho : o1 c = nI 0) : oR tp e v c 0 Q0 Q0 (skB tp e p0) 1 o1 p1 :=
  ⟨by rw [hq], hb, hf, hg, by rw [if_pos rfl], fun z => absurd z (by omega), ho, fun j hj => absurd hj (by omega), rfl⟩
theorem cOK_of {tp : Nat → Nat} {e c i : Nat} {sgA lfA rtA tnA ouA : Nat → Int32} {i1 g1 o1 t1 s1 l1 r1 n1 p1 : Nat → Int32} {Q : oQ} {p : Nat} {ap : Int32} (ht : ∀ j, tp j < 256) (G : gE c (pcN tp e) (pcQ tp e sgA lfA rtA tnA) i1 g1 t1 s1 l1 r1 n1) (R : oR tp e (pcN tp e + (pcQ tp e sgA lfA rtA tnA).2.2.1) c i Q ((pcQ tp e sgA lfA rtA tnA).1, (pcQ tp e sgA lfA rtA tnA).2.1, 0, ouA) p ap o1 p1) (hi : i ≤ 8) (h0 : 0 < i) (hp : ¬ p < e) : cOK tp e c sgA lfA rtA tnA ouA i1 g1 o1 t1 s1 l1 r1 n1 p1 := by
  have k : pcO tp e sgA lfA rtA tnA ouA = (p, -1, Q.2.2) := oR_E ht R hi h0 hp
  refine ⟨by rw [k], G, ?_, ?_⟩
  · rw [k, R.o]
    show nI i = nI Q.2.2.1
    rw [R.g]
  · intro j hj
    rw [k] at hj ⊢
    exact R.s j (by rw [← R.g]; exact hj)
theorem mnW_nn {tp : Nat → Nat} {e : Nat} {lo hi : Int32} {p : Nat} {w : Int32} (hp : p < 2 ^ 31) (h : w = -1 ∨ 0 ≤ w) : mnW tp e lo hi p w = -1 ∨ 0 ≤ mnW tp e lo hi p w := by
  rcases h with h | h
  · subst h
    rcases mnW_c (tp := tp) (e := e) (lo := lo) (hi := hi) hp with k | k
    · exact Or.inl k
    · exact Or.inr (by rw [k]; exact nI_nn hp)
  · rw [mnW_k h]
    exact Or.inr h
theorem mgA_nn {tp : Nat → Nat} {e : Nat} (he : e ≤ 4000) {s : Int32} {h p : Nat} (hp : p < 50000) : (mgA tp e s h p).2.2.2 = -1 ∨ 0 ≤ (mgA tp e s h p).2.2.2 := by
  have h9 := skB_spec tp e p
  have h8 := ndg_spec tp e (skB tp e p)
  have h7 := skB_spec tp e (skB tp e p + ndg tp e (skB tp e p))
  have k : ∀ q, q < 2 ^ 31 → mnW tp e 0 (nI h) q (-1) = -1 ∨ 0 ≤ mnW tp e 0 (nI h) q (-1) := fun q hq => mnW_nn hq (Or.inl rfl)
  unfold mgA
  by_cases hs : s = 33
  · simp only [if_pos hs]
    exact k (skB tp e p) (by omega)
  · simp only [if_neg hs]
    by_cases h0 : 0 ≤ mnW tp e 0 (nI h) (skB tp e p) (-1)
    · simp only [if_pos h0]
      exact Or.inr h0
    · simp only [if_neg h0]
      refine mnW_nn (by omega) ?_
      by_cases h32 : lkC tp e (skB tp e p + ndg tp e (skB tp e p)) = 32
      · simp only [if_pos h32]
        exact k (skB tp e p) (by omega)
      · simp only [if_neg h32]
        rw [flt, if_neg h0]
        exact Or.inr (nI_nn (by omega))
theorem mtK_nn {tp : Nat → Nat} {e : Nat} (he : e ≤ 4000) {p : Nat} {w : Int32} (hp : p < 100000) (h : w = -1 ∨ 0 ≤ w) : (mtK tp e p w).2 = -1 ∨ 0 ≤ (mtK tp e p w).2 := by
  have h9 := skB_spec tp e p
  unfold mtK
  split
  · exact h
  · show (if _ then w else flt w _) = -1 ∨ 0 ≤ (if _ then w else flt w _)
    split
    · exact h
    · unfold flt
      split
      · exact h
      · exact Or.inr (nI_nn (by omega))
