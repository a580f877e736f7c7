/-! ===== the law: its script, its state ===== -/
def xX (G : xG) (b L : Nat) (xs : Nat → Int32) : Prop := match G with
  | (_, _, _, _, s, _, _, _, _, _, A, _, _) => va_T .int b L (fun j => .int (xs j)) A s s.heap
theorem x_scr {G : xG} {Y : xD} {M : xM} {T : xL} {R0 : Room} {k n pc : Nat} {lv : List (Nat × Value)} {st : List Value} {w : va_W} (C : xC G Y M T R0) (j : Nat) (hT : T[j]? = some (pc, .iaload, 1)) {b L : Nat} {xs : Nat → Int32} (hX : xX G b L xs) {i : Nat} (hi : i < L) (hL : L < 2 ^ 31) (kk : X G Y k n (pc + 1) lv (.int (xs i) :: st) w) : X G Y k n pc lv (.int (nI i) :: .ref b :: st) w := by
  obtain ⟨p, l, e, R, s, m, args, below, meth, c, A, nL, Q⟩ := G
  obtain ⟨hx, hb, hml, rfl, hown, hts, hnw, hK, hA, hlocks, hnm, hret, hZ, rfl, hok⟩ := C
  intro H locs ls hl hP hD hS
  obtain ⟨cell, h1, h2, h3, h4, h5, h6, h7⟩ := hX
  have hin : vp_in (nI i) L := vp_in_nI hi hL
  have hv := h6 i hi
  have hcl : (nI i).toNatClampNeg = i := nI_clamp (Nat.lt_trans hi hL)
  refine W.iald (v := .int (xs i)) hx hb (by rw [hS.2.1 _ (Array.getElem?_eq_some_iff.mp h1).1 h7]; exact h1) h2 h3 (fun z => hin (z.elim Or.inl (fun z => Or.inr (Nat.le_trans h4 z)))) (by rw [hcl]; exact hv) rfl rfl (xat hok hT) (kk H locs ls hl hP hD hS)
theorem x_slen {G : xG} {Y : xD} {M : xM} {T : xL} {R0 : Room} {k n pc : Nat} {lv : List (Nat × Value)} {st : List Value} {w : va_W} (C : xC G Y M T R0) (j : Nat) (hT : T[j]? = some (pc, .arraylength, 1)) {b L : Nat} {xs : Nat → Int32} (hX : xX G b L xs) (kk : X G Y k n (pc + 1) lv (.int (nI L) :: st) w) : X G Y k n pc lv (.ref b :: st) w := by
  obtain ⟨p, l, e, R, s, m, args, below, meth, c, A, nL, Q⟩ := G
  obtain ⟨hx, hb, hml, rfl, hown, hts, hnw, hK, hA, hlocks, hnm, hret, hZ, rfl, hok⟩ := C
  intro H locs ls hl hP hD hS
  exact va_tlen hx hb hX hS (v := nI L) rfl (xat hok hT) (kk H locs ls hl hP hD hS)
/-- numbers of a circuit's wires, out of its rows -/
abbrev tN (f : Nat → Int32) (k : Nat) : Nat := (f k).toNatClampNeg
/-- a circuit that a text without a fault gives -/
abbrev cWF (n g b o : Nat) (sg lf rt tn ou : Nat → Int32) : Prop := (1 ≤ n ∧ n ≤ 16 ∧ g ≤ 40 ∧ o ≤ 8 ∧ b = tcn sg g) ∧ (∀ k, k < g → lf k = nI (tN lf k) ∧ tN lf k < n + k) ∧ (∀ k, k < g → ¬ sg k = 33 → rt k = nI (tN rt k) ∧ tN rt k < n + k) ∧ (∀ k, k < g → sg k = 33 → rt k = -9) ∧ (∀ k, k < g → ¬ sg k = 33 → ¬ sg k = 94 → tn k = nI (tcn sg k)) ∧ (∀ k, k < g → (sg k = 33 ∨ sg k = 94) → tn k = -9) ∧ (∀ k, k < o → ou k = nI (tN ou k) ∧ tN ou k < n + g)
/-- the reference's rows of circuit c are the class's -/
abbrev cRL (c n g b o : Nat) (sg lf rt tn ou i1 g1 o1 t1 s1 l1 r1 n1 p1 : Nat → Int32) : Prop := (i1 c = nI n ∧ g1 c = nI g ∧ o1 c = nI o ∧ t1 c = nI b) ∧ (∀ k, k < g → s1 (40 * c + k) = sg k ∧ l1 (40 * c + k) = lf k ∧ r1 (40 * c + k) = rt k ∧ n1 (40 * c + k) = tn k) ∧ (∀ k, k < o → p1 (8 * c + k) = ou k)
/-- the reference's rows of garbled j are the class's -/
abbrev gRL (j c n g b y kd : Nat) (gi wo bg bw : Int32) (Z R U : Nat → Int64) (co wy kn sp wk fh : Nat → Int32) (fd fz fr fn : Nat → Nat) : Prop := (co j = nI c ∧ wy j = nI y ∧ kn j = nI kd ∧ sp j = bg ∧ wk j = bw) ∧ (y < 3 ∧ kd < 5 ∧ (wo = 0 ∨ wo = 1)) ∧ zRl fz j Z (n + g) ∧ lbM fd (16 * j) (Z (2 * 56)) (Z (2 * 56 + 1)) ∧ rRl fr j R y b ∧ (∀ v, v < n + g → fh (56 * j + v) = hLb gi wo n v) ∧ (∀ v, v < n + g → ¬ hLb gi wo n v = 0 → lbM fn (16 * (56 * j + v)) (U (2 * v)) (U (2 * v + 1))) ∧ (∀ k, n ≤ k → k < 32 → gi.toBitVec.getLsbD k = false)
