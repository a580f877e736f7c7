/-! ===== lemmas: a circuit's rows on both sides ===== -/
theorem cl_s {c n g b o : Nat} {sg lf rt tn ou i1 g1 o1 t1 s1 l1 r1 n1 p1 : Nat → Int32} (R : cRL c n g b o sg lf rt tn ou i1 g1 o1 t1 s1 l1 r1 n1 p1) : ∀ k, k < g → s1 (40 * c + k) = sg k := fun k hk => (R.2.1 k hk).1
theorem cl_l {c n g b o : Nat} {sg lf rt tn ou i1 g1 o1 t1 s1 l1 r1 n1 p1 : Nat → Int32} (W : cWF n g b o sg lf rt tn ou) (R : cRL c n g b o sg lf rt tn ou i1 g1 o1 t1 s1 l1 r1 n1 p1) : ∀ k, k < g → l1 (40 * c + k) = nI (tN lf k) ∧ tN lf k < n + k := fun k hk => ⟨(R.2.1 k hk).2.1.trans (W.2.1 k hk).1, (W.2.1 k hk).2⟩
theorem cl_r {c n g b o : Nat} {sg lf rt tn ou i1 g1 o1 t1 s1 l1 r1 n1 p1 : Nat → Int32} (W : cWF n g b o sg lf rt tn ou) (R : cRL c n g b o sg lf rt tn ou i1 g1 o1 t1 s1 l1 r1 n1 p1) : ∀ k, k < g → ¬ sg k = 33 → r1 (40 * c + k) = nI (tN rt k) ∧ tN rt k < n + k := fun k hk h => ⟨(R.2.1 k hk).2.2.1.trans (W.2.2.1 k hk h).1, (W.2.2.1 k hk h).2⟩
theorem cl_r9 {c n g b o : Nat} {sg lf rt tn ou i1 g1 o1 t1 s1 l1 r1 n1 p1 : Nat → Int32} (W : cWF n g b o sg lf rt tn ou) (R : cRL c n g b o sg lf rt tn ou i1 g1 o1 t1 s1 l1 r1 n1 p1) : ∀ k, k < g → sg k = 33 → r1 (40 * c + k) = -9 := fun k hk h => (R.2.1 k hk).2.2.1.trans (W.2.2.2.1 k hk h)
theorem tcn_lt {sg : Nat → Int32} {k g : Nat} (hk : k < g) (h : ¬ sg k = 33) (h2 : ¬ sg k = 94) : tcn sg k < tcn sg g := by
  have a := tcn_t h h2
  have b := tcn_mono sg (k + 1) (g - (k + 1))
  rw [show k + 1 + (g - (k + 1)) = g by omega] at b
  omega
theorem cl_n {c n g b o : Nat} {sg lf rt tn ou i1 g1 o1 t1 s1 l1 r1 n1 p1 : Nat → Int32} (W : cWF n g b o sg lf rt tn ou) (R : cRL c n g b o sg lf rt tn ou i1 g1 o1 t1 s1 l1 r1 n1 p1) : ∀ k, k < g → ¬ sg k = 33 → ¬ sg k = 94 → n1 (40 * c + k) = nI (tcn sg k) ∧ tcn sg k < b := fun k hk h h2 => ⟨(R.2.1 k hk).2.2.2.trans (W.2.2.2.2.1 k hk h h2), by rw [W.1.2.2.2.2]; exact tcn_lt hk h h2⟩
theorem cl_n9 {c n g b o : Nat} {sg lf rt tn ou i1 g1 o1 t1 s1 l1 r1 n1 p1 : Nat → Int32} (W : cWF n g b o sg lf rt tn ou) (R : cRL c n g b o sg lf rt tn ou i1 g1 o1 t1 s1 l1 r1 n1 p1) : ∀ k, k < g → (sg k = 33 ∨ sg k = 94) → n1 (40 * c + k) = -9 := fun k hk h => (R.2.1 k hk).2.2.2.trans (W.2.2.2.2.2.1 k hk h)
theorem cl_p {c n g b o : Nat} {sg lf rt tn ou i1 g1 o1 t1 s1 l1 r1 n1 p1 : Nat → Int32} (W : cWF n g b o sg lf rt tn ou) (R : cRL c n g b o sg lf rt tn ou i1 g1 o1 t1 s1 l1 r1 n1 p1) : ∀ k, k < o → p1 (8 * c + k) = nI (tN ou k) ∧ tN ou k < n + g := fun k hk => ⟨(R.2.2 k hk).trans (W.2.2.2.2.2.2 k hk).1, (W.2.2.2.2.2.2 k hk).2⟩
theorem cl_ng {n g b o : Nat} {sg lf rt tn ou : Nat → Int32} (W : cWF n g b o sg lf rt tn ou) : n + g ≤ 56 := by
  have a := W.1.2.1
  have b := W.1.2.2.1
  omega
theorem cl_tb {n g b o : Nat} {sg lf rt tn ou : Nat → Int32} (W : cWF n g b o sg lf rt tn ou) : b ≤ 40 := by
  have a := W.1.2.2.1
  have c := tcn_le sg g
  rw [W.1.2.2.2.2]
  omega
theorem cl_p56 {c n g b o : Nat} {sg lf rt tn ou i1 g1 o1 t1 s1 l1 r1 n1 p1 : Nat → Int32} (W : cWF n g b o sg lf rt tn ou) (R : cRL c n g b o sg lf rt tn ou i1 g1 o1 t1 s1 l1 r1 n1 p1) : ∀ k, k < o → p1 (8 * c + k) = nI (tN ou k) ∧ tN ou k < 56 := fun k hk => ⟨(cl_p W R k hk).1, Nat.lt_of_lt_of_le (cl_p W R k hk).2 (cl_ng W)⟩
theorem cl_t {n g b o : Nat} {sg lf rt tn ou : Nat → Int32} (W : cWF n g b o sg lf rt tn ou) : ∀ k, k < g → ¬ sg k = 33 → ¬ sg k = 94 → tn k = nI (tcn sg k) ∧ tcn sg k < 40 := fun k hk h h2 => ⟨W.2.2.2.2.1 k hk h h2, by
  have a := tcn_le sg k
  have b := W.1.2.2.1
  omega⟩
theorem tq_B {tq tp : Nat → Nat} {sz p : Nat} (htq : ∀ j, j < sz → tq j = tp j) (htp : ∀ j, tp j < 256) (h : p + 16 ≤ sz) : ∀ b, b < 16 → tq (p + b) = byW (w8 tp p 8) (w8 tp (p + 8) 8) b := fun b hb => (htq (p + b) (by omega)).trans (w8_B tp p htp hb).symm
theorem tq_0 {tq tp : Nat → Nat} {sz : Nat} (htq : ∀ j, j < sz → tq j = tp j) (htp : ∀ j, tp j < 256) (h : 16 ≤ sz) : ∀ b, b < 16 → tq b = byW (w8 tp 0 8) (w8 tp (0 + 8) 8) b := fun b hb => by
  have a := tq_B (p := 0) htq htp (by omega) b hb
  rw [Nat.zero_add b] at a
  exact a
theorem hL01 {gi wo : Int32} (h : wo = 0 ∨ wo = 1) (n v : Nat) : hLb gi wo n v = 0 ∨ hLb gi wo n v = 1 := by
  unfold hLb
  split
  · exact gbV01 gi v
  · exact h
theorem oaN {gi wo : Int32} {fh : Nat → Int32} {n g o j : Nat} {ou : Nat → Nat} (hw : wo = 0 ∨ wo = 1) (H : ∀ v, v < n + g → fh (56 * j + v) = hLb gi wo n v) (ho : ∀ k, k < o → ou k < n + g) : (∀ q, q < o → hLb gi wo n (ou q) = 1) ↔ ∀ q, q < o → ¬ fh (56 * j + ou q) = 0 := by
  constructor
  · intro h q hq
    rw [H _ (ho q hq), h q hq]
    decide
  · intro h q hq
    have a := h q hq
    rw [H _ (ho q hq)] at a
    exact (hL01 hw n (ou q)).resolve_left a
theorem oaE {fn fz fd ou : Nat → Nat} {Zc U : Nat → Int64} {gi wo : Int32} {fh : Nat → Int32} {n g o j : Nat} (ho8 : o ≤ 8) (ho : ∀ k, k < o → ou k < n + g) (hz : zRl fz j Zc (n + g)) (hd : lbM fd (16 * j) (Zc (2 * 56)) (Zc (2 * 56 + 1))) (hu : ∀ v, v < n + g → ¬ hLb gi wo n v = 0 → lbM fn (16 * (56 * j + v)) (U (2 * v)) (U (2 * v + 1))) (hA : ∀ q, q < o → hLb gi wo n (ou q) = 1) : opn (fun q => opF Zc U (ou q)) o 0 0 = oaD (fun q => opM fn fz fd j (ou q)) o o := by
  rw [← oaD_opn (F := fun q => opF Zc U (ou q)) ho8 (fun k _ => opF_012 Zc U (ou k))]
  exact (oaD_c (F := fun q => opM fn fz fd j (ou q)) (G := fun q => opF Zc U (ou q)) (fun k hk => opM_F (hu _ (ho k hk) (by rw [hA k hk]; decide)) (hz _ (ho k hk)) hd) o (Nat.le_refl _)).symm
