/-! ===== garbling: coins, labels that stay ===== -/
def tcn (sg : Nat → Int32) : Nat → Nat
  | 0 => 0
  | i + 1 => tcn sg i + tnI (sg i)
theorem tcn_a {sg : Nat → Int32} {i : Nat} (h : sg i = 33) : tcn sg (i + 1) = tcn sg i := by
  show tcn sg i + tnI (sg i) = _
  unfold tnI
  rw [if_neg (fun z => absurd (h.symm.trans z) (by decide)), if_pos h, Nat.add_zero]
theorem tcn_b {sg : Nat → Int32} {i : Nat} (h : sg i = 94) : tcn sg (i + 1) = tcn sg i := by
  show tcn sg i + tnI (sg i) = _
  unfold tnI
  rw [if_pos h, Nat.add_zero]
theorem tcn_t {sg : Nat → Int32} {i : Nat} (h : ¬ sg i = 33) (h2 : ¬ sg i = 94) : tcn sg (i + 1) = tcn sg i + 1 := by
  show tcn sg i + tnI (sg i) = _
  unfold tnI
  rw [if_neg h2, if_neg h]
theorem tcn_le (sg : Nat → Int32) : ∀ i, tcn sg i ≤ i
  | 0 => Nat.le_refl _
  | i + 1 => by
    have := tcn_le sg i
    show tcn sg i + tnI (sg i) ≤ i + 1
    have : tnI (sg i) ≤ 1 := by
      unfold tnI
      repeat' split
      all_goals omega
    omega
theorem tcn_mono (sg : Nat → Int32) (i : Nat) : ∀ k, tcn sg i ≤ tcn sg (i + k)
  | 0 => Nat.le_refl _
  | k + 1 => Nat.le_trans (tcn_mono sg i k) (Nat.le_add_right _ _)
theorem tkI_at (f : Nat → Int64) (tp : Nat → Nat) {v : Nat} : ∀ m, v < m → tkI f tp m (2 * v) = w8 tp (16 + 16 * v) 8 ∧ tkI f tp m (2 * v + 1) = w8 tp (16 + 16 * v + 8) 8
  | 0, h => absurd h (by omega)
  | m + 1, h => by
    show lbP (tkI f tp m) m _ _ _ = _ ∧ lbP (tkI f tp m) m _ _ _ = _
    by_cases e : v = m
    · subst e
      exact lbP_s _ _ _ _
    · rw [(lbP_n _ _ _ e).1, (lbP_n _ _ _ e).2]
      exact tkI_at f tp m (by omega)
theorem tkI_o (f : Nat → Int64) (tp : Nat → Nat) {v : Nat} : ∀ m, m ≤ v → tkI f tp m (2 * v) = f (2 * v) ∧ tkI f tp m (2 * v + 1) = f (2 * v + 1)
  | 0, _ => ⟨rfl, rfl⟩
  | m + 1, h => by
    show lbP (tkI f tp m) m _ _ _ = _ ∧ lbP (tkI f tp m) m _ _ _ = _
    rw [(lbP_n _ _ _ (show v ≠ m by omega)).1, (lbP_n _ _ _ (show v ≠ m by omega)).2]
    exact tkI_o f tp m (by omega)
theorem tkG_p (f : Nat → Int64) (tp : Nat → Nat) (n : Nat) {tnA sg : Nat → Int32} : ∀ i, (∀ k, k < i → (sg k = 33 ∨ sg k = 94) → tnA k = -9) → (∀ k, k < i → ¬ sg k = 33 → ¬ sg k = 94 → ¬ tnA k = -9) → (tkG f tp n tnA i).2 = 16 + 16 * n + 16 * tcn sg i
  | 0, _, _ => by
    show 16 + 16 * n = _
    rw [show tcn sg 0 = 0 from rfl, Nat.mul_zero, Nat.add_zero]
  | i + 1, h1, h2 => by
    have ih := tkG_p f tp n i (fun k hk => h1 k (by omega)) (fun k hk => h2 k (by omega))
    conv => lhs; unfold tkG
    by_cases a : sg i = 33
    · rw [if_pos (h1 i (by omega) (Or.inl a)), ih, tcn_a a]
    · by_cases b : sg i = 94
      · rw [if_pos (h1 i (by omega) (Or.inr b)), ih, tcn_b b]
      · rw [if_neg (h2 i (by omega) a b), tcn_t a b]
        show (tkG f tp n tnA i).2 + 16 = _
        rw [ih]
        omega
theorem tkG_o (f : Nat → Int64) (tp : Nat → Nat) (n : Nat) {tnA : Nat → Int32} {v : Nat} : ∀ i, (v < n ∨ n + i ≤ v) → (tkG f tp n tnA i).1 (2 * v) = f (2 * v) ∧ (tkG f tp n tnA i).1 (2 * v + 1) = f (2 * v + 1)
  | 0, _ => ⟨rfl, rfl⟩
  | i + 1, h => by
    have ih := tkG_o f tp n (tnA := tnA) (v := v) i (by omega)
    by_cases a : tnA i = -9
    · have e : tkG f tp n tnA (i + 1) = tkG f tp n tnA i := by
        conv => lhs; unfold tkG
        rw [if_pos a]
      rw [e]
      exact ih
    · have e : (tkG f tp n tnA (i + 1)).1 = lbP (tkG f tp n tnA i).1 (n + i) (w8 tp (tkG f tp n tnA i).2 8) (w8 tp ((tkG f tp n tnA i).2 + 8) 8) := by
        conv => lhs; unfold tkG
        rw [if_neg a]
      rw [e, (lbP_n _ _ _ (show v ≠ n + i by omega)).1, (lbP_n _ _ _ (show v ≠ n + i by omega)).2]
      exact ih
theorem tkG_at (f : Nat → Int64) (tp : Nat → Nat) (n : Nat) {tnA sg : Nat → Int32} {k : Nat} : ∀ i, k < i → (∀ k, k < i → (sg k = 33 ∨ sg k = 94) → tnA k = -9) → (∀ k, k < i → ¬ sg k = 33 → ¬ sg k = 94 → ¬ tnA k = -9) → ¬ sg k = 33 → ¬ sg k = 94 → (tkG f tp n tnA i).1 (2 * (n + k)) = w8 tp (16 + 16 * n + 16 * tcn sg k) 8 ∧ (tkG f tp n tnA i).1 (2 * (n + k) + 1) = w8 tp (16 + 16 * n + 16 * tcn sg k + 8) 8
  | 0, h, _, _, _, _ => absurd h (by omega)
  | i + 1, h, h1, h2, a, b => by
    by_cases e : tnA i = -9
    · have ee : tkG f tp n tnA (i + 1) = tkG f tp n tnA i := by
        conv => lhs; unfold tkG
        rw [if_pos e]
      rw [ee]
      have : k ≠ i := fun z => h2 k (by omega) a b (z ▸ e)
      exact tkG_at f tp n i (by omega) (fun q hq => h1 q (by omega)) (fun q hq => h2 q (by omega)) a b
    · have ee : (tkG f tp n tnA (i + 1)).1 = lbP (tkG f tp n tnA i).1 (n + i) (w8 tp (tkG f tp n tnA i).2 8) (w8 tp ((tkG f tp n tnA i).2 + 8) 8) := by
        conv => lhs; unfold tkG
        rw [if_neg e]
      rw [ee]
      by_cases ki : k = i
      · subst ki
        rw [(lbP_s _ _ _ _).1, (lbP_s _ _ _ _).2, tkG_p f tp n k (fun q hq => h1 q (by omega)) (fun q hq => h2 q (by omega))]
        exact ⟨rfl, rfl⟩
      · rw [(lbP_n _ _ _ (show n + k ≠ n + i by omega)).1, (lbP_n _ _ _ (show n + k ≠ n + i by omega)).2]
        exact tkG_at f tp n i (by omega) (fun q hq => h1 q (by omega)) (fun q hq => h2 q (by omega)) a b
theorem mkRs_o {ks : Nat → Int32} {s : Int32} {y wi a b t : Nat} {S : gS} {v : Nat} (hv : v ≠ wi) : ∀ r, (mkRs ks s y wi a b t S r).1 (2 * v) = S.1 (2 * v) ∧ (mkRs ks s y wi a b t S r).1 (2 * v + 1) = S.1 (2 * v + 1)
  | 0 => ⟨rfl, rfl⟩
  | r + 1 => by
    have ih := mkRs_o (ks := ks) (s := s) (y := y) (wi := wi) (a := a) (b := b) (t := t) (S := S) hv r
    show (mkR ks s y wi a b t r (mkRs ks s y wi a b t S r)).1 _ = _ ∧ (mkR ks s y wi a b t r (mkRs ks s y wi a b t S r)).1 _ = _
    unfold mkR
    by_cases h : y = 1 ∧ r = 0
    · simp only [if_pos h]
      rw [(lbP_n _ _ _ hv).1, (lbP_n _ _ _ hv).2]
      exact ih
    · simp only [if_neg h]
      exact ih
theorem mtS1_o {ks sg : Nat → Int32} {y n : Nat} {lf rg tn : Nat → Nat} {i : Nat} {S : gS} {v : Nat} (hv : v ≠ n + i) : (mtS1 ks sg y n lf rg tn i S).1 (2 * v) = S.1 (2 * v) ∧ (mtS1 ks sg y n lf rg tn i S).1 (2 * v + 1) = S.1 (2 * v + 1) := by
  unfold mtS1
  by_cases h : sg i = 33
  · rw [if_pos h]
    exact lbP_n _ _ _ hv
  · rw [if_neg h]
    by_cases h2 : sg i = 94
    · rw [if_pos h2]
      exact lbP_n _ _ _ hv
    · rw [if_neg h2]
      by_cases h3 : y = 2
      · rw [if_pos h3]
        exact lbP_n _ _ _ hv
      · rw [if_neg h3]
        exact mkRs_o hv 4
theorem mtS_o {ks sg : Nat → Int32} {y n : Nat} {lf rg tn : Nat → Nat} {S : gS} {v : Nat} : ∀ i, (v < n ∨ n + i ≤ v) → (mtS ks sg y n lf rg tn S i).1 (2 * v) = S.1 (2 * v) ∧ (mtS ks sg y n lf rg tn S i).1 (2 * v + 1) = S.1 (2 * v + 1)
  | 0, _ => ⟨rfl, rfl⟩
  | i + 1, h => by
    have ih := mtS_o (ks := ks) (sg := sg) (y := y) (n := n) (lf := lf) (rg := rg) (tn := tn) (S := S) (v := v) i (by omega)
    have k := mtS1_o (ks := ks) (sg := sg) (y := y) (n := n) (lf := lf) (rg := rg) (tn := tn) (i := i) (S := mtS ks sg y n lf rg tn S i) (v := v) (by omega)
    exact ⟨k.1.trans ih.1, k.2.trans ih.2⟩
theorem zRl_e {f : Nat → Nat} {j : Nat} {F : Nat → Int64} {m : Nat} {g : Nat → Nat} (H : zRl f j F m) (G : ∀ b, b < 16 → g b = byW (F (2 * m)) (F (2 * m + 1)) b) : zRl (filN f (16 * (56 * j + m)) 16 g) j F (m + 1) := by
  intro v hv
  by_cases e : v = m
  · subst e
    exact lbM_f G
  · exact lbM_o (H v (by omega)) (by omega)
/-- the reference's place on the tape -/
def gcn (sg : Nat → Int32) (y n v : Nat) : Nat := if v ≤ n then 16 * v else 16 * (n + (if y = 0 then tcn sg (v - n) else 0))
theorem gcn_i {sg : Nat → Int32} {y n v : Nat} (h : v < n) : gcn sg y n v = 16 * v ∧ gcn sg y n (v + 1) = 16 * v + 16 := by
  unfold gcn
  rw [if_pos (by omega), if_pos (by omega)]
  omega
theorem gcn_g {sg : Nat → Int32} {y n v : Nat} (h : n ≤ v) : gcn sg y n v = 16 * (n + (if y = 0 then tcn sg (v - n) else 0)) := by
  unfold gcn
  by_cases e : v = n
  · subst e
    rw [if_pos (Nat.le_refl _), Nat.sub_self, show tcn sg 0 = 0 from rfl, ite_self, Nat.add_zero]
  · rw [if_neg (by omega)]
theorem gcn_a {sg : Nat → Int32} {y n v : Nat} (h : n ≤ v) (h3 : sg (v - n) = 33 ∨ sg (v - n) = 94) : gcn sg y n (v + 1) = gcn sg y n v := by
  rw [gcn_g h, gcn_g (by omega), show v + 1 - n = (v - n) + 1 by omega]
  rcases h3 with h3 | h3
  · rw [tcn_a h3]
  · rw [tcn_b h3]
theorem gcn_y {sg : Nat → Int32} {y n v : Nat} (h : n ≤ v) (hy : ¬ y = 0) : gcn sg y n (v + 1) = gcn sg y n v := by
  rw [gcn_g h, gcn_g (by omega), if_neg hy, if_neg hy]
theorem gcn_0 {sg : Nat → Int32} {n v : Nat} (h : n ≤ v) (h3 : ¬ sg (v - n) = 33) (h9 : ¬ sg (v - n) = 94) : gcn sg 0 n v = 16 * (n + tcn sg (v - n)) ∧ gcn sg 0 n (v + 1) = 16 * (n + tcn sg (v - n)) + 16 := by
  rw [gcn_g h, gcn_g (by omega), show v + 1 - n = (v - n) + 1 by omega, tcn_t h3 h9, if_pos rfl, if_pos rfl]
  omega
/-- what the reference has behind v wires -/
abbrev gI (fz fr fz0 fr0 : Nat → Nat) (j y v T : Nat) (S : gS) : Prop := zRl fz j S.1 v ∧ rRl fr j S.2.1 y T ∧ (∀ p, p < 896 * j → fz p = fz0 p) ∧ (∀ p, p < 2560 * j → fr p = fr0 p)
theorem gI_in {fz fr fz0 fr0 g tp : Nat → Nat} {j y v T : Nat} {S : gS} (I : gI fz fr fz0 fr0 j y v T S) (ht : ∀ j, tp j < 256) (p : Nat) (h1 : S.1 (2 * v) = w8 tp p 8) (h2 : S.1 (2 * v + 1) = w8 tp (p + 8) 8) (hg : ∀ b, b < 16 → g b = tp (p + b)) : gI (filN fz (16 * (56 * j + v)) 16 g) fr fz0 fr0 j y (v + 1) T S := by
  obtain ⟨a, b, c, d⟩ := I
  refine ⟨zRl_e a (fun k hk => ?_), b, fun q hq => ?_, d⟩
  · rw [hg k hk, h1, h2, w8_B tp p ht hk]
  · rw [filN_o (by omega), c q hq]
theorem mtS_a {ks sg : Nat → Int32} {y n : Nat} {lf rg tn : Nat → Nat} {S : gS} {i : Nat} (h : sg i = 33) (M : gS) (hM : M = mtS ks sg y n lf rg tn S i) : mtS ks sg y n lf rg tn S (i + 1) = (lbP M.1 (n + i) (M.1 (2 * lf i) ^^^ M.1 (2 * 56)) (M.1 (2 * lf i + 1) ^^^ M.1 (2 * 56 + 1)), M.2) := by
  subst hM
  show mtS1 ks sg y n lf rg tn i _ = _
  unfold mtS1
  rw [if_pos h]
  rfl
theorem mtS_b {ks sg : Nat → Int32} {y n : Nat} {lf rg tn : Nat → Nat} {S : gS} {i : Nat} (h : ¬ sg i = 33) (h2 : sg i = 94) (M : gS) (hM : M = mtS ks sg y n lf rg tn S i) : mtS ks sg y n lf rg tn S (i + 1) = (lbP M.1 (n + i) (M.1 (2 * lf i) ^^^ M.1 (2 * rg i)) (M.1 (2 * lf i + 1) ^^^ M.1 (2 * rg i + 1)), M.2) := by
  subst hM
  show mtS1 ks sg y n lf rg tn i _ = _
  unfold mtS1
  rw [if_neg h, if_pos h2]
theorem mtS_c {ks sg : Nat → Int32} {y n : Nat} {lf rg tn : Nat → Nat} {S : gS} {i : Nat} (h : ¬ sg i = 33) (h2 : ¬ sg i = 94) (hy : y = 2) : mtS ks sg y n lf rg tn S (i + 1) = mkH ks (sg i) (n + i) (lf i) (rg i) (tn i) (mtS ks sg y n lf rg tn S i) := by
  show mtS1 ks sg y n lf rg tn i _ = _
  unfold mtS1
  rw [if_neg h, if_neg h2, if_pos hy]
theorem mtS_d {ks sg : Nat → Int32} {y n : Nat} {lf rg tn : Nat → Nat} {S : gS} {i : Nat} (h : ¬ sg i = 33) (h2 : ¬ sg i = 94) (hy : ¬ y = 2) : mtS ks sg y n lf rg tn S (i + 1) = mkRs ks (sg i) y (n + i) (lf i) (rg i) (tn i) (mtS ks sg y n lf rg tn S i) 4 := by
  show mtS1 ks sg y n lf rg tn i _ = _
  unfold mtS1
  rw [if_neg h, if_neg h2, if_neg hy]
theorem mtB_a {sg : Nat → Int32} {y k : Nat} {bn : Int32} (h : sg k = 33) : mtB sg y bn (k + 1) = mtB sg y bn k := if_pos h
theorem mtB_b {sg : Nat → Int32} {y k : Nat} {bn : Int32} (h : ¬ sg k = 33) (h2 : sg k = 94) : mtB sg y bn (k + 1) = mtB sg y bn k := by
  show (if _ then _ else _) = _
  rw [if_neg h, if_pos h2]
theorem mtB_c {sg : Nat → Int32} {y k : Nat} {bn : Int32} (h : ¬ sg k = 33) (h2 : ¬ sg k = 94) (hy : y = 2) : mtB sg y bn (k + 1) = mtB sg y bn k + 1 + 1 + 1 + 1 := by
  show (if _ then _ else _) = _
  rw [if_neg h, if_neg h2, if_pos hy]
theorem mtB_d {sg : Nat → Int32} {y k : Nat} {bn : Int32} (h : ¬ sg k = 33) (h2 : ¬ sg k = 94) (hy : ¬ y = 2) : mtB sg y bn (k + 1) = mtB sg y bn k + nI 4 := by
  show (if _ then _ else _) = _
  rw [if_neg h, if_neg h2, if_neg hy]
theorem gI_a {fz fr fz0 fr0 fd g : Nat → Nat} {j y n i T lf : Nat} {M M' : gS} (I : gI fz fr fz0 fr0 j y (n + i) T M) (hl : lf < n + i) (hd : lbM fd (16 * j) (M.1 (2 * 56)) (M.1 (2 * 56 + 1))) (hM : M' = (lbP M.1 (n + i) (M.1 (2 * lf) ^^^ M.1 (2 * 56)) (M.1 (2 * lf + 1) ^^^ M.1 (2 * 56 + 1)), M.2)) (hg : ∀ b, b < 16 → g b = fz (16 * (56 * j + lf) + b) ^^^ fd (16 * j + b)) : gI (filN fz (16 * (56 * j + (n + i))) 16 g) fr fz0 fr0 j y (n + i + 1) T M' := by
  obtain ⟨a, b, c, d⟩ := I
  subst hM
  refine ⟨zRl_s a (fun k hk => ?_), b, fun q hq => ?_, d⟩
  · rw [hg k hk, a lf hl k hk, hd k hk, byW_xor]
  · rw [filN_o (by omega), c q hq]
theorem gI_b {fz fr fz0 fr0 g : Nat → Nat} {j y n i T lf rg : Nat} {M M' : gS} (I : gI fz fr fz0 fr0 j y (n + i) T M) (hl : lf < n + i) (hr : rg < n + i) (hM : M' = (lbP M.1 (n + i) (M.1 (2 * lf) ^^^ M.1 (2 * rg)) (M.1 (2 * lf + 1) ^^^ M.1 (2 * rg + 1)), M.2)) (hg : ∀ b, b < 16 → g b = fz (16 * (56 * j + lf) + b) ^^^ fz (16 * (56 * j + rg) + b)) : gI (filN fz (16 * (56 * j + (n + i))) 16 g) fr fz0 fr0 j y (n + i + 1) T M' := by
  obtain ⟨a, b, c, d⟩ := I
  subst hM
  refine ⟨zRl_s a (fun k hk => ?_), b, fun q hq => ?_, d⟩
  · rw [hg k hk, a lf hl k hk, a rg hr k hk, byW_xor]
  · rw [filN_o (by omega), c q hq]
theorem gI_d {fz fr fz0 fr0 : Nat → Nat} {j y v t : Nat} {S : gS} {d1 d2 : Int64} (hy : ¬ y = 2) (I : tI fz fr fz0 fr0 j y v t 4 S d1 d2) : gI fz fr fz0 fr0 j y (v + 1) (t + 1) S := by
  obtain ⟨i1, i2, i3, i4, i5, i6, i7⟩ := I
  refine ⟨?_, ?_, i6, i7⟩
  · intro u hu
    by_cases e : u = v
    · subst e
      exact i2 (Or.inr (by decide))
    · exact i1 u (by omega)
  · intro u r hu hr h2
    by_cases e : u = t
    · subst e
      exact i4 r hr
    · exact i3 u r (by omega) hr h2
theorem gcn_z (sg : Nat → Int32) (y n : Nat) : gcn sg y n 0 = 0 := by
  unfold gcn
  rw [if_pos (Nat.zero_le _)]
theorem gI_0 (fz fr : Nat → Nat) (sg : Nat → Int32) (j y n : Nat) (S : gS) : gI fz fr fz fr j y 0 (tcn sg (0 - n)) S := by
  refine ⟨fun v h => absurd h (by omega), fun t r h => ?_, fun p _ => rfl, fun p _ => rfl⟩
  rw [Nat.zero_sub] at h
  exact absurd h (Nat.not_lt_zero _)
/-- delta: the first coin with its last bit set -/
theorem dl_B {fd tq tp : Nat → Nat} {j : Nat} (ht : ∀ j, tp j < 256) (hq : ∀ b, b < 16 → tq b = tp b) : lbM (filN fd (16 * j) 16 (fun i => tq i ||| (if i = 15 then 1 else 0))) (16 * j) (w8 tp 0 8) (w8 tp (0 + 8) 8 ||| 1) := by
  refine lbM_f (fun b hb => ?_)
  have k := w8_B tp 0 ht hb
  rw [show 0 + b = b from Nat.zero_add b] at k
  rw [hq b hb, ← k]
  have one : ∀ q, q < 64 → (1 : Int64).toBitVec.getLsbD q = decide (q = 0) := by decide +kernel
  apply bit8
  · refine Nat.or_lt_two_pow (n := 8) (byW_lt _ _ _) ?_
    split <;> decide
  · exact byW_lt _ _ _
  · intro i hi
    rw [Nat.testBit_or, byW_bit _ _ hb, byW_bit _ _ hb, decide_eq_true hi, Bool.true_and, Bool.true_and]
    unfold lbt
    by_cases h64 : 8 * (15 - b) + i < 64
    · rw [if_pos h64, if_pos h64, Int64.toBitVec_or, BitVec.getLsbD_or, one _ h64]
      congr 1
      by_cases h15 : b = 15
      · subst h15
        rw [if_pos rfl]
        by_cases h0 : i = 0
        · subst h0; rfl
        · rw [decide_eq_false (by omega)]
          exact Nat.testBit_lt_two_pow (Nat.lt_of_lt_of_le (show 1 < 2 ^ 1 by decide) (Nat.pow_le_pow_right (by decide) (by omega)))
      · rw [if_neg h15, Nat.zero_testBit, decide_eq_false (by omega)]
    · rw [if_neg h64, if_neg h64, if_neg (show ¬ b = 15 by omega), Nat.zero_testBit, Bool.or_false]
