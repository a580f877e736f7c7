/-! ===== labels in rows of bytes ===== -/
/-- sixteen bytes from p on are a label -/
abbrev lbM (f : Nat → Nat) (p : Nat) (h l : Int64) : Prop := ∀ b, b < 16 → f (p + b) = byW h l b
/-- the first m labels of garbled j -/
abbrev zRl (f : Nat → Nat) (j : Nat) (F : Nat → Int64) (m : Nat) : Prop := ∀ v, v < m → lbM f (16 * (56 * j + v)) (F (2 * v)) (F (2 * v + 1))
/-- rows of the first m tables of garbled j -/
abbrev rRl (f : Nat → Nat) (j : Nat) (F : Nat → Int64) (y m : Nat) : Prop := ∀ t r, t < m → r < 4 → (y = 2 → r < 2) → lbM f (16 * (4 * (40 * j + t) + r)) (F (2 * (4 * t + r))) (F (2 * (4 * t + r) + 1))
theorem lbM_f {f : Nat → Nat} {p : Nat} {g : Nat → Nat} {h l : Int64} (H : ∀ b, b < 16 → g b = byW h l b) : lbM (filN f p 16 g) p h l := by
  intro b hb
  rw [filN_i hb, H b hb]
theorem lbM_o {f : Nat → Nat} {p q : Nat} {g : Nat → Nat} {h l : Int64} (H : lbM f q h l) (hq : q + 16 ≤ p ∨ p + 16 ≤ q) : lbM (filN f p 16 g) q h l := by
  intro b hb
  rw [filN_o (by omega), H b hb]
theorem lbP_s (F : Nat → Int64) (i : Nat) (h l : Int64) : lbP F i h l (2 * i) = h ∧ lbP F i h l (2 * i + 1) = l := by
  unfold lbP vp_updL
  constructor
  · rw [if_neg (by omega), if_pos rfl]
  · rw [if_pos rfl]
theorem lbP_n (F : Nat → Int64) {i k : Nat} (h l : Int64) (hk : k ≠ i) : lbP F i h l (2 * k) = F (2 * k) ∧ lbP F i h l (2 * k + 1) = F (2 * k + 1) := by
  unfold lbP vp_updL
  constructor
  · rw [if_neg (by omega), if_neg (by omega)]
  · rw [if_neg (by omega), if_neg (by omega)]
/-- the next label laid -/
theorem zRl_s {f : Nat → Nat} {j : Nat} {F : Nat → Int64} {m : Nat} {g : Nat → Nat} {h l : Int64} (H : zRl f j F m) (G : ∀ b, b < 16 → g b = byW h l b) : zRl (filN f (16 * (56 * j + m)) 16 g) j (lbP F m h l) (m + 1) := by
  intro v hv
  by_cases e : v = m
  · subst e
    rw [(lbP_s F v h l).1, (lbP_s F v h l).2]
    exact lbM_f G
  · rw [(lbP_n F h l e).1, (lbP_n F h l e).2]
    exact lbM_o (H v (by omega)) (by omega)
/-- a label of many laid anew -/
theorem zRl_u {f : Nat → Nat} {j : Nat} {F : Nat → Int64} {m k : Nat} {g : Nat → Nat} {h l : Int64} (H : zRl f j F m) (G : ∀ b, b < 16 → g b = byW h l b) : zRl (filN f (16 * (56 * j + k)) 16 g) j (lbP F k h l) m := by
  intro v hv
  by_cases e : v = k
  · subst e
    rw [(lbP_s F v h l).1, (lbP_s F v h l).2]
    exact lbM_f G
  · rw [(lbP_n F h l e).1, (lbP_n F h l e).2]
    exact lbM_o (H v (by omega)) (by omega)
theorem zRl_o {f : Nat → Nat} {j k : Nat} {F : Nat → Int64} {m v : Nat} {g : Nat → Nat} (H : zRl f k F m) (hm : m ≤ 56) (hv : v < 56) (hk : k ≠ j) : zRl (filN f (16 * (56 * j + v)) 16 g) k F m := by
  intro u hu
  exact lbM_o (H u hu) (by omega)
theorem rRl_o {f : Nat → Nat} {j k : Nat} {F : Nat → Int64} {y m t r : Nat} {g : Nat → Nat} (H : rRl f k F y m) (hm : m ≤ 40) (ht : t < 40) (hr : r < 4) (hk : k ≠ j) : rRl (filN f (16 * (4 * (40 * j + t) + r)) 16 g) k F y m := by
  intro u s hu hs h2
  exact lbM_o (H u s hu hs h2) (by omega)
theorem zx_1 (x : Nat) (hx : x ≤ 1) (z d : Int64) : zx (nI x) z d = if x = 1 then z ^^^ d else z := by
  unfold zx
  have e : x = 0 ∨ x = 1 := by omega
  rcases e with rfl | rfl
  · rw [if_neg (by decide), if_neg (by decide)]
  · rw [if_pos (by decide), if_pos rfl]
theorem zx_0 (x : Nat) (hx : x ≤ 1) (z d : Int64) : zx (1 - nI x) z d = if x = 1 then z else z ^^^ d := by
  unfold zx
  have e : x = 0 ∨ x = 1 := by omega
  rcases e with rfl | rfl
  · rw [if_pos (by decide), if_neg (by decide)]
  · rw [if_neg (by decide), if_pos rfl]
/-- two rows of sixteen laid side by side -/
theorem fil2_s (f : Nat → Nat) (i : Nat) (g0 g1 : Nat → Nat) (hi : i < 16) : updN (updN (filN (filN f 0 i g0) 16 i g1) i (g0 i)) (16 + i) (g1 i) = filN (filN f 0 (i + 1) g0) 16 (i + 1) g1 := by
  rw [← filN_s, ← filN_s0]
  funext j
  unfold updN filN
  by_cases a : j = 16 + i
  · rw [if_pos a, if_pos a]
  · rw [if_neg a, if_neg a]
    by_cases b : j = i
    · rw [if_pos b, if_neg (by omega)]
      exact (if_pos b).symm
    · rw [if_neg b]
      by_cases c : 16 ≤ j ∧ j < 16 + i
      · rw [if_pos c, if_pos c]
      · rw [if_neg c, if_neg c]
        exact (if_neg b).symm
theorem lbc_le (l : Int64) : lbc l ≤ 1 := by
  unfold lbc
  omega
theorem col_B {f : Nat → Nat} {p : Nat} {h l : Int64} (H : lbM f p h l) : f (p + 15) &&& 1 = lbc l := by
  rw [H 15 (by decide), lbc_B h l, Nat.and_one_is_mod]
theorem jnH_B {p q : Nat} (hp : p ≤ 1) (hq : q ≤ 1) (a1 ha1 hb1 r01 r11 a2 ha2 hb2 r02 r12 : Int64) (b : Nat) : byW (jnH p q a1 ha1 hb1 r01 r11) (jnH p q a2 ha2 hb2 r02 r12) b = byW ha1 ha2 b ^^^ (if p = 1 then byW r01 r02 b else 0) ^^^ (if q = 1 then byW r11 r12 b ^^^ byW a1 a2 b else 0) ^^^ byW hb1 hb2 b := by
  unfold jnH
  rw [zx_1 q hq, zx_1 q hq, zx_1 p hp, zx_1 q hq, zx_1 q hq, zx_1 p hp]
  by_cases h1 : p = 1
  · by_cases h2 : q = 1
    · simp only [if_pos h1, if_pos h2, byW_xor]
      simp only [Nat.xor_assoc, Nat.xor_comm, xor_lc]
    · simp only [if_pos h1, if_neg h2, byW_xor, Nat.xor_zero]
  · by_cases h2 : q = 1
    · simp only [if_neg h1, if_pos h2, byW_xor, Nat.xor_zero]
      simp only [Nat.xor_assoc, Nat.xor_comm, xor_lc]
    · simp only [if_neg h1, if_neg h2, byW_xor, Nat.xor_zero]
/-! a gate worked out -/
theorem foS_a {ks : Nat → Int32} {fr : Nat → Int64} {sg : Nat → Int32} {y n : Nat} {lf rg tn : Nat → Nat} {S : gF} {k : Nat} (h : sg k = 33) : (foS ks fr sg y n lf rg tn S (k + 1)).1 = lbP (foS ks fr sg y n lf rg tn S k).1 (n + k) ((foS ks fr sg y n lf rg tn S k).1 (2 * lf k)) ((foS ks fr sg y n lf rg tn S k).1 (2 * lf k + 1)) := by
  show (foS1 ks fr sg y n lf rg tn k (foS ks fr sg y n lf rg tn S k)).1 = _
  unfold foS1
  rw [if_pos h]
theorem foS_b {ks : Nat → Int32} {fr : Nat → Int64} {sg : Nat → Int32} {y n : Nat} {lf rg tn : Nat → Nat} {S : gF} {k : Nat} (h : ¬ sg k = 33) (h2 : sg k = 94) : (foS ks fr sg y n lf rg tn S (k + 1)).1 = lbP (foS ks fr sg y n lf rg tn S k).1 (n + k) ((foS ks fr sg y n lf rg tn S k).1 (2 * lf k) ^^^ (foS ks fr sg y n lf rg tn S k).1 (2 * rg k)) ((foS ks fr sg y n lf rg tn S k).1 (2 * lf k + 1) ^^^ (foS ks fr sg y n lf rg tn S k).1 (2 * rg k + 1)) := by
  show (foS1 ks fr sg y n lf rg tn k (foS ks fr sg y n lf rg tn S k)).1 = _
  unfold foS1
  rw [if_neg h, if_pos h2]
theorem foS_c {ks : Nat → Int32} {fr : Nat → Int64} {sg : Nat → Int32} {y n : Nat} {lf rg tn : Nat → Nat} {S : gF} {k : Nat} (h : ¬ sg k = 33) (h2 : ¬ sg k = 94) (hy : y = 2) (F : Nat → Int64) (hF : F = (foS ks fr sg y n lf rg tn S k).1) : (foS ks fr sg y n lf rg tn S (k + 1)).1 = lbP F (n + k) (fhX ks fr (F (2 * lf k)) (F (2 * lf k + 1)) (F (2 * rg k)) (F (2 * rg k + 1)) (tn k)).1 (fhX ks fr (F (2 * lf k)) (F (2 * lf k + 1)) (F (2 * rg k)) (F (2 * rg k + 1)) (tn k)).2 := by
  subst hF
  show (foS1 ks fr sg y n lf rg tn k (foS ks fr sg y n lf rg tn S k)).1 = _
  unfold foS1
  rw [if_neg h, if_neg h2, if_pos hy]
theorem foS_d {ks : Nat → Int32} {fr : Nat → Int64} {sg : Nat → Int32} {y n : Nat} {lf rg tn : Nat → Nat} {S : gF} {k : Nat} (h : ¬ sg k = 33) (h2 : ¬ sg k = 94) (hy : ¬ y = 2) (F : Nat → Int64) (hF : F = (foS ks fr sg y n lf rg tn S k).1) : (foS ks fr sg y n lf rg tn S (k + 1)).1 = lbP F (n + k) (frX ks fr (F (2 * lf k)) (F (2 * lf k + 1)) (F (2 * rg k)) (F (2 * rg k + 1)) (tn k)).1 (frX ks fr (F (2 * lf k)) (F (2 * lf k + 1)) (F (2 * rg k)) (F (2 * rg k + 1)) (tn k)).2 := by
  subst hF
  show (foS1 ks fr sg y n lf rg tn k (foS ks fr sg y n lf rg tn S k)).1 = _
  unfold foS1
  rw [if_neg h, if_neg h2, if_neg hy]
theorem foB_a {sg : Nat → Int32} {y k : Nat} {bn : Int32} (h : sg k = 33) : foB sg y bn (k + 1) = foB sg y bn k := if_pos h
theorem foB_b {sg : Nat → Int32} {y k : Nat} {bn : Int32} (h : ¬ sg k = 33) (h2 : sg k = 94) : foB sg y bn (k + 1) = foB sg y bn k := by
  show (if _ then _ else _) = _
  rw [if_neg h, if_pos h2]
theorem foB_c {sg : Nat → Int32} {y k : Nat} {bn : Int32} (h : ¬ sg k = 33) (h2 : ¬ sg k = 94) (hy : y = 2) : foB sg y bn (k + 1) = foB sg y bn k + 1 + 1 := by
  show (if _ then _ else _) = _
  rw [if_neg h, if_neg h2, if_pos hy]
theorem foB_d {sg : Nat → Int32} {y k : Nat} {bn : Int32} (h : ¬ sg k = 33) (h2 : ¬ sg k = 94) (hy : ¬ y = 2) : foB sg y bn (k + 1) = foB sg y bn k + 1 := by
  show (if _ then _ else _) = _
  rw [if_neg h, if_neg h2, if_neg hy]
/-- as it was outside of garbled j -/
abbrev oFr (f g : Nat → Nat) (j : Nat) : Prop := ∀ p, p < 896 * j ∨ 896 * (j + 1) ≤ p → f p = g p
theorem oFr_s {f g : Nat → Nat} {j v : Nat} {h : Nat → Nat} (H : oFr f g j) (hv : v < 56) : oFr (filN f (16 * (56 * j + v)) 16 h) g j := by
  intro p hp
  rw [filN_o (by omega), H p hp]
theorem wk_a {f g h : Nat → Nat} {j n k a : Nat} {F F' : Nat → Int64} {lf : Nat} (H : zRl f j F (n + k)) (O : oFr f g j) (hk : n + k < 56) (hl : lf < n + k) (hF : F' = lbP F (n + k) (F (2 * lf)) (F (2 * lf + 1))) (hh : ∀ b, b < 16 → h b = f (16 * (56 * j + lf) + b)) : zRl (filN f (16 * (56 * j + (n + k))) 16 h) j F' (n + (k + 1)) ∧ oFr (filN f (16 * (56 * j + (n + k))) 16 h) g j := by
  subst hF
  exact ⟨zRl_s H (fun b hb => (hh b hb).trans (H lf hl b hb)), oFr_s O hk⟩
theorem wk_b {f g h : Nat → Nat} {j n k : Nat} {F F' : Nat → Int64} {lf rg : Nat} (H : zRl f j F (n + k)) (O : oFr f g j) (hk : n + k < 56) (hl : lf < n + k) (hr : rg < n + k) (hF : F' = lbP F (n + k) (F (2 * lf) ^^^ F (2 * rg)) (F (2 * lf + 1) ^^^ F (2 * rg + 1))) (hh : ∀ b, b < 16 → h b = f (16 * (56 * j + lf) + b) ^^^ f (16 * (56 * j + rg) + b)) : zRl (filN f (16 * (56 * j + (n + k))) 16 h) j F' (n + (k + 1)) ∧ oFr (filN f (16 * (56 * j + (n + k))) 16 h) g j := by
  subst hF
  refine ⟨zRl_s H (fun b hb => ?_), oFr_s O hk⟩
  rw [hh b hb, byW_xor, H lf hl b hb, H rg hr b hb]
theorem filN2 (f : Nat → Nat) (p : Nat) (g h : Nat → Nat) : filN (filN f p 16 g) p 16 h = filN f p 16 h := by
  funext j
  unfold filN
  split
  · rfl
  · rfl
theorem wk_c {f g h fr hA hB : Nat → Nat} {ks : Nat → Int32} {R : Nat → Int64} {j n k y tb t : Nat} {F F' : Nat → Int64} {lf rg : Nat} (H : zRl f j F (n + k)) (O : oFr f g j) (hk : n + k < 56) (hl : lf < n + k) (hr : rg < n + k) (HR : rRl fr j R y tb) (ht : t < tb)
    (qA : ∀ b, b < 16 → hA b = byW (hs1 ks (F (2 * lf)) (F (2 * lf + 1)) (2 * nI t)).1 (hs1 ks (F (2 * lf)) (F (2 * lf + 1)) (2 * nI t)).2 b) (qB : ∀ b, b < 16 → hB b = byW (hs1 ks (F (2 * rg)) (F (2 * rg + 1)) (2 * nI t + 1)).1 (hs1 ks (F (2 * rg)) (F (2 * rg + 1)) (2 * nI t + 1)).2 b)
    (hF : F' = lbP F (n + k) (fhX ks R (F (2 * lf)) (F (2 * lf + 1)) (F (2 * rg)) (F (2 * rg + 1)) t).1 (fhX ks R (F (2 * lf)) (F (2 * lf + 1)) (F (2 * rg)) (F (2 * rg + 1)) t).2)
    (hh : ∀ b, b < 16 → h b = hA b ^^^ (if lbc (F (2 * lf + 1)) = 1 then fr (16 * (4 * (40 * j + t) + 0) + b) else 0) ^^^ (if lbc (F (2 * rg + 1)) = 1 then fr (16 * (4 * (40 * j + t) + 1) + b) ^^^ f (16 * (56 * j + lf) + b) else 0) ^^^ hB b) : zRl (filN f (16 * (56 * j + (n + k))) 16 h) j F' (n + (k + 1)) ∧ oFr (filN f (16 * (56 * j + (n + k))) 16 h) g j := by
  subst hF
  refine ⟨zRl_s H (fun b hb => ?_), oFr_s O hk⟩
  rw [hh b hb]
  unfold fhX
  rw [jnH_B (lbc_le _) (lbc_le _), qA b hb, qB b hb, H lf hl b hb, HR t 0 ht (by decide) (fun _ => by decide) b hb, HR t 1 ht (by decide) (fun _ => by decide) b hb]
theorem wk_d {f g h fr hA : Nat → Nat} {ks : Nat → Int32} {R : Nat → Int64} {j n k y tb t : Nat} {F F' : Nat → Int64} {lf rg : Nat} (H : zRl f j F (n + k)) (O : oFr f g j) (hk : n + k < 56) (hl : lf < n + k) (hr : rg < n + k) (HR : rRl fr j R y tb) (ht : t < tb) (hy : ¬ y = 2)
    (qA : ∀ b, b < 16 → hA b = byW (hs2 ks (F (2 * lf)) (F (2 * lf + 1)) (F (2 * rg)) (F (2 * rg + 1)) (nI t)).1 (hs2 ks (F (2 * lf)) (F (2 * lf + 1)) (F (2 * rg)) (F (2 * rg + 1)) (nI t)).2 b)
    (hF : F' = lbP F (n + k) (frX ks R (F (2 * lf)) (F (2 * lf + 1)) (F (2 * rg)) (F (2 * rg + 1)) t).1 (frX ks R (F (2 * lf)) (F (2 * lf + 1)) (F (2 * rg)) (F (2 * rg + 1)) t).2)
    (hh : ∀ b, b < 16 → h b = hA b ^^^ fr (16 * (4 * (40 * j + t) + (2 * lbc (F (2 * lf + 1)) + lbc (F (2 * rg + 1)))) + b)) : zRl (filN f (16 * (56 * j + (n + k))) 16 h) j F' (n + (k + 1)) ∧ oFr (filN f (16 * (56 * j + (n + k))) 16 h) g j := by
  subst hF
  refine ⟨zRl_s H (fun b hb => ?_), oFr_s O hk⟩
  have p1 := lbc_le (F (2 * lf + 1))
  have p2 := lbc_le (F (2 * rg + 1))
  rw [hh b hb, qA b hb, HR t _ ht (by omega) (fun z => absurd z hy) b hb]
  unfold frX
  rw [byW_xor]
theorem col_C {f : Nat → Nat} {p : Nat} {h l : Int64} (H : lbM f p h l) : nI (f (p + 15)) &&& 1 = nI (lbc l) := by
  rw [show (1 : Int32) = nI 1 from rfl, nx_and, col_B H]
theorem col_C0 {f : Nat → Nat} {h l : Int64} (H : ∀ b, b < 16 → f (0 + b) = byW h l b) : nI (f 15) &&& 1 = nI (lbc l) := by
  have k := col_C (p := 0) H
  rw [Nat.zero_add] at k
  exact k
