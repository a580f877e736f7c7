/-! ===== a table of four rows or three ===== -/
theorem xb_le {a b : Nat} (ha : a ≤ 1) (hb : b ≤ 1) : a ^^^ b ≤ 1 := by
  have e1 : a = 0 ∨ a = 1 := by omega
  have e2 : b = 0 ∨ b = 1 := by omega
  rcases e1 with rfl | rfl <;> rcases e2 with rfl | rfl <;> decide
theorem mrX_n (F : Nat → Int64) (a : Nat) {r : Nat} (hr : r < 4) : mrX F a r = nI (r / 2 ^ 1 ^^^ lbc (F (2 * a + 1))) := by
  unfold mrX
  rw [← nx_xor]
  congr 1
  match r, hr with
  | 0, _ => decide
  | 1, _ => decide
  | 2, _ => decide
  | 3, _ => decide
  | r + 4, h => exact absurd h (by omega)
theorem mrY_n (F : Nat → Int64) (a : Nat) {r : Nat} (hr : r < 4) : mrY F a r = nI ((r &&& 1) ^^^ lbc (F (2 * a + 1))) := by
  unfold mrY
  rw [← nx_xor, ← nx_and]
  rfl
theorem r2_le {r : Nat} (hr : r < 4) : r / 2 ^ 1 ≤ 1 := by omega
theorem r1_le (r : Nat) : r &&& 1 ≤ 1 := Nat.and_le_right
/-- what the reference has of a table's first r rows -/
abbrev tI (fz fr fz0 fr0 : Nat → Nat) (j y v t r : Nat) (S : gS) (d1 d2 : Int64) : Prop :=
  zRl fz j S.1 v ∧ ((y = 0 ∨ 0 < r) → lbM fz (16 * (56 * j + v)) (S.1 (2 * v)) (S.1 (2 * v + 1))) ∧ rRl fr j S.2.1 y t ∧ (∀ q, q < r → lbM fr (16 * (4 * (40 * j + t) + q)) (S.2.1 (2 * (4 * t + q))) (S.2.1 (2 * (4 * t + q) + 1))) ∧ (S.1 (2 * 56) = d1 ∧ S.1 (2 * 56 + 1) = d2) ∧ (∀ p, p < 896 * j → fz p = fz0 p) ∧ (∀ p, p < 2560 * j → fr p = fr0 p)
theorem zx_B2 (b : Int32) (z y d e : Int64) (j : Nat) : byW (zx b z d) (zx b y e) j = byW z y j ^^^ (if b = 1 then byW d e j else 0) := by
  rw [zx_B]
  split
  · rfl
  · rw [Nat.xor_zero]
theorem xx_0 (a : Nat) : a ^^^ a = 0 := Nat.xor_self a
theorem byW_0 (b : Nat) : byW 0 0 b = 0 := by
  unfold byW lby
  split <;> simp
theorem zx_zx (b : Int32) (h d : Int64) : zx b (zx b h d) d ^^^ h = 0 := by
  unfold zx
  split
  · rw [Int64.xor_assoc h d d, Int64.xor_self, Int64.xor_zero, Int64.xor_self]
  · rw [Int64.xor_self]
theorem rRl_p {fr g : Nat → Nat} {j : Nat} {R : Nat → Int64} {y t q : Nat} {h l : Int64} (H : rRl fr j R y t) (hq : q < 4) : rRl (filN fr (16 * (4 * (40 * j + t) + q)) 16 g) j (lbP R (4 * t + q) h l) y t := by
  intro u s hu hs h2
  rw [(lbP_n R h l (show 4 * u + s ≠ 4 * t + q by omega)).1, (lbP_n R h l (show 4 * u + s ≠ 4 * t + q by omega)).2]
  exact lbM_o (H u s hu hs h2) (by omega)
theorem tI_1 {fz fr fz0 fr0 hh fd gz gr : Nat → Nat} {ks : Nat → Int32} {s : Int32} {j y v a b t r : Nat} {S : gS} {d1 d2 : Int64} (I : tI fz fr fz0 fr0 j y v t r S d1 d2) (hv : v < 56) (ht : t < 40) (hr : r < 4) (hyr : y = 1 ∧ r = 0) (hd : lbM fd (16 * j) d1 d2)
    (tr : Int32) (htr : tr = trO s (mrX S.1 a r) (mrY S.1 b r)) (H : Int64 × Int64) (hH : H = hs2 ks (lfr S.1 (mrX S.1 a r) a).1 (lfr S.1 (mrX S.1 a r) a).2 (lfr S.1 (mrY S.1 b r) b).1 (lfr S.1 (mrY S.1 b r) b).2 (nI t)) (qh : ∀ b, b < 16 → hh b = byW H.1 H.2 b)
    (hgz : ∀ b, b < 16 → gz b = hh b ^^^ (if tr = 1 then fd (16 * j + b) else 0)) (hgr : ∀ b, b < 16 → gr b = 0) :
    tI (filN fz (16 * (56 * j + v)) 16 gz) (filN fr (16 * (4 * (40 * j + t) + r)) 16 gr) fz0 fr0 j y v t (r + 1) (mkR ks s y v a b t r S) d1 d2 := by
  obtain ⟨i1, i2, i3, i4, i5, i6, i7⟩ := I
  have e : mkR ks s y v a b t r S = (lbP S.1 v (zx tr H.1 d1) (zx tr H.2 d2), lbP S.2.1 (4 * t + r) (zx tr (lbP S.1 v (zx tr H.1 d1) (zx tr H.2 d2) (2 * v)) d1 ^^^ H.1) (zx tr (lbP S.1 v (zx tr H.1 d1) (zx tr H.2 d2) (2 * v + 1)) d2 ^^^ H.2), (mkR ks s y v a b t r S).2.2) := by
    rw [← i5.1, ← i5.2, hH, htr]
    unfold mkR
    simp only [if_pos hyr]
  rw [e]
  rw [(lbP_s S.1 v (zx tr H.1 d1) (zx tr H.2 d2)).1, (lbP_s S.1 v (zx tr H.1 d1) (zx tr H.2 d2)).2, zx_zx, zx_zx]
  have G : ∀ b, b < 16 → gz b = byW (zx tr H.1 d1) (zx tr H.2 d2) b := by
    intro b hb
    rw [hgz b hb, zx_B2, qh b hb, hd b hb]
  refine ⟨?_, ?_, ?_, ?_, ?_, ?_, ?_⟩
  · intro u hu
    exact zRl_s i1 G u (by omega)
  · intro _
    exact zRl_s i1 G v (by omega)
  · exact rRl_p i3 hr
  · intro q hq
    have e2 : q = r := by omega
    subst e2
    show lbM _ _ (lbP _ _ _ _ _) (lbP _ _ _ _ _)
    rw [(lbP_s S.2.1 (4 * t + q) 0 0).1, (lbP_s S.2.1 (4 * t + q) 0 0).2]
    exact lbM_f (fun b hb => by rw [hgr b hb, byW_0])
  · refine ⟨?_, ?_⟩
    · show lbP _ _ _ _ _ = _
      rw [(lbP_n S.1 (zx tr H.1 d1) (zx tr H.2 d2) (show 56 ≠ v by omega)).1, i5.1]
    · show lbP _ _ _ _ _ = _
      rw [(lbP_n S.1 (zx tr H.1 d1) (zx tr H.2 d2) (show 56 ≠ v by omega)).2, i5.2]
  · intro p hp
    rw [filN_o (by omega), i6 p hp]
  · intro p hp
    rw [filN_o (by omega), i7 p hp]
theorem tI_2 {fz fr fz0 fr0 hh fd gr : Nat → Nat} {ks : Nat → Int32} {s : Int32} {j y v a b t r : Nat} {S : gS} {d1 d2 : Int64} (I : tI fz fr fz0 fr0 j y v t r S d1 d2) (hv : v < 56) (ht : t < 40) (hr : r < 4) (hy : y < 2) (hyr : ¬ (y = 1 ∧ r = 0)) (hd : lbM fd (16 * j) d1 d2)
    (tr : Int32) (htr : tr = trO s (mrX S.1 a r) (mrY S.1 b r)) (H : Int64 × Int64) (hH : H = hs2 ks (lfr S.1 (mrX S.1 a r) a).1 (lfr S.1 (mrX S.1 a r) a).2 (lfr S.1 (mrY S.1 b r) b).1 (lfr S.1 (mrY S.1 b r) b).2 (nI t)) (qh : ∀ b, b < 16 → hh b = byW H.1 H.2 b)
    (hgr : ∀ b, b < 16 → gr b = hh b ^^^ fz (16 * (56 * j + v) + b) ^^^ (if tr = 1 then fd (16 * j + b) else 0)) :
    tI fz (filN fr (16 * (4 * (40 * j + t) + r)) 16 gr) fz0 fr0 j y v t (r + 1) (mkR ks s y v a b t r S) d1 d2 := by
  obtain ⟨i1, i2, i3, i4, i5, i6, i7⟩ := I
  have e : mkR ks s y v a b t r S = (S.1, lbP S.2.1 (4 * t + r) (zx tr (S.1 (2 * v)) d1 ^^^ H.1) (zx tr (S.1 (2 * v + 1)) d2 ^^^ H.2), (mkR ks s y v a b t r S).2.2) := by
    rw [← i5.1, ← i5.2, hH, htr]
    unfold mkR
    simp only [if_neg hyr]
  rw [e]
  have L2 := i2 (by omega)
  refine ⟨i1, fun _ => L2, rRl_p i3 hr, ?_, i5, i6, ?_⟩
  · intro q hq
    show lbM _ _ (lbP _ _ _ _ _) (lbP _ _ _ _ _)
    by_cases e2 : q = r
    · subst e2
      rw [(lbP_s S.2.1 (4 * t + q) (zx tr (S.1 (2 * v)) d1 ^^^ H.1) (zx tr (S.1 (2 * v + 1)) d2 ^^^ H.2)).1, (lbP_s S.2.1 (4 * t + q) (zx tr (S.1 (2 * v)) d1 ^^^ H.1) (zx tr (S.1 (2 * v + 1)) d2 ^^^ H.2)).2]
      refine lbM_f (fun b hb => ?_)
      rw [hgr b hb, byW_xor, zx_B2, qh b hb, L2 b hb, hd b hb]
      simp only [Nat.xor_assoc, Nat.xor_comm, xor_lc]
    · rw [(lbP_n S.2.1 (zx tr (S.1 (2 * v)) d1 ^^^ H.1) (zx tr (S.1 (2 * v + 1)) d2 ^^^ H.2) (show 4 * t + q ≠ 4 * t + r by omega)).1, (lbP_n S.2.1 (zx tr (S.1 (2 * v)) d1 ^^^ H.1) (zx tr (S.1 (2 * v + 1)) d2 ^^^ H.2) (show 4 * t + q ≠ 4 * t + r by omega)).2]
      exact lbM_o (i4 q (by omega)) (by omega)
  · intro p hp
    rw [filN_o (by omega), i7 p hp]
/-- both labels of a wire -/
abbrev prG (fz fd : Nat → Nat) (j v x : Nat) : Nat → Nat := fun b => if x = 1 then fz (16 * (56 * j + v) + b) ^^^ fd (16 * j + b) else fz (16 * (56 * j + v) + b)
abbrev prH (fz fd : Nat → Nat) (j v x : Nat) : Nat → Nat := fun b => if x = 1 then fz (16 * (56 * j + v) + b) else fz (16 * (56 * j + v) + b) ^^^ fd (16 * j + b)
theorem pr_0 {f fz fd : Nat → Nat} {j v x : Nat} (hx : x ≤ 1) {h l d1 d2 : Int64} (hz : lbM fz (16 * (56 * j + v)) h l) (hd : lbM fd (16 * j) d1 d2) : ∀ b, b < 16 → filN (filN f 0 16 (prG fz fd j v x)) 16 16 (prH fz fd j v x) (0 + b) = byW (zx (nI x) h d1) (zx (nI x) l d2) b := by
  intro b hb
  rw [Nat.zero_add, filN_o (by omega), filN_z hb, zx_1 x hx, zx_1 x hx]
  show (if x = 1 then _ else _) = _
  split
  · rw [hz b hb, hd b hb, byW_xor]
  · rw [hz b hb]
theorem pr_1 {f fz fd : Nat → Nat} {j v x : Nat} (hx : x ≤ 1) {h l d1 d2 : Int64} (hz : lbM fz (16 * (56 * j + v)) h l) (hd : lbM fd (16 * j) d1 d2) : ∀ b, b < 16 → filN (filN f 0 16 (prG fz fd j v x)) 16 16 (prH fz fd j v x) (16 + b) = byW (zx (1 - nI x) h d1) (zx (1 - nI x) l d2) b := by
  intro b hb
  rw [filN_i hb, zx_0 x hx, zx_0 x hx]
  show (if x = 1 then _ else _) = _
  split
  · rw [hz b hb]
  · rw [hz b hb, hd b hb, byW_xor]
/-! ===== a table of halves ===== -/
def bN (x : Int32) : Nat := if x = 1 then 1 else 0
theorem bN_le (x : Int32) : bN x ≤ 1 := by
  unfold bN
  split <;> decide
theorem tL_01 (s : Int32) : tL s = nI (bN (tL s)) := by
  unfold tL
  (repeat' split) <;> rfl
theorem tR_01 (s : Int32) : tR s = nI (bN (tR s)) := by
  unfold tR
  (repeat' split) <;> rfl
theorem tW_01 (s : Int32) : tW s = nI (bN (tW s)) := by
  unfold tW
  (repeat' split) <;> rfl
theorem tR_o (s : Int32) : (if s = 124 then (1 : Int32) else (if s = 47 then (1 : Int32) else (if s = 35 then (1 : Int32) else 0))) = tR s := by
  unfold tR
  by_cases h1 : s = 124
  · rw [if_pos h1, if_pos h1]
  · rw [if_neg h1, if_neg h1]
    by_cases h2 : s = 47
    · rw [if_pos h2, if_pos h2, ite_self]
    · rw [if_neg h2, if_neg h2]
theorem filN3 (f : Nat → Nat) (p : Nat) (a0 a1 b0 : Nat → Nat) (r : Nat) (hr : p + 16 ≤ r) : filN (filN (filN f p 16 a0) r 16 a1) p 16 b0 = filN (filN f p 16 b0) r 16 a1 := by
  funext j
  unfold filN
  by_cases h : p ≤ j ∧ j < p + 16
  · rw [if_pos h, if_neg (by omega), if_pos h]
  · rw [if_neg h, if_neg h, if_neg h]
theorem fil2_g (f : Nat → Nat) (p r i : Nat) (g0 g1 : Nat → Nat) (hr : p + 16 ≤ r) (hi : i < 16) : updN (updN (filN (filN f p i g0) r i g1) (p + i) (g0 i)) (r + i) (g1 i) = filN (filN f p (i + 1) g0) r (i + 1) g1 := by
  rw [← filN_s, ← filN_s]
  funext j
  unfold updN filN
  by_cases a : j = r + i
  · rw [if_pos a, if_pos a]
  · rw [if_neg a, if_neg a]
    by_cases b : j = p + i
    · rw [if_pos b, if_neg (by omega)]
      exact (if_pos b).symm
    · rw [if_neg b]
      by_cases c : r ≤ j ∧ j < r + i
      · rw [if_pos c, if_pos c]
      · rw [if_neg c, if_neg c]
        exact (if_neg b).symm
theorem mkH_B {fz fr fz0 fr0 fd z3 b0 b1 h1 h2 h3 h4 : Nat → Nat} {ks : Nat → Int32} {s : Int32} {j v a b t : Nat} {S : gS} (hv : v < 56) (hav : a < v) (hbv : b < v) (ht : t < 40)
    (hz : zRl fz j S.1 v) (hR : rRl fr j S.2.1 2 t) (hfz : ∀ p, p < 896 * j → fz p = fz0 p) (hfr : ∀ p, p < 2560 * j → fr p = fr0 p) (hd : lbM fd (16 * j) (S.1 (2 * 56)) (S.1 (2 * 56 + 1)))
    (q1 : ∀ k, k < 16 → h1 k = byW (hs1 ks (lfr S.1 (tL s) a).1 (lfr S.1 (tL s) a).2 (2 * nI t)).1 (hs1 ks (lfr S.1 (tL s) a).1 (lfr S.1 (tL s) a).2 (2 * nI t)).2 k)
    (q2 : ∀ k, k < 16 → h2 k = byW (hs1 ks (lfr S.1 (tR s) b).1 (lfr S.1 (tR s) b).2 (2 * nI t + 1)).1 (hs1 ks (lfr S.1 (tR s) b).1 (lfr S.1 (tR s) b).2 (2 * nI t + 1)).2 k)
    (q3 : ∀ k, k < 16 → h3 k = byW (hs1 ks (lfr S.1 (1 - tL s) a).1 (lfr S.1 (1 - tL s) a).2 (2 * nI t)).1 (hs1 ks (lfr S.1 (1 - tL s) a).1 (lfr S.1 (1 - tL s) a).2 (2 * nI t)).2 k)
    (q4 : ∀ k, k < 16 → h4 k = byW (hs1 ks (lfr S.1 (1 - tR s) b).1 (lfr S.1 (1 - tR s) b).2 (2 * nI t + 1)).1 (hs1 ks (lfr S.1 (1 - tR s) b).1 (lfr S.1 (1 - tR s) b).2 (2 * nI t + 1)).2 k)
    (A : Nat → Nat) (hA : ∀ k, k < 16 → A k = byW (lfr S.1 (tL s) a).1 (lfr S.1 (tL s) a).2 k)
    (e0 : ∀ k, k < 16 → b0 k = (if lbc (lfr S.1 (tR s) b).2 = 1 then fd (16 * j + k) else 0) ^^^ h1 k ^^^ h3 k) (e1 : ∀ k, k < 16 → b1 k = A k ^^^ h2 k ^^^ h4 k)
    (e2 : ∀ k, k < 16 → z3 k = (if bN (tW s) = 1 then fd (16 * j + k) else 0) ^^^ h1 k ^^^ h2 k ^^^ 0 ^^^ 0 ^^^ ((if lbc (lfr S.1 (tL s) a).2 = 1 then b0 k else 0) ^^^ (if lbc (lfr S.1 (tR s) b).2 = 1 then b1 k ^^^ A k else 0))) :
    zRl (filN fz (16 * (56 * j + v)) 16 z3) j (mkH ks s v a b t S).1 (v + 1) ∧ rRl (filN (filN fr (16 * (4 * (40 * j + t) + 0)) 16 b0) (16 * (4 * (40 * j + t) + 1)) 16 b1) j (mkH ks s v a b t S).2.1 2 (t + 1) ∧ (∀ p, p < 896 * j → filN fz (16 * (56 * j + v)) 16 z3 p = fz0 p) ∧ (∀ p, p < 2560 * j → filN (filN fr (16 * (4 * (40 * j + t) + 0)) 16 b0) (16 * (4 * (40 * j + t) + 1)) 16 b1 p = fr0 p) := by
  generalize hHA : hs1 ks (lfr S.1 (tL s) a).1 (lfr S.1 (tL s) a).2 (2 * nI t) = HA at q1
  generalize hHB : hs1 ks (lfr S.1 (tR s) b).1 (lfr S.1 (tR s) b).2 (2 * nI t + 1) = HB at q2
  generalize hHA' : hs1 ks (lfr S.1 (1 - tL s) a).1 (lfr S.1 (1 - tL s) a).2 (2 * nI t) = HA' at q3
  generalize hHB' : hs1 ks (lfr S.1 (1 - tR s) b).1 (lfr S.1 (1 - tR s) b).2 (2 * nI t + 1) = HB' at q4
  have eH : mkH ks s v a b t S = (lbS S.1 v (mhW (S.1 (2 * 56), S.1 (2 * 56 + 1)) (lfr S.1 (tL s) a) (lfr S.1 (tR s) b) HA HB (mhR0 (S.1 (2 * 56), S.1 (2 * 56 + 1)) (lfr S.1 (tL s) a) (lfr S.1 (1 - tL s) a) (lfr S.1 (tR s) b) HA HA') (mhR1 (lfr S.1 (tL s) a) HB HB') (tW s)), lbS (lbS S.2.1 (4 * t + 0) (mhR0 (S.1 (2 * 56), S.1 (2 * 56 + 1)) (lfr S.1 (tL s) a) (lfr S.1 (1 - tL s) a) (lfr S.1 (tR s) b) HA HA')) (4 * t + 1) (mhR1 (lfr S.1 (tL s) a) HB HB'), (mkH ks s v a b t S).2.2) := by
    rw [← hHA, ← hHB, ← hHA', ← hHB']
    rfl
  rw [eH]
  generalize lfr S.1 (tL s) a = LA at *
  generalize lfr S.1 (tR s) b = LB at *
  generalize lfr S.1 (1 - tL s) a = LA' at *
  have hb0 : ∀ k, k < 16 → b0 k = byW (mhR0 (S.1 (2 * 56), S.1 (2 * 56 + 1)) LA LA' LB HA HA').1 (mhR0 (S.1 (2 * 56), S.1 (2 * 56 + 1)) LA LA' LB HA HA').2 k := by
    intro k hk
    rw [e0 k hk]
    unfold mhR0
    rw [zx_1 _ (lbc_le _), zx_1 _ (lbc_le _)]
    by_cases h : lbc LB.2 = 1
    · rw [if_pos h, if_pos h, if_pos h, byW_xor, byW_xor, q1 k hk, q3 k hk, hd k hk]
      simp only [Nat.xor_assoc, Nat.xor_comm, xor_lc]
    · rw [if_neg h, if_neg h, if_neg h, byW_xor, q1 k hk, q3 k hk, Nat.zero_xor]
  have hb1 : ∀ k, k < 16 → b1 k = byW (mhR1 LA HB HB').1 (mhR1 LA HB HB').2 k := by
    intro k hk
    rw [e1 k hk]
    unfold mhR1
    rw [byW_xor, byW_xor, q2 k hk, q4 k hk, hA k hk]
    simp only [Nat.xor_assoc, Nat.xor_comm, xor_lc]
  have hz3 : ∀ k, k < 16 → z3 k = byW (mhW (S.1 (2 * 56), S.1 (2 * 56 + 1)) LA LB HA HB (mhR0 (S.1 (2 * 56), S.1 (2 * 56 + 1)) LA LA' LB HA HA') (mhR1 LA HB HB') (tW s)).1 (mhW (S.1 (2 * 56), S.1 (2 * 56 + 1)) LA LB HA HB (mhR0 (S.1 (2 * 56), S.1 (2 * 56 + 1)) LA LA' LB HA HA') (mhR1 LA HB HB') (tW s)).2 k := by
    intro k hk
    rw [e2 k hk]
    unfold mhW
    have ew : (if bN (tW s) = 1 then fd (16 * j + k) else 0) = (if tW s = 1 then byW (S.1 (2 * 56)) (S.1 (2 * 56 + 1)) k else 0) := by
      rw [hd k hk]
      unfold bN
      by_cases h : tW s = 1
      · rw [if_pos h, if_pos h, if_pos rfl]
      · rw [if_neg h, if_neg h, if_neg (by decide)]
    rw [zx_B2, jnH_B (lbc_le _) (lbc_le _), ew, ← hb0 k hk, ← hb1 k hk, ← q1 k hk, ← q2 k hk, ← hA k hk, Nat.xor_zero, Nat.xor_zero]
    simp only [Nat.xor_assoc, Nat.xor_comm, xor_lc]
  generalize mhR0 (S.1 (2 * 56), S.1 (2 * 56 + 1)) LA LA' LB HA HA' = P0 at *
  generalize mhR1 LA HB HB' = P1 at *
  generalize mhW (S.1 (2 * 56), S.1 (2 * 56 + 1)) LA LB HA HB P0 P1 (tW s) = PW at *
  refine ⟨zRl_s hz hz3, ?_, ?_, ?_⟩
  · intro u r hu hr h2
    show lbM _ _ (lbP (lbP S.2.1 (4 * t + 0) P0.1 P0.2) (4 * t + 1) P1.1 P1.2 _) (lbP (lbP S.2.1 (4 * t + 0) P0.1 P0.2) (4 * t + 1) P1.1 P1.2 _)
    have hr2 := h2 rfl
    by_cases ht2 : u = t
    · subst ht2
      by_cases hr1 : r = 1
      · subst hr1
        rw [(lbP_s _ _ _ _).1, (lbP_s _ _ _ _).2]
        exact lbM_f hb1
      · have hr0 : r = 0 := by omega
        subst hr0
        rw [(lbP_n _ _ _ (show 4 * u + 0 ≠ 4 * u + 1 by omega)).1, (lbP_n _ _ _ (show 4 * u + 0 ≠ 4 * u + 1 by omega)).2, (lbP_s _ _ _ _).1, (lbP_s _ _ _ _).2]
        exact lbM_o (lbM_f hb0) (by omega)
    · rw [(lbP_n _ _ _ (show 4 * u + r ≠ 4 * t + 1 by omega)).1, (lbP_n _ _ _ (show 4 * u + r ≠ 4 * t + 1 by omega)).2, (lbP_n _ _ _ (show 4 * u + r ≠ 4 * t + 0 by omega)).1, (lbP_n _ _ _ (show 4 * u + r ≠ 4 * t + 0 by omega)).2]
      exact lbM_o (lbM_o (hR u r (by omega) hr h2) (by omega)) (by omega)
  · intro p hp
    rw [filN_o (by omega), hfz p hp]
  · intro p hp
    rw [filN_o (by omega), filN_o (by omega), hfr p hp]
theorem tI_1z {fz fr fz0 fr0 hh fd gz gr : Nat → Nat} {ks : Nat → Int32} {s : Int32} {j y v a b t r : Nat} {S : gS} {d1 d2 : Int64} (I : tI fz fr fz0 fr0 j y v t r S d1 d2) (hv : v < 56) (ht : t < 40) (hr : r < 4) (hyr : y = 1 ∧ r = 0) (hd : lbM fd (16 * j) d1 d2)
    (tr : Int32) (htr : tr = trO s (mrX S.1 a r) (mrY S.1 b r)) (H : Int64 × Int64) (hH : H = hs2 ks (lfr S.1 (mrX S.1 a r) a).1 (lfr S.1 (mrX S.1 a r) a).2 (lfr S.1 (mrY S.1 b r) b).1 (lfr S.1 (mrY S.1 b r) b).2 (nI t)) (qh : ∀ b, b < 16 → hh b = byW H.1 H.2 b)
    (hgz : ∀ b, b < 16 → gz b = hh b ^^^ (if tr = 1 then fd (16 * j + b) else 0)) (hgr : ∀ b, b < 16 → gr b = 0) :
    tI (filN fz (16 * (56 * j + v)) 16 gz) (filN fr (16 * (4 * (40 * j + t) + 0)) 16 gr) fz0 fr0 j y v t (r + 1) (mkR ks s y v a b t r S) d1 d2 := by
  have k := tI_1 I hv ht hr hyr hd tr htr H hH qh hgz hgr
  have e := hyr.2
  subst e
  exact k
theorem pr_0t {f fz fd : Nat → Nat} {j v : Nat} {t : Int32} {F : Nat → Int64} (ht : t = nI (bN t)) (hz : lbM fz (16 * (56 * j + v)) (F (2 * v)) (F (2 * v + 1))) (hd : lbM fd (16 * j) (F (2 * 56)) (F (2 * 56 + 1))) : ∀ b, b < 16 → filN (filN f 0 16 (prG fz fd j v (bN t))) 16 16 (prH fz fd j v (bN t)) (0 + b) = byW (lfr F t v).1 (lfr F t v).2 b := by
  have k := pr_0 (f := f) (bN_le t) hz hd
  rw [← ht] at k
  exact k
theorem pr_1t {f fz fd : Nat → Nat} {j v : Nat} {t : Int32} {F : Nat → Int64} (ht : t = nI (bN t)) (hz : lbM fz (16 * (56 * j + v)) (F (2 * v)) (F (2 * v + 1))) (hd : lbM fd (16 * j) (F (2 * 56)) (F (2 * 56 + 1))) : ∀ b, b < 16 → filN (filN f 0 16 (prG fz fd j v (bN t))) 16 16 (prH fz fd j v (bN t)) (16 + b) = byW (lfr F (1 - t) v).1 (lfr F (1 - t) v).2 b := by
  have k := pr_1 (f := f) (bN_le t) hz hd
  rw [← ht] at k
  exact k
