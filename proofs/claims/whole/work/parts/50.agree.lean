/-! ===== opening; agreeing ===== -/
theorem lg_0 (x y : Int64) : lg_cmp x y = 0 ↔ x = y := by
  unfold lg_cmp
  by_cases h : x > y
  · rw [if_pos h]
    refine ⟨fun z => absurd z (by decide), fun z => ?_⟩
    subst z
    exact absurd h Int64.lt_irrefl
  · rw [if_neg h]
    by_cases e : x = y
    · rw [if_pos e]
      exact ⟨fun _ => e, fun _ => rfl⟩
    · rw [if_neg e]
      exact ⟨fun z => absurd z (by decide), fun z => absurd z e⟩
theorem opA_c {fn fz : Nat → Nat} {p : Nat} (h1 : ∀ b, b < 16 → fn (p + b) < 256) (h2 : ∀ b, b < 16 → fz (p + b) < 256) : ∀ i, i ≤ 16 → ((∀ b, b < i → fn (p + b) = fz (p + b)) → opA fn fz p i = 1) ∧ (¬ (∀ b, b < i → fn (p + b) = fz (p + b)) → opA fn fz p i = 0)
  | 0, _ => ⟨fun _ => rfl, fun h => absurd (fun b hb => absurd hb (by omega)) h⟩
  | i + 1, hi => by
    obtain ⟨a, b⟩ := opA_c h1 h2 i (by omega)
    have e : nI (fn (p + i)) = nI (fz (p + i)) ↔ fn (p + i) = fz (p + i) := nI_eq (by have := h1 i (by omega); omega) (by have := h2 i (by omega); omega)
    refine ⟨fun h => ?_, fun h => ?_⟩
    · show opA fn fz p i &&& _ = _
      rw [a (fun b hb => h b (by omega)), if_pos (e.mpr (h i (by omega)))]
      rfl
    · show opA fn fz p i &&& _ = _
      by_cases hq : fn (p + i) = fz (p + i)
      · rw [b (fun z => h (fun k hk => (Nat.lt_succ_iff_lt_or_eq.mp hk).elim (z k) (fun y => y ▸ hq)))]
        rw [if_pos (e.mpr hq)]
        rfl
      · rw [if_neg (fun z => hq (e.mp z))]
        by_cases hz : ∀ b, b < i → fn (p + b) = fz (p + b)
        · rw [a hz]; rfl
        · rw [b hz]; rfl
theorem opB_c {fn fz fd : Nat → Nat} {p d : Nat} (h1 : ∀ b, b < 16 → fn (p + b) < 256) (h2 : ∀ b, b < 16 → fz (p + b) < 256) (h3 : ∀ b, b < 16 → fd (d + b) < 256) : ∀ i, i ≤ 16 → ((∀ b, b < i → fn (p + b) = fz (p + b) ^^^ fd (d + b)) → opB fn fz fd p d i = 1) ∧ (¬ (∀ b, b < i → fn (p + b) = fz (p + b) ^^^ fd (d + b)) → opB fn fz fd p d i = 0)
  | 0, _ => ⟨fun _ => rfl, fun h => absurd (fun b hb => absurd hb (by omega)) h⟩
  | i + 1, hi => by
    obtain ⟨a, b⟩ := opB_c h1 h2 h3 i (by omega)
    have e : nI (fn (p + i)) = nI (fz (p + i)) ^^^ nI (fd (d + i)) ↔ fn (p + i) = fz (p + i) ^^^ fd (d + i) := by
      rw [nx_xor]
      have := xor_byte (h2 i (by omega)) (h3 i (by omega))
      exact nI_eq (by have := h1 i (by omega); omega) (by omega)
    refine ⟨fun h => ?_, fun h => ?_⟩
    · show opB fn fz fd p d i &&& _ = _
      rw [a (fun b hb => h b (by omega)), if_pos (e.mpr (h i (by omega)))]
      rfl
    · show opB fn fz fd p d i &&& _ = _
      by_cases hq : fn (p + i) = fz (p + i) ^^^ fd (d + i)
      · rw [b (fun z => h (fun k hk => (Nat.lt_succ_iff_lt_or_eq.mp hk).elim (z k) (fun y => y ▸ hq)))]
        rw [if_pos (e.mpr hq)]
        rfl
      · rw [if_neg (fun z => hq (e.mp z))]
        by_cases hz : ∀ b, b < i → fn (p + b) = fz (p + b) ^^^ fd (d + b)
        · rw [a hz]; rfl
        · rw [b hz]; rfl
theorem xx_eq {h l zh zl d1 d2 : Int64} : (∀ b, b < 16 → byW h l b = byW zh zl b ^^^ byW d1 d2 b) ↔ (h ^^^ zh = d1 ∧ l ^^^ zl = d2) := by
  constructor
  · intro H
    have := byW_ext (h := h ^^^ zh) (l := l ^^^ zl) (h2 := d1) (l2 := d2) (fun b hb => by
      rw [byW_xor, H b hb, Nat.xor_comm (byW zh zl b), Nat.xor_assoc, Nat.xor_self, Nat.xor_zero])
    exact this
  · intro ⟨a, b⟩ k _
    rw [← a, ← b, byW_xor, Nat.xor_comm (byW h l k), ← Nat.xor_assoc, Nat.xor_self, Nat.zero_xor]
/-- a wire opened: the reference and the class -/
theorem opM_F {fn fz fd : Nat → Nat} {Zc U : Nat → Int64} {j v : Nat} (hu : lbM fn (16 * (56 * j + v)) (U (2 * v)) (U (2 * v + 1))) (hz : lbM fz (16 * (56 * j + v)) (Zc (2 * v)) (Zc (2 * v + 1))) (hd : lbM fd (16 * j) (Zc (2 * 56)) (Zc (2 * 56 + 1))) : opM fn fz fd j v = opF Zc U v := by
  have b1 : ∀ b, b < 16 → fn (16 * (56 * j + v) + b) < 256 := fun b hb => by rw [hu b hb]; exact byW_lt _ _ _
  have b2 : ∀ b, b < 16 → fz (16 * (56 * j + v) + b) < 256 := fun b hb => by rw [hz b hb]; exact byW_lt _ _ _
  have b3 : ∀ b, b < 16 → fd (16 * j + b) < 256 := fun b hb => by rw [hd b hb]; exact byW_lt _ _ _
  have A := opA_c b1 b2 16 (Nat.le_refl _)
  have B := opB_c b1 b2 b3 16 (Nat.le_refl _)
  have eA : (∀ b, b < 16 → fn (16 * (56 * j + v) + b) = fz (16 * (56 * j + v) + b)) ↔ (U (2 * v) ^^^ Zc (2 * v) = 0 ∧ U (2 * v + 1) ^^^ Zc (2 * v + 1) = 0) := by
    rw [← xx_eq]
    constructor
    · intro H b hb
      rw [byW_0, Nat.xor_zero, ← hu b hb, ← hz b hb, H b hb]
    · intro H b hb
      rw [hu b hb, hz b hb, H b hb, byW_0, Nat.xor_zero]
  have eB : (∀ b, b < 16 → fn (16 * (56 * j + v) + b) = fz (16 * (56 * j + v) + b) ^^^ fd (16 * j + b)) ↔ (U (2 * v) ^^^ Zc (2 * v) = Zc (2 * 56) ∧ U (2 * v + 1) ^^^ Zc (2 * v + 1) = Zc (2 * 56 + 1)) := by
    rw [← xx_eq]
    constructor
    · intro H b hb
      rw [← hu b hb, ← hz b hb, ← hd b hb, H b hb]
    · intro H b hb
      rw [hu b hb, hz b hb, hd b hb, H b hb]
  unfold opM opF opW opX
  by_cases ha : U (2 * v) ^^^ Zc (2 * v) = 0 ∧ U (2 * v + 1) ^^^ Zc (2 * v + 1) = 0
  · rw [A.1 (eA.mpr ha), if_neg (by decide), if_pos ((lg_0 _ _).mpr ha.1), if_pos ((lg_0 _ _).mpr ha.2)]
  · rw [A.2 (fun z => ha (eA.mp z)), if_pos rfl]
    have k : (if lg_cmp (U (2 * v) ^^^ Zc (2 * v)) 0 = 0 then (if lg_cmp (U (2 * v + 1) ^^^ Zc (2 * v + 1)) 0 = 0 then (0 : Int32) else (if lg_cmp (U (2 * v) ^^^ Zc (2 * v)) (Zc (2 * 56)) = 0 then (if lg_cmp (U (2 * v + 1) ^^^ Zc (2 * v + 1)) (Zc (2 * 56 + 1)) = 0 then 1 else 2) else 2)) else (if lg_cmp (U (2 * v) ^^^ Zc (2 * v)) (Zc (2 * 56)) = 0 then (if lg_cmp (U (2 * v + 1) ^^^ Zc (2 * v + 1)) (Zc (2 * 56 + 1)) = 0 then 1 else 2) else 2)) = (if lg_cmp (U (2 * v) ^^^ Zc (2 * v)) (Zc (2 * 56)) = 0 then (if lg_cmp (U (2 * v + 1) ^^^ Zc (2 * v + 1)) (Zc (2 * 56 + 1)) = 0 then 1 else 2) else 2) := by
      by_cases h1 : lg_cmp (U (2 * v) ^^^ Zc (2 * v)) 0 = 0
      · rw [if_pos h1]
        by_cases h2 : lg_cmp (U (2 * v + 1) ^^^ Zc (2 * v + 1)) 0 = 0
        · exact absurd ⟨(lg_0 _ _).mp h1, (lg_0 _ _).mp h2⟩ ha
        · rw [if_neg h2]
      · rw [if_neg h1]
    rw [k]
    by_cases hb : U (2 * v) ^^^ Zc (2 * v) = Zc (2 * 56) ∧ U (2 * v + 1) ^^^ Zc (2 * v + 1) = Zc (2 * 56 + 1)
    · rw [B.1 (eB.mpr hb), if_neg (by decide), if_pos ((lg_0 _ _).mpr hb.1), if_pos ((lg_0 _ _).mpr hb.2)]
    · rw [B.2 (fun z => hb (eB.mp z)), if_pos rfl]
      by_cases h1 : lg_cmp (U (2 * v) ^^^ Zc (2 * v)) (Zc (2 * 56)) = 0
      · rw [if_pos h1, if_neg (fun z => hb ⟨(lg_0 _ _).mp h1, (lg_0 _ _).mp z⟩)]
      · rw [if_neg h1]
theorem opF_012 (Zc U : Nat → Int64) (v : Nat) : opF Zc U v = 0 ∨ opF Zc U v = 1 ∨ opF Zc U v = 2 := by
  unfold opF opW opX
  repeat' split
  all_goals first | exact Or.inl rfl | exact Or.inr (Or.inl rfl) | exact Or.inr (Or.inr rfl)
/-- all outputs: downwards, or upwards -/
theorem oaD_n {F : Nat → Int32} {o : Nat} (ho : o ≤ 8) (h : ∀ k, k < o → F k = 0 ∨ F k = 1 ∨ F k = 2) : ∀ m, m ≤ o → ((oaD F o m < 0) ∨ (∃ x, x < 256 ∧ oaD F o m = nI x)) ∧ (∀ all, opn F m (o - m) all = if oaD F o m < 0 then oaD F o m else all ||| oaD F o m)
  | 0, _ => ⟨Or.inr ⟨0, by decide, rfl⟩, fun all => by
      show all = if (0 : Int32) < 0 then 0 else all ||| 0
      rw [if_neg (by decide), Int32.or_zero]⟩
  | m + 1, hm => by
    obtain ⟨i1, i2⟩ := oaD_n ho h m (by omega)
    have e : o - m - 1 = o - (m + 1) := by omega
    have ei : o - (m + 1) + 1 = o - m := by omega
    have hk : o - (m + 1) < 8 := by omega
    have neg : ∀ k, k < 8 → (-100 - nI k : Int32) < 0 := by
      have q : ∀ k, k < 8 → (-100 - Int32.ofNat k : Int32) < 0 := by decide +kernel
      exact q
    have D : oaD F o (m + 1) = if F (o - (m + 1)) = 2 then -100 - nI (o - (m + 1)) else if 0 ≤ oaD F o m then oaD F o m ||| jshl (F (o - (m + 1))) (nI (o - (m + 1))) else oaD F o m := by
      rw [← e]; rfl
    have O : ∀ all, opn F (m + 1) (o - (m + 1)) all = if F (o - (m + 1)) = 2 then -100 - nI (o - (m + 1)) else opn F m (o - (m + 1) + 1) (all ||| jshl (F (o - (m + 1))) (nI (o - (m + 1)))) := fun all => rfl
    by_cases h2 : F (o - (m + 1)) = 2
    · rw [D, if_pos h2]
      refine ⟨Or.inl (neg _ hk), fun all => ?_⟩
      rw [O, if_pos h2, if_pos (neg _ hk)]
    · rw [D, if_neg h2]
      by_cases h0 : oaD F o m < 0
      · rw [if_neg (fun z => Int32.not_lt.mpr z h0)]
        refine ⟨Or.inl h0, fun all => ?_⟩
        rw [O, if_neg h2, ei, i2, if_pos h0, if_pos h0]
      · obtain ⟨x, hx, ex⟩ := i1.resolve_left h0
        rw [if_pos (Int32.not_lt.mp h0)]
        have hf : ∃ y, y < 256 ∧ jshl (F (o - (m + 1))) (nI (o - (m + 1))) = nI y := by
          have p8 : ∀ k, k < 8 → 2 ^ k < 256 := by decide
          rcases (h (o - (m + 1)) (by omega)) with z | z | z
          · rw [z]
            exact ⟨0, by decide, by rw [show (0 : Int32) = nI 0 from rfl, jshl_nI 0 (by omega), Nat.zero_mul]⟩
          · rw [z]
            exact ⟨2 ^ (o - (m + 1)), p8 _ hk, by rw [show (1 : Int32) = nI 1 from rfl, jshl_nI 1 (by omega), Nat.one_mul]⟩
          · exact absurd z h2
        obtain ⟨y, hy, ey⟩ := hf
        have hor : oaD F o m ||| jshl (F (o - (m + 1))) (nI (o - (m + 1))) = nI (x ||| y) := by rw [ex, ey, nx_or]
        have hlt : x ||| y < 256 := or_byte hx hy
        have hn : ¬ nI (x ||| y) < 0 := Int32.not_lt.mpr (nI_nn (by omega))
        refine ⟨Or.inr ⟨x ||| y, hlt, hor⟩, fun all => ?_⟩
        rw [O, if_neg h2, ei, i2, if_neg h0, hor, if_neg hn, ex, ey, ← nx_or, Int32.or_assoc, Int32.or_comm (nI y)]
theorem oaD_opn {F : Nat → Int32} {o : Nat} (ho : o ≤ 8) (h : ∀ k, k < o → F k = 0 ∨ F k = 1 ∨ F k = 2) : oaD F o o = opn F o 0 0 := by
  have := (oaD_n ho h o (Nat.le_refl _)).2 0
  rw [Nat.sub_self] at this
  rw [this]
  split
  · rfl
  · rw [Int32.zero_or]
theorem oaD_c {F G : Nat → Int32} {o : Nat} (h : ∀ k, k < o → F k = G k) : ∀ m, m ≤ o → oaD F o m = oaD G o m
  | 0, _ => rfl
  | m + 1, hm => by
    have ih := oaD_c h m (by omega)
    show (if F (o - m - 1) = 2 then _ else if 0 ≤ oaD F o m then _ else _) = (if G (o - m - 1) = 2 then _ else if 0 ≤ oaD G o m then _ else _)
    rw [ih, h (o - m - 1) (by omega)]
theorem bit_us (x : Int32) {j : Nat} (hj : j < 32) : jushr x (nI j) &&& 1 = nI (bq x j) := by
  rw [pk_and _ 1 (by decide)]
  congr 1
  have := b_ushr j hj x 0
  unfold bt at this
  rw [Nat.add_zero, ← BitVec.testBit_toNat, Nat.testBit_zero] at this
  unfold bq
  rw [← this, show (2 : Nat) ^ 1 = 2 from rfl]
  have h := Nat.mod_two_eq_zero_or_one (jushr x (nI j)).toBitVec.toNat
  rcases h with h | h <;> rw [h] <;> rfl
theorem nI_e1 {x : Nat} (h : x ≤ 1) : nI x = 1 ↔ x = 1 := by
  have e : x = 0 ∨ x = 1 := by omega
  rcases e with rfl | rfl <;> decide
theorem chG_B {fz fd : Nat → Nat} {Zc : Nat → Int64} {j k x : Nat} (hx : x ≤ 1) (hz : lbM fz (16 * (56 * j + k)) (Zc (2 * k)) (Zc (2 * k + 1))) (hd : lbM fd (16 * j) (Zc (2 * 56)) (Zc (2 * 56 + 1))) : ∀ b, b < 16 → chG fz fd j k x b = byW (zx (nI x) (Zc (2 * k)) (Zc (2 * 56))) (zx (nI x) (Zc (2 * k + 1)) (Zc (2 * 56 + 1))) b := by
  intro b hb
  unfold chG
  rw [zx_B2, hz b hb]
  congr 1
  by_cases h : x = 1
  · rw [if_pos h, if_pos ((nI_e1 hx).mpr h), hd b hb]
  · rw [if_neg h, if_neg (fun z => h ((nI_e1 hx).mp z))]
theorem enN_B {fn fz fd : Nat → Nat} {Zc ft : Nat → Int64} {j : Nat} {x : Int32} {n : Nat} (hn : n ≤ 16) (hz : zRl fz j Zc n) (hd : lbM fd (16 * j) (Zc (2 * 56)) (Zc (2 * 56 + 1))) : ∀ m, m ≤ n → zRl (enN fn fz fd j x m) j (pIn Zc x ft m) m ∧ oFr (enN fn fz fd j x m) fn j
  | 0, _ => ⟨fun v h => absurd h (by omega), fun p _ => rfl⟩
  | m + 1, hm => by
    obtain ⟨a, b⟩ := enN_B (fn := fn) (ft := ft) (x := x) hn hz hd m (by omega)
    refine ⟨?_, oFr_s b (by omega)⟩
    show zRl (filN _ _ 16 _) j (lbP _ m _ _) (m + 1)
    rw [bit_us x (show m < 32 by omega)]
    exact zRl_s a (chG_B (bq_le _ _) (hz m (by omega)) hd)
theorem enN_Z {fn fz fd : Nat → Nat} {Zc ft : Nat → Int64} {j : Nat} {x : Int32} {n m : Nat} (hn : n ≤ 16) (hz : zRl fz j Zc n) (hd : lbM fd (16 * j) (Zc (2 * 56)) (Zc (2 * 56 + 1))) (hm : m ≤ n) : zRl (enN fn fz fd j x m) j (pIn Zc x ft m) m := (enN_B hn hz hd m hm).1
def filF (f : Nat → Int32) (p i : Nat) (g : Nat → Int32) : Nat → Int32 := fun j => if p ≤ j ∧ j < p + i then g (j - p) else f j
theorem filF_0 (f : Nat → Int32) (p : Nat) (g : Nat → Int32) : filF f p 0 g = f := by
  funext j
  unfold filF
  rw [if_neg (by omega)]
theorem filF_s (f : Nat → Int32) (p i : Nat) (g : Nat → Int32) : upd (filF f p i g) (p + i) (g i) = filF f p (i + 1) g := by
  funext j
  unfold upd filF
  by_cases h : j = p + i
  · subst h
    rw [if_pos rfl, if_pos (by omega), Nat.add_sub_cancel_left]
  · rw [if_neg h]
    by_cases h2 : p ≤ j ∧ j < p + i
    · rw [if_pos h2, if_pos (by omega)]
    · rw [if_neg h2, if_neg (by omega)]
theorem filF_s0 (f : Nat → Int32) (i : Nat) (g : Nat → Int32) : upd (filF f 0 i g) i (g i) = filF f 0 (i + 1) g := by
  have := filF_s f 0 i g
  rw [Nat.zero_add] at this
  exact this
theorem filF_z {f : Nat → Int32} {i : Nat} {g : Nat → Int32} {j : Nat} (h : j < i) : filF f 0 i g j = g j := by
  unfold filF
  rw [if_pos (by omega), Nat.sub_zero]
theorem nar01 {x : Int32} (h : x = 0 ∨ x = 1) : vp_nar .boolean x = x := by
  rcases h with rfl | rfl <;> rfl
/-- has, outside of garbled j -/
abbrev oFh (f g : Nat → Int32) (j : Nat) : Prop := ∀ p, p < 56 * j ∨ 56 * (j + 1) ≤ p → f p = g p
theorem rst_N {f g : Nat → Nat} {j : Nat} (H : oFr f g j) : filN f (16 * (56 * j + 0)) 896 (fun i => g (16 * (56 * j + 0) + i)) = g := by
  funext p
  unfold filN
  by_cases h : 16 * (56 * j + 0) ≤ p ∧ p < 16 * (56 * j + 0) + 896
  · rw [if_pos h]
    show g (16 * (56 * j + 0) + (p - 16 * (56 * j + 0))) = g p
    rw [show 16 * (56 * j + 0) + (p - 16 * (56 * j + 0)) = p by omega]
  · rw [if_neg h, H p (by omega)]
theorem rst_H {f g : Nat → Int32} {j : Nat} (H : oFh f g j) : filF f (56 * j) 56 (fun i => g (56 * j + i)) = g := by
  funext p
  unfold filF
  by_cases h : 56 * j ≤ p ∧ p < 56 * j + 56
  · rw [if_pos h]
    show g (56 * j + (p - 56 * j)) = g p
    rw [show 56 * j + (p - 56 * j) = p by omega]
  · rw [if_neg h, H p (by omega)]
theorem oFh_f {f g : Nat → Int32} {j p i : Nat} {v : Int32} (H : oFh f g j) (h1 : 56 * j ≤ p) (h2 : p + i ≤ 56 * (j + 1)) : oFh (filI f p i v) g j := by
  intro q hq
  unfold filI
  rw [if_neg (by omega), H q hq]
theorem oFr_t {f g h : Nat → Nat} {j : Nat} (H : oFr f g j) (K : oFr g h j) : oFr f h j := fun p hp => (H p hp).trans (K p hp)
theorem rst_W {w1 wk : Nat → Int32} {j : Nat} (H : ∀ p, p ≠ j → w1 p = wk p) : upd w1 j (wk j) = wk := by
  funext p
  unfold upd
  by_cases h : p = j
  · rw [if_pos h, h]
  · rw [if_neg h, H p h]
theorem agN_u {T : Type} {st : Nat → T → T} {ok : Nat → T → Bool} {s : T} {e i : Nat} (h : i < e) : agN st ok (e - i) i s = if ok i (st i s) = true then agN st ok (e - (i + 1)) (i + 1) (st i s) else (false, st i s) := by
  obtain ⟨m, hm⟩ : ∃ m, e - i = m + 1 := ⟨e - i - 1, by omega⟩
  rw [hm, show e - (i + 1) = m by omega]
  rfl
theorem agN_z {T : Type} {st : Nat → T → T} {ok : Nat → T → Bool} {s : T} {e : Nat} : agN st ok (e - e) e s = (true, s) := by
  rw [Nat.sub_self]
  rfl
theorem wk_o {wk : Nat → Int32} {f : Nat → Int32} {j : Nat} {v : Int32} (H : ∀ p, p ≠ j → f p = wk p) : ∀ p, p ≠ j → upd f j v p = wk p := by
  intro p hp
  unfold upd
  rw [if_neg hp, H p hp]
/-- whether a run's outputs are the plain ones: the reference's question is the class's -/
theorem ag_ok {sg lfA rtA ouA : Nat → Int32} {fn fz fd ou lf rg : Nat → Nat} {Zc U : Nat → Int64} {j n g o : Nat} {x : Int32} (ho : o ≤ 8) (hn : n ≤ 16) (hg : g ≤ 40) (hou : ∀ k, k < o → ouA k = nI (ou k) ∧ ou k < n + g) (hz : zRl fz j Zc (n + g)) (hd : lbM fd (16 * j) (Zc (2 * 56)) (Zc (2 * 56 + 1))) (hu : zRl fn j U (n + g)) : (oaD (fun q => opM fn fz fd j (ou q)) o o = poM (tT sg lfA rtA n g x) ou o) ↔ (opn (fun q => opF Zc U (ou q)) o 0 0 = plO ouA (plT sg lfA rtA n (plM x n) g) o) := by
  have a : oaD (fun q => opM fn fz fd j (ou q)) o o = opn (fun q => opF Zc U (ou q)) o 0 0 := by
    rw [oaD_c (G := fun q => opF Zc U (ou q)) (fun k hk => opM_F (hu _ (hou k hk).2) (hz _ (hou k hk).2) hd) o (Nat.le_refl _)]
    exact oaD_opn ho (fun k _ => opF_012 _ _ _)
  have b : poM (tT sg lfA rtA n g x) ou o = plO ouA (plT sg lfA rtA n (plM x n) g) o := poM_plO o (fun k hk => ⟨(hou k hk).1, by have := (hou k hk).2; omega⟩)
  rw [a, b]
theorem tT_1 {sg lfA rtA : Nat → Int32} {n g : Nat} {lf rg : Nat → Nat} {x : Int32} (hn : n ≤ 16) (hg : g ≤ 40) (hlf : ∀ k, k < g → lfA k = nI (lf k) ∧ lf k < n + k) (hrt : ∀ k, k < g → ¬ sg k = 33 → rtA k = nI (rg k) ∧ rg k < n + k) : ∀ j, j < n → jshr x (nI j) &&& 1 = nI (tT sg lfA rtA n g x j) := by
  intro j hj
  rw [bit_sh x (by omega)]
  unfold tT
  rw [(plT_b hn hg hlf hrt g (Nat.le_refl _)).2.1 j hj]
theorem tT_2 {sg lfA rtA : Nat → Int32} {n g : Nat} {lf rg : Nat → Nat} {x : Int32} (hn : n ≤ 16) (hg : g ≤ 40) (hlf : ∀ k, k < g → lfA k = nI (lf k) ∧ lf k < n + k) (hrt : ∀ k, k < g → ¬ sg k = 33 → rtA k = nI (rg k) ∧ rg k < n + k) : ∀ k, k < g → trO (sg k) (nI (tT sg lfA rtA n g x (lf k))) (if sg k = 33 then 0 else nI (tT sg lfA rtA n g x (rg k))) = nI (tT sg lfA rtA n g x (n + k)) := by
  intro k hk
  exact ((plT_b hn hg hlf hrt g (Nat.le_refl _)).2.2 k hk).symm
