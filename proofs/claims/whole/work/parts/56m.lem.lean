/-! ===== lemmas of the relation: what a call changes ===== -/
def upG {α : Type} (f : Nat → α) (j : Nat) (v : α) : Nat → α := fun k => if k = j then v else f k
theorem upG_s {α : Type} {f : Nat → α} {j : Nat} {v : α} : upG f j v j = v := if_pos rfl
theorem upG_n {α : Type} {f : Nat → α} {j k : Nat} {v : α} (h : ¬ k = j) : upG f j v k = f k := if_neg h
theorem all_u {P : Nat → Prop} {m j : Nat} (hj : P j) (ho : ∀ k, k < m → ¬ k = j → P k) : ∀ k, k < m → P k := fun k hk => (Classical.em (k = j)).elim (fun e => e ▸ hj) (fun e => ho k hk e)
theorem gRL_o {k j c n g b y kd : Nat} {gi wo bg bw : Int32} {Z R U : Nat → Int64} {co wy kn sp wk wk' fh fh' : Nat → Int32} {fd fz fr fr' fn fn' : Nat → Nat} (H : gRL k c n g b y kd gi wo bg bw Z R U co wy kn sp wk fh fd fz fr fn) (hk : ¬ k = j) (hng : n + g ≤ 56) (O : oFr fn' fn j) (P : oFh fh' fh j) (W : wk' k = wk k) (F : rRl fr' k R y b) : gRL k c n g b y kd gi wo bg bw Z R U co wy kn sp wk' fh' fd fz fr' fn' := by
  obtain ⟨⟨h1, h1a, h1b, h1c, h1d⟩, h2, h3, h4, h5, h6, h7, h8⟩ := H
  refine ⟨⟨h1, h1a, h1b, h1c, W.trans h1d⟩, h2, h3, h4, F, fun v hv => ?_, fun v hv hn b hb => ?_, h8⟩
  · rw [P _ (by omega)]
    exact h6 v hv
  · rw [O _ (by omega)]
    exact h7 v hv hn b hb
theorem gRL_j {j c n g b y kd : Nat} {gi wo bg bw gi' wo' bw' : Int32} {Z R U U' : Nat → Int64} {co wy kn sp wk wk' fh fh' : Nat → Int32} {fd fz fr fn fn' : Nat → Nat} (H : gRL j c n g b y kd gi wo bg bw Z R U co wy kn sp wk fh fd fz fr fn) (W : wk' j = bw') (hw : wo' = 0 ∨ wo' = 1) (h6 : ∀ v, v < n + g → fh' (56 * j + v) = hLb gi' wo' n v) (h7 : ∀ v, v < n + g → ¬ hLb gi' wo' n v = 0 → lbM fn' (16 * (56 * j + v)) (U' (2 * v)) (U' (2 * v + 1))) (h8 : ∀ k, n ≤ k → k < 32 → gi'.toBitVec.getLsbD k = false) : gRL j c n g b y kd gi' wo' bg bw' Z R U' co wy kn sp wk' fh' fd fz fr fn' := by
  obtain ⟨⟨a1, a2, a3, a4, _⟩, ⟨b1, b2, _⟩, c3, c4, c5, _, _, _⟩ := H
  exact ⟨⟨a1, a2, a3, a4, W⟩, ⟨b1, b2, hw⟩, c3, c4, c5, h6, h7, h8⟩
theorem gRL_r {j c n g b y kd : Nat} {gi wo bg bw : Int32} {Z R R' U : Nat → Int64} {co wy kn sp wk fh : Nat → Int32} {fd fz fr fr' fn : Nat → Nat} (H : gRL j c n g b y kd gi wo bg bw Z R U co wy kn sp wk fh fd fz fr fn) (F : rRl fr' j R' y b) : gRL j c n g b y kd gi wo bg bw Z R' U co wy kn sp wk fh fd fz fr' fn := by
  obtain ⟨c1, c2, c3, c4, _, c6, c7, c8⟩ := H
  exact ⟨c1, c2, c3, c4, F, c6, c7, c8⟩
theorem gbV_q (gi : Int32) {j : Nat} (hj : j < 32) : gbV gi j = nI (bq gi j) := by
  unfold gbV
  rw [bit_us gi hj]
  have h := bq_le gi j
  have e : bq gi j = 0 ∨ bq gi j = 1 := by omega
  rcases e with e | e <;> rw [e] <;> decide
theorem b_one : ∀ i, i < 32 → bt 1 i = decide (i = 0) := by decide +kernel
theorem b_sh1 {k i : Nat} (hk : k < 32) (hi : i < 32) : bt (jshl 1 (nI k)) i = decide (i = k) := by
  have h : bt (jshl 1 (nI k)) i = (decide (k ≤ i) && bt 1 (i - k)) := b_shl k hk 1 hi
  rw [h, b_one (i - k) (by omega), ← Bool.decide_and]
  exact decide_eq_decide.mpr (by omega)
theorem bq_bt (x : Int32) (i : Nat) : bq x i = (bt x i).toNat := rfl
theorem gb_or (gi : Int32) {k v : Nat} (hk : k < 32) (hv : v < 32) : gbV (gi ||| jshl 1 (nI k)) v = if v = k then 1 else gbV gi v := by
  rw [gbV_q _ hv, gbV_q _ hv, bq_bt, bq_bt, b_or, b_sh1 hk hv]
  by_cases h : v = k
  · rw [if_pos h, decide_eq_true h, Bool.or_true]
    rfl
  · rw [if_neg h, decide_eq_false h, Bool.or_false]
theorem gb_an (gi : Int32) {k v : Nat} (hk : k < 32) (hv : v < 32) : gbV (gi &&& (jshl 1 (nI k) ^^^ (-1))) v = if v = k then 0 else gbV gi v := by
  rw [gbV_q _ hv, gbV_q _ hv, bq_bt, bq_bt, b_and, b_xor, b_sh1 hk hv, b_m1 v hv]
  generalize bt gi v = t
  by_cases h : v = k
  · rw [if_pos h, decide_eq_true h]
    cases t <;> rfl
  · rw [if_neg h, decide_eq_false h]
    cases t <;> rfl
theorem hLb_lt {gi wo : Int32} {n v : Nat} (h : v < n) : hLb gi wo n v = gbV gi v := if_pos h
theorem hLb_ge {gi wo : Int32} {n v : Nat} (h : ¬ v < n) : hLb gi wo n v = wo := if_neg h
theorem has_c {fh : Nat → Int32} {gi gi' wo : Int32} {n g j k : Nat} {x : Int32} (H : ∀ v, v < n + g → fh (56 * j + v) = hLb gi wo n v) (hk : k < n) (hg : ∀ v, v < n → gbV gi' v = if v = k then x else gbV gi v) : ∀ v, v < n + g → filI (upd fh (56 * j + k) x) (56 * j + n) g 0 (56 * j + v) = hLb gi' 0 n v := by
  intro v hv
  unfold filI
  by_cases h : v < n
  · rw [if_neg (by omega), hLb_lt h, hg v h]
    by_cases e : v = k
    · rw [if_pos e, e, upd_at]
    · rw [if_neg e, upd_ne _ _ (by omega), H v hv, hLb_lt h]
  · rw [if_pos (by omega), hLb_ge h]
theorem f01_f {f : Nat → Int32} {p i : Nat} {v : Int32} (h : ∀ q, f q = 0 ∨ f q = 1) (hv : v = 0 ∨ v = 1) : ∀ q, filI f p i v q = 0 ∨ filI f p i v q = 1 := by
  intro q
  unfold filI
  split
  · exact hv
  · exact h q
theorem f01_u {f : Nat → Int32} {p : Nat} {v : Int32} (h : ∀ q, f q = 0 ∨ f q = 1) (hv : v = 0 ∨ v = 1) : ∀ q, upd f p v q = 0 ∨ upd f p v q = 1 := by
  intro q
  unfold upd
  split
  · exact hv
  · exact h q
theorem oFh_r (f : Nat → Int32) (j : Nat) : oFh f f j := fun _ _ => rfl
theorem oFh_u {f : Nat → Int32} {j k : Nat} {x : Int32} (hk : k < 56) : oFh (upd f (56 * j + k) x) f j := fun p hp => upd_ne _ _ (by omega)
theorem oFr_r (f : Nat → Nat) (j : Nat) : oFr f f j := fun _ _ => rfl
theorem oFr_f {f : Nat → Nat} {j v : Nat} {h : Nat → Nat} (hv : v < 56) : oFr (filN f (16 * (56 * j + v)) 16 h) f j := oFr_s (oFr_r f j) hv
theorem now_c {fn G : Nat → Nat} {U : Nat → Int64} {gi gi' wo : Int32} {n g j k : Nat} {h l : Int64} (H : ∀ v, v < n + g → ¬ hLb gi wo n v = 0 → lbM fn (16 * (56 * j + v)) (U (2 * v)) (U (2 * v + 1))) (hk : k < n) (hg : ∀ v, v < n → gbV gi' v = if v = k then 1 else gbV gi v) (HG : ∀ b, b < 16 → G b = byW h l b) : ∀ v, v < n + g → ¬ hLb gi' 0 n v = 0 → lbM (filN fn (16 * (56 * j + k)) 16 G) (16 * (56 * j + v)) (lbP U k h l (2 * v)) (lbP U k h l (2 * v + 1)) := by
  intro v hv hn
  by_cases e : v = k
  · subst e
    rw [(lbP_s U v h l).1, (lbP_s U v h l).2]
    exact lbM_f HG
  · have hl : v < n := by
      by_cases z : v < n
      · exact z
      · exact absurd (hLb_ge z) hn
    rw [(lbP_n U h l e).1, (lbP_n U h l e).2]
    refine lbM_o (H v hv ?_) (by omega)
    rw [hLb_lt hl] at hn ⊢
    rw [hg v hl, if_neg e] at hn
    exact hn
theorem now_m {fn : Nat → Nat} {U : Nat → Int64} {gi gi' wo : Int32} {n g j k : Nat} (H : ∀ v, v < n + g → ¬ hLb gi wo n v = 0 → lbM fn (16 * (56 * j + v)) (U (2 * v)) (U (2 * v + 1))) (hg : ∀ v, v < n → gbV gi' v = if v = k then 0 else gbV gi v) : ∀ v, v < n + g → ¬ hLb gi' 0 n v = 0 → lbM fn (16 * (56 * j + v)) (U (2 * v)) (U (2 * v + 1)) := by
  intro v hv hn
  by_cases z : v < n
  · refine H v hv ?_
    rw [hLb_lt z] at hn ⊢
    rw [hg v z] at hn
    by_cases e : v = k
    · rw [if_pos e] at hn
      exact absurd rfl hn
    · rw [if_neg e] at hn
      exact hn
  · exact absurd (hLb_ge z) hn
theorem now_z {fn : Nat → Nat} {U : Nat → Int64} {gi' : Int32} {n g j : Nat} (Z : zRl fn j U n) : ∀ v, v < n + g → ¬ hLb gi' 0 n v = 0 → lbM fn (16 * (56 * j + v)) (U (2 * v)) (U (2 * v + 1)) := fun v _ hn => (Classical.em (v < n)).elim (fun z => Z v z) (fun z => absurd (hLb_ge z) hn)
theorem h8_or {gi : Int32} {n k : Nat} (hn : n ≤ 16) (hk : k < n) (H : ∀ i, n ≤ i → i < 32 → gi.toBitVec.getLsbD i = false) : ∀ i, n ≤ i → i < 32 → (gi ||| jshl 1 (nI k)).toBitVec.getLsbD i = false := by
  intro i h1 h2
  have e := b_or gi (jshl 1 (nI k)) i
  rw [b_sh1 (by omega) h2, decide_eq_false (show ¬ i = k by omega), Bool.or_false] at e
  exact e.trans (H i h1 h2)
theorem h8_an {gi x : Int32} {n : Nat} (H : ∀ i, n ≤ i → i < 32 → gi.toBitVec.getLsbD i = false) : ∀ i, n ≤ i → i < 32 → (gi &&& x).toBitVec.getLsbD i = false := by
  intro i h1 h2
  have e := b_and gi x i
  have z : bt gi i = false := H i h1 h2
  rw [z, Bool.false_and] at e
  exact e
theorem giA_b (gi : Int32) : ∀ {m : Nat}, m ≤ 16 → ∀ {i : Nat}, i < 32 → bt (giA gi m) i = (bt gi i || decide (i < m))
  | 0, _, i, hi => by
    show bt gi i = _
    rw [decide_eq_false (show ¬ i < 0 by omega), Bool.or_false]
  | m + 1, h, i, hi => by
    show bt (giA gi m ||| jshl 1 (nI m)) i = _
    rw [b_or, giA_b gi (by omega) hi, b_sh1 (by omega) hi, Bool.or_assoc, ← Bool.decide_or, show decide (i < m ∨ i = m) = decide (i < m + 1) from decide_eq_decide.mpr (by omega)]
theorem has_e {fh : Nat → Int32} {gi : Int32} {n g j : Nat} (hn : n ≤ 16) : ∀ v, v < n + g → filI (filI fh (56 * j) n 1) (56 * j + n) g 0 (56 * j + v) = hLb (giA gi n) 0 n v := by
  intro v hv
  unfold filI
  by_cases h : v < n
  · rw [if_neg (by omega), if_pos (by omega), hLb_lt h, gbV_q _ (by omega), bq_bt, giA_b gi hn (by omega), decide_eq_true h, Bool.or_true]
    rfl
  · rw [if_pos (by omega), hLb_ge h]
theorem h8_e {gi : Int32} {n : Nat} (hn : n ≤ 16) (H : ∀ i, n ≤ i → i < 32 → gi.toBitVec.getLsbD i = false) : ∀ i, n ≤ i → i < 32 → (giA gi n).toBitVec.getLsbD i = false := by
  intro i h1 h2
  have e := giA_b gi hn h2
  have z : bt gi i = false := H i h1 h2
  rw [z, decide_eq_false (show ¬ i < n by omega), Bool.or_false] at e
  exact e
theorem ones_b : ∀ n, n < 17 → ∀ i, i < 32 → bt (jshl 1 (nI n) - 1) i = decide (i < n) := by decide +kernel
theorem full_ {gi : Int32} {n : Nat} (hn : n ≤ 16) (H8 : ∀ i, n ≤ i → i < 32 → gi.toBitVec.getLsbD i = false) : gi = jshl 1 (nI n) - 1 ↔ ∀ q, q < n → ¬ gbV gi q = 0 := by
  constructor
  · intro h q hq
    rw [h, gbV_q _ (by omega), bq_bt, ones_b n (by omega) q (by omega), decide_eq_true hq]
    decide
  · intro h
    refine b_ext (fun i hi => ?_)
    rw [ones_b n (by omega) i hi]
    by_cases z : i < n
    · rw [decide_eq_true z]
      have k := h i z
      rw [gbV_q _ hi, bq_bt] at k
      cases hb : bt gi i
      · rw [hb] at k
        exact absurd rfl k
      · rfl
    · rw [decide_eq_false z]
      exact H8 i (by omega) hi
theorem full_h {gi wo : Int32} {fh : Nat → Int32} {n g j : Nat} (hn : n ≤ 16) (H8 : ∀ i, n ≤ i → i < 32 → gi.toBitVec.getLsbD i = false) (H6 : ∀ v, v < n + g → fh (56 * j + v) = hLb gi wo n v) : gi = jshl 1 (nI n) - 1 ↔ ∀ q, q < n → ¬ fh (56 * j + q) = 0 := by
  rw [full_ hn H8]
  exact ⟨fun h q hq => by rw [H6 q (by omega), hLb_lt hq]; exact h q hq, fun h q hq => by have k := h q hq; rw [H6 q (by omega), hLb_lt hq] at k; exact k⟩
theorem has_w {fh : Nat → Int32} {gi wo : Int32} {n g j : Nat} (H : ∀ v, v < n + g → fh (56 * j + v) = hLb gi wo n v) : ∀ v, v < n + g → filI fh (56 * j + n) g 1 (56 * j + v) = hLb gi 1 n v := by
  intro v hv
  unfold filI
  by_cases h : v < n
  · rw [if_neg (by omega), H v hv, hLb_lt h, hLb_lt h]
  · rw [if_pos (by omega), hLb_ge h]
/-! a byte spoilt -/
theorem lby_sh {m c k : Nat} (hm : m < 256) (hc : c < 8) (hk : k < 8) : lby (lN (m * 2 ^ (8 * c))) k = if k = c then m else 0 := by
  unfold lby
  have hc' : c = 0 ∨ c = 1 ∨ c = 2 ∨ c = 3 ∨ c = 4 ∨ c = 5 ∨ c = 6 ∨ c = 7 := by omega
  have hk' : k = 0 ∨ k = 1 ∨ k = 2 ∨ k = 3 ∨ k = 4 ∨ k = 5 ∨ k = 6 ∨ k = 7 := by omega
  rcases hc' with rfl | rfl | rfl | rfl | rfl | rfl | rfl | rfl <;> rw [wb_tn (by simp only [Nat.reduceMul, Nat.reducePow]; omega)] <;> rcases hk' with rfl | rfl | rfl | rfl | rfl | rfl | rfl | rfl <;> simp only [Nat.reduceMul, Nat.reducePow] <;> (first | rw [if_pos trivial] | rw [if_pos rfl] | rw [if_neg (by decide)]) <;> omega
theorem b255_64 : ∀ i, i < 64 → (255 : Int64).toBitVec.getLsbD i = decide (i < 8) := by decide +kernel
theorem mk_255 (x : Int32) : x.toInt64 &&& 255 = lN (x.toBitVec.toNat % 256) := by
  apply Int64.toBitVec_inj.mp
  apply BitVec.eq_of_getLsbD_eq
  intro i hi
  rw [Int64.toBitVec_and, BitVec.getLsbD_and, lN_bv, BitVec.getLsbD_ofNat, show x.toBitVec.toNat % 256 = x.toBitVec.toNat % 2 ^ 8 from rfl, Nat.testBit_mod_two_pow, BitVec.testBit_toNat, b255_64 i hi, decide_eq_true hi, Bool.true_and]
  by_cases h : i < 8
  · rw [decide_eq_true h, Bool.and_true, Bool.true_and]
    exact sx_lo x (by omega)
  · rw [decide_eq_false h, Bool.and_false, Bool.false_and]
theorem sp_w (x : Int64) (mk : Int32) {i b : Nat} (hi : i < 8) (hb : b < 8) : lby (x ^^^ jlshl (mk.toInt64 &&& 255) (nI (56 - 8 * i))) (7 - b) = lby x (7 - b) ^^^ (if b = i then mk.toBitVec.toNat % 256 else 0) := by
  have e : jlshl (mk.toInt64 &&& 255) (nI (56 - 8 * i)) = lN (mk.toBitVec.toNat % 256 * 2 ^ (8 * (7 - i))) := by
    rw [mk_255, show 56 - 8 * i = 8 * (7 - i) by omega]
    exact wb_shl _ (by omega)
  rw [lby_xor, e, lby_sh (Nat.mod_lt _ (by decide)) (by omega) (by omega)]
  by_cases h : b = i
  · rw [if_pos h, if_pos (by omega)]
  · rw [if_neg h, if_neg (by omega)]
def spW (F : Nat → Int64) (mk : Int32) (q i : Nat) : Nat → Int64 := vp_updL F (2 * q + i / 8) (F (2 * q + i / 8) ^^^ jlshl (mk.toInt64 &&& 255) (nI (56 - 8 * (i % 8))))
theorem spW_s (F : Nat → Int64) (mk : Int32) {q i b : Nat} (hi : i < 16) (hb : b < 16) : byW (spW F mk q i (2 * q)) (spW F mk q i (2 * q + 1)) b = byW (F (2 * q)) (F (2 * q + 1)) b ^^^ (if b = i then mk.toBitVec.toNat % 256 else 0) := by
  unfold spW
  by_cases h : i < 8
  · rw [show 2 * q + i / 8 = 2 * q by omega, show i % 8 = i by omega]
    rw [pk_uLs, pk_uLn (by omega)]
    unfold byW
    by_cases hb8 : b < 8
    · rw [if_pos hb8, if_pos hb8, sp_w _ _ h hb8]
    · rw [if_neg hb8, if_neg hb8, if_neg (by omega), Nat.xor_zero]
  · rw [show 2 * q + i / 8 = 2 * q + 1 by omega, show i % 8 = i - 8 by omega]
    rw [pk_uLs, pk_uLn (by omega)]
    unfold byW
    by_cases hb8 : b < 8
    · rw [if_pos hb8, if_pos hb8, if_neg (by omega), Nat.xor_zero]
    · rw [if_neg hb8, if_neg hb8, show 15 - b = 7 - (b - 8) by omega, sp_w _ _ (by omega) (by omega)]
      by_cases e : b = i
      · rw [if_pos e, if_pos (by omega)]
      · rw [if_neg e, if_neg (by omega)]
theorem spW_n (F : Nat → Int64) (mk : Int32) {q k i : Nat} (hi : i < 16) (hk : ¬ k = q) : spW F mk q i (2 * k) = F (2 * k) ∧ spW F mk q i (2 * k + 1) = F (2 * k + 1) := by
  unfold spW
  exact ⟨if_neg (by omega), if_neg (by omega)⟩
def spN (fr : Nat → Nat) (mk : Int32) (j t r i : Nat) : Nat → Nat := updN fr (16 * (4 * (40 * j + t) + r) + i) (fr (16 * (4 * (40 * j + t) + r) + i) ^^^ mk.toBitVec.toNat % 256)
theorem spR {fr : Nat → Nat} {R : Nat → Int64} {j y tb t r i : Nat} (mk : Int32) (H : rRl fr j R y tb) (ht : t < tb) (hr : r < 4) (hi : i < 16) (hst : sto y r) (htb : tb ≤ 40) : rRl (spN fr mk j t r i) j (spW R mk (4 * t + r) i) y tb := by
  intro t' r' ht' hr' hy' b hb
  have h2 : y = 2 → r < 2 := sto_2 hst
  unfold spN
  by_cases e : t' = t ∧ r' = r
  · obtain ⟨rfl, rfl⟩ := e
    rw [spW_s R mk hi hb]
    by_cases eb : b = i
    · subst eb
      rw [updN_s, if_pos rfl, H t' r' ht' hr' hy' b hb]
    · rw [updN_n _ _ (by omega), if_neg eb, Nat.xor_zero, H t' r' ht' hr' hy' b hb]
  · have n := spW_n R mk (q := 4 * t + r) (k := 4 * t' + r') hi (by omega)
    rw [n.1, n.2, updN_n _ _ (by omega)]
    exact H t' r' ht' hr' hy' b hb
theorem spO {fr : Nat → Nat} {R : Nat → Int64} {j k y m t r i : Nat} (mk : Int32) (H : rRl fr k R y m) (hm : m ≤ 40) (ht : t < 40) (hr : r < 4) (hi : i < 16) (hk : ¬ k = j) : rRl (spN fr mk j t r i) k R y m := by
  intro t' r' ht' hr' hy' b hb
  unfold spN
  rw [updN_n _ _ (by omega)]
  exact H t' r' ht' hr' hy' b hb
theorem spA {fr : Nat → Nat} {R : Nat → Int64} {j y tb t r i : Nat} (mk : Int32) (H : rRl fr j R y tb) (ht : t < tb) (hr : r < 4) (hi : i < 16) (hst : sto y r) : byW (spW R mk (4 * t + r) i (2 * (4 * t + r))) (spW R mk (4 * t + r) i (2 * (4 * t + r) + 1)) i = fr (16 * (4 * (40 * j + t) + r) + i) ^^^ mk.toBitVec.toNat % 256 := by
  rw [spW_s R mk hi hi, if_pos rfl, H t r ht hr (sto_2 hst) i hi]
/-! a place of a label -/
theorem pl_w {fn : Nat → Nat} {U : Nat → Int64} {P v a s b : Nat} (H : lbM fn P (U (2 * v)) (U (2 * v + 1))) (h1 : a % 8 + s ≤ 8) (h2 : a < 16) (hb : b < s) : fn (P + a + b) = lby (U (2 * v + a / 8)) (7 - (a % 8 + b)) := by
  rw [Nat.add_assoc, H (a + b) (by omega)]
  unfold byW
  by_cases h : a < 8
  · rw [if_pos (by omega), show 2 * v + a / 8 = 2 * v by omega, show 7 - (a + b) = 7 - (a % 8 + b) by omega]
  · rw [if_neg (by omega), show 2 * v + a / 8 = 2 * v + 1 by omega, show 15 - (a + b) = 7 - (a % 8 + b) by omega]
theorem pl_t {X : Int64} {o s b : Nat} (h1 : o + s ≤ 8) (hs : 0 < s) (hb : b < s) : lby X (7 - (o + b)) = (jlushr X (nI (64 - 8 * (s + o)))).toBitVec.toNat / 2 ^ (8 * (s - 1 - b)) % 256 := by
  rw [jlushr_toNat X (by omega), Nat.div_div_eq_div_mul, ← Nat.pow_add]
  unfold lby
  rw [show 64 - 8 * (s + o) + 8 * (s - 1 - b) = 8 * (7 - (o + b)) by omega]
def w8N (t : Nat → Nat) (p : Nat) : Nat → Nat
  | 0 => 0
  | k + 1 => w8N t p k * 256 + t (p + k)
theorem n64 {m : Nat} (h : m < 2 ^ 31) : (nI m).toInt64 = lN m := by
  apply Int64.toInt_inj.mp
  rw [Int32.toInt_toInt64, nI_toInt h]
  exact (Int64.toInt_ofNat_of_lt (by omega)).symm
theorem w8_L (t : Nat → Nat) (p : Nat) : ∀ k, k ≤ 8 → (∀ i, i < k → t (p + i) < 256) → w8 t p k = lN (w8N t p k) ∧ w8N t p k < 256 ^ k
  | 0, _, _ => ⟨rfl, Nat.zero_lt_one⟩
  | k + 1, hk, h => by
    obtain ⟨a, b⟩ := w8_L t p k (by omega) (fun i hi => h i (by omega))
    have c := h k (by omega)
    have d : 256 ^ k ≤ 256 ^ 7 := Nat.pow_le_pow_right (by decide) (by omega)
    have e : w8N t p k * 256 + t (p + k) < 256 ^ (k + 1) := by
      rw [Nat.pow_succ]
      omega
    refine ⟨?_, e⟩
    show jlshl (w8 t p k) 8 ||| (nI (t (p + k))).toInt64 = lN (w8N t p k * 256 + t (p + k))
    rw [a, n64 (by omega), show jlshl (lN (w8N t p k)) 8 = lN (w8N t p k * 2 ^ 8) from wb_shl _ (k := 8) (by decide)]
    exact g_or (k := 8) rfl c (by
      have : (256 : Nat) ^ 7 * 256 = 2 ^ 64 := by decide
      omega)
theorem pl_T {fn : Nat → Nat} {U : Nat → Int64} {P v a s : Nat} (H : lbM fn P (U (2 * v)) (U (2 * v + 1))) (h1 : a % 8 + s ≤ 8) (h2 : a < 16) (hs : 0 < s) : ∀ b, b < s → fn (P + a + b) = (jlushr (U (2 * v + a / 8)) (nI (64 - 8 * (s + a % 8)))).toBitVec.toNat / 2 ^ (8 * (s - 1 - b)) % 256 := fun b hb => (pl_w H h1 h2 hb).trans (pl_t h1 hs hb)
theorem i16_of (x y : Int32) (h : x.toBitVec.toNat % 65536 = y.toBitVec.toNat % 65536) : x.toInt16.toInt32 = y.toInt16.toInt32 := by
  have e : x.toInt16 = y.toInt16 := by
    apply Int16.toBitVec_inj.mp
    rw [Int32.toBitVec_toInt16, Int32.toBitVec_toInt16]
    apply BitVec.eq_of_toNat_eq
    rw [BitVec.signExtend_eq_setWidth_of_le _ (by decide), BitVec.signExtend_eq_setWidth_of_le _ (by decide), BitVec.toNat_setWidth, BitVec.toNat_setWidth]
    exact h
  rw [e]
theorem i32_of (x y : Int64) (h : x.toBitVec.toNat % 2 ^ 32 = y.toBitVec.toNat % 2 ^ 32) : x.toInt32 = y.toInt32 := by
  apply Int32.toBitVec_inj.mp
  apply BitVec.eq_of_toNat_eq
  rw [toNat_i32, toNat_i32]
  exact h
theorem ch_of (x : Int32) : (x.toUInt32 % 65536).toInt32 = nI (x.toBitVec.toNat % 65536) := by
  apply Int32.toBitVec_inj.mp
  apply BitVec.eq_of_toNat_eq
  show (x.toUInt32 % 65536).toNat = (BitVec.ofNat 32 (x.toBitVec.toNat % 65536)).toNat
  rw [UInt32.toNat_mod, BitVec.toNat_ofNat]
  have h := x.toBitVec.isLt
  show x.toBitVec.toNat % 65536 = _
  omega
theorem pl_0 {fn : Nat → Nat} {U : Nat → Int64} {P v i : Nat} (H : lbM fn P (U (2 * v)) (U (2 * v + 1))) (hi : i < 16) : asK (jlushr (U (2 * v + 1 * i / 8)) (nI (64 - 8 * (1 + 1 * i % 8)))) 0 = plV fn (P + 1 * i) 0 := by
  have T := pl_T (s := 1) (a := 1 * i) H (by omega) (by omega) (by decide)
  have t0 := T 0 (by decide)
  generalize jlushr (U (2 * v + 1 * i / 8)) (nI (64 - 8 * (1 + 1 * i % 8))) = X at t0 ⊢
  simp only [Nat.reduceSub, Nat.reduceMul, Nat.reducePow, Nat.div_one] at t0
  obtain ⟨a, _⟩ := w8_L fn (P + 1 * i) 1 (by decide) (fun k hk => by
    have e : k = 0 := by omega
    subst e
    omega)
  show X.toInt32.toInt8.toInt32.toInt64 = (w8 fn (P + 1 * i) 1).toInt32.toInt8.toInt32.toInt64
  rw [i8_of X.toInt32 (w8 fn (P + 1 * i) 1).toInt32 (by
    rw [toNat_i32, toNat_i32, a]
    have b : w8N fn (P + 1 * i) 1 = fn (P + 1 * i + 0) := by
      show 0 * 256 + fn (P + 1 * i + 0) = _
      omega
    rw [b, wb_tn (by omega)]
    omega)]
theorem pl_1w {fn : Nat → Nat} {U : Nat → Int64} {P v i : Nat} (H : lbM fn P (U (2 * v)) (U (2 * v + 1))) (hi : i < 8) : w8 fn (P + 2 * i) 2 = lN ((jlushr (U (2 * v + 2 * i / 8)) (nI (64 - 8 * (2 + 2 * i % 8)))).toBitVec.toNat % 65536) := by
  have T := pl_T (s := 2) (a := 2 * i) H (by omega) (by omega) (by decide)
  have t0 := T 0 (by decide)
  have t1 := T 1 (by decide)
  generalize jlushr (U (2 * v + 2 * i / 8)) (nI (64 - 8 * (2 + 2 * i % 8))) = X at t0 t1 ⊢
  simp only [Nat.reduceSub, Nat.reduceMul, Nat.reducePow, Nat.div_one] at t0 t1
  obtain ⟨a, _⟩ := w8_L fn (P + 2 * i) 2 (by decide) (fun k hk => by
    have e : k = 0 ∨ k = 1 := by omega
    rcases e with rfl | rfl <;> omega)
  rw [a]
  congr 1
  show (0 * 256 + fn (P + 2 * i + 0)) * 256 + fn (P + 2 * i + 1) = _
  omega
theorem pl_1 {fn : Nat → Nat} {U : Nat → Int64} {P v i : Nat} (H : lbM fn P (U (2 * v)) (U (2 * v + 1))) (hi : i < 8) : asK (jlushr (U (2 * v + 2 * i / 8)) (nI (64 - 8 * (2 + 2 * i % 8)))) 1 = plV fn (P + 2 * i) 1 := by
  have a := pl_1w H hi
  generalize jlushr (U (2 * v + 2 * i / 8)) (nI (64 - 8 * (2 + 2 * i % 8))) = X at a ⊢
  show X.toInt32.toInt16.toInt32.toInt64 = (w8 fn (P + 2 * i) 2).toInt32.toInt16.toInt32.toInt64
  rw [i16_of X.toInt32 (w8 fn (P + 2 * i) 2).toInt32 (by
    rw [toNat_i32, toNat_i32, a, wb_tn (by omega)]
    omega)]
theorem pl_2 {fn : Nat → Nat} {U : Nat → Int64} {P v i : Nat} (H : lbM fn P (U (2 * v)) (U (2 * v + 1))) (hi : i < 8) : asK (jlushr (U (2 * v + 2 * i / 8)) (nI (64 - 8 * (2 + 2 * i % 8)))) 2 = plV fn (P + 2 * i) 2 := by
  have a := pl_1w H hi
  generalize jlushr (U (2 * v + 2 * i / 8)) (nI (64 - 8 * (2 + 2 * i % 8))) = X at a ⊢
  show (X.toInt32.toUInt32 % 65536).toInt32.toInt64 = w8 fn (P + 2 * i) 2
  rw [ch_of, a, n64 (by omega), toNat_i32, Nat.mod_mod_of_dvd _ (by decide)]
theorem pl_3 {fn : Nat → Nat} {U : Nat → Int64} {P v i : Nat} (H : lbM fn P (U (2 * v)) (U (2 * v + 1))) (hi : i < 4) : asK (jlushr (U (2 * v + 4 * i / 8)) (nI (64 - 8 * (4 + 4 * i % 8)))) 3 = plV fn (P + 4 * i) 3 := by
  have T := pl_T (s := 4) (a := 4 * i) H (by omega) (by omega) (by decide)
  have t0 := T 0 (by decide)
  have t1 := T 1 (by decide)
  have t2 := T 2 (by decide)
  have t3 := T 3 (by decide)
  generalize jlushr (U (2 * v + 4 * i / 8)) (nI (64 - 8 * (4 + 4 * i % 8))) = X at t0 t1 t2 t3 ⊢
  simp only [Nat.reduceSub, Nat.reduceMul, Nat.reducePow, Nat.div_one] at t0 t1 t2 t3
  obtain ⟨a, _⟩ := w8_L fn (P + 4 * i) 4 (by decide) (fun k hk => by
    have e : k = 0 ∨ k = 1 ∨ k = 2 ∨ k = 3 := by omega
    rcases e with rfl | rfl | rfl | rfl <;> omega)
  show X.toInt32.toInt64 = (w8 fn (P + 4 * i) 4).toInt32.toInt64
  rw [i32_of X (w8 fn (P + 4 * i) 4) (by
    have b : w8N fn (P + 4 * i) 4 = (((0 * 256 + fn (P + 4 * i + 0)) * 256 + fn (P + 4 * i + 1)) * 256 + fn (P + 4 * i + 2)) * 256 + fn (P + 4 * i + 3) := rfl
    rw [a, b, wb_tn (by omega)]
    omega)]
theorem pl_4 {fn : Nat → Nat} {U : Nat → Int64} {P v i : Nat} (H : lbM fn P (U (2 * v)) (U (2 * v + 1))) (hi : i < 2) : asK (jlushr (U (2 * v + 8 * i / 8)) (nI (64 - 8 * (8 + 8 * i % 8)))) 4 = plV fn (P + 8 * i) 4 := by
  have T := pl_T (s := 8) (a := 8 * i) H (by omega) (by omega) (by decide)
  have t0 := T 0 (by decide)
  have t1 := T 1 (by decide)
  have t2 := T 2 (by decide)
  have t3 := T 3 (by decide)
  have t4 := T 4 (by decide)
  have t5 := T 5 (by decide)
  have t6 := T 6 (by decide)
  have t7 := T 7 (by decide)
  generalize jlushr (U (2 * v + 8 * i / 8)) (nI (64 - 8 * (8 + 8 * i % 8))) = X at t0 t1 t2 t3 t4 t5 t6 t7 ⊢
  simp only [Nat.reduceSub, Nat.reduceMul, Nat.reducePow, Nat.div_one] at t0 t1 t2 t3 t4 t5 t6 t7
  obtain ⟨a, _⟩ := w8_L fn (P + 8 * i) 8 (by decide) (fun k hk => by
    have e : k = 0 ∨ k = 1 ∨ k = 2 ∨ k = 3 ∨ k = 4 ∨ k = 5 ∨ k = 6 ∨ k = 7 := by omega
    rcases e with rfl | rfl | rfl | rfl | rfl | rfl | rfl | rfl <;> omega)
  show X = w8 fn (P + 8 * i) 8
  have b : w8N fn (P + 8 * i) 8 = (((((((0 * 256 + fn (P + 8 * i + 0)) * 256 + fn (P + 8 * i + 1)) * 256 + fn (P + 8 * i + 2)) * 256 + fn (P + 8 * i + 3)) * 256 + fn (P + 8 * i + 4)) * 256 + fn (P + 8 * i + 5)) * 256 + fn (P + 8 * i + 6)) * 256 + fn (P + 8 * i + 7) := rfl
  have hX := X.toBitVec.isLt
  have c : w8N fn (P + 8 * i) 8 = X.toBitVec.toNat := by
    rw [b]
    omega
  rw [a, c]
  apply Int64.toBitVec_inj.mp
  rw [lN_bv]
  simp
