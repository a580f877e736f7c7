/-! ===== truths: the class's word of bits, the reference's row ===== -/
theorem btO_bit (t : Int64) {j : Nat} (hj : j < 64) : btO t (nI j) = nI (t.toBitVec.getLsbD j).toNat := by
  unfold btO
  rw [pk_and _ 1 (by decide), toNat_i32, jlushr_toNat t hj, Nat.mod_mod_of_dvd _ (by decide)]
  congr 1
  rw [← BitVec.testBit_toNat, Nat.testBit_eq_decide_div_mod_eq, show (2 : Nat) ^ 1 = 2 from rfl]
  have h := Nat.mod_two_eq_zero_or_one (t.toBitVec.toNat / 2 ^ j)
  rcases h with h | h <;> rw [h] <;> rfl
theorem trO_01 (s : Int32) {x y : Nat} (hx : x ≤ 1) (hy : y ≤ 1) : trO s (nI x) (nI y) = 0 ∨ trO s (nI x) (nI y) = 1 := by
  have ex : x = 0 ∨ x = 1 := by omega
  have ey : y = 0 ∨ y = 1 := by omega
  rcases ex with rfl | rfl <;> rcases ey with rfl | rfl <;> unfold trO <;> (repeat' split) <;> first | exact Or.inl rfl | exact Or.inr rfl | exact Or.inl (by decide) | exact Or.inr (by decide)
theorem trM (s : Int32) {x y : Nat} (hx : x ≤ 1) (hy : y ≤ 1) : jshr (if s = 38 then (8 : Int32) else (if s = 124 then (14 : Int32) else (if s = 47 then (4 : Int32) else (if s = 37 then (7 : Int32) else (if s = 35 then (1 : Int32) else (if s = 94 then (6 : Int32) else 3)))))) (2 * nI x + nI y) &&& 1 = trO s (nI x) (nI y) := by
  have ex : x = 0 ∨ x = 1 := by omega
  have ey : y = 0 ∨ y = 1 := by omega
  by_cases h1 : s = 38
  · subst h1
    rcases ex with rfl | rfl <;> rcases ey with rfl | rfl <;> decide
  · by_cases h2 : s = 124
    · subst h2
      rcases ex with rfl | rfl <;> rcases ey with rfl | rfl <;> decide
    · by_cases h3 : s = 47
      · subst h3
        rcases ex with rfl | rfl <;> rcases ey with rfl | rfl <;> decide
      · by_cases h4 : s = 37
        · subst h4
          rcases ex with rfl | rfl <;> rcases ey with rfl | rfl <;> decide
        · by_cases h5 : s = 35
          · subst h5
            rcases ex with rfl | rfl <;> rcases ey with rfl | rfl <;> decide
          · by_cases h6 : s = 94
            · subst h6
              rcases ex with rfl | rfl <;> rcases ey with rfl | rfl <;> decide
            · unfold trO
              simp only [if_neg h1, if_neg h2, if_neg h3, if_neg h4, if_neg h5, if_neg h6]
              rcases ex with rfl | rfl <;> rcases ey with rfl | rfl <;> decide
theorem sl_bit (b : Nat) (hb : b ≤ 1) {k : Nat} (hk : k < 64) {q : Nat} (hq : q < 64) : (jlshl (nI b).toInt64 (nI k)).toBitVec.getLsbD q = (decide (q = k) && decide (b = 1)) := by
  have e : (nI k).toInt64 &&& 63 = Int64.ofNat k := by
    have : ∀ k, k < 64 → (Int32.ofNat k).toInt64 &&& 63 = Int64.ofNat k := by decide +kernel
    exact this k hk
  have s : (Int64.ofNat k).toBitVec.smod 64 = BitVec.ofNat 64 k := by
    have : ∀ k, k < 64 → (Int64.ofNat k).toBitVec.smod 64 = BitVec.ofNat 64 k := by decide +kernel
    exact this k hk
  show ((nI b).toInt64 <<< ((nI k).toInt64 &&& 63)).toBitVec.getLsbD q = _
  rw [e, Int64.toBitVec_shiftLeft, s]
  show ((nI b).toInt64.toBitVec <<< (BitVec.ofNat 64 k).toNat).getLsbD q = _
  rw [BitVec.toNat_ofNat, Nat.mod_eq_of_lt (by omega), BitVec.getLsbD_shiftLeft]
  have eb : b = 0 ∨ b = 1 := by omega
  have z0 : ∀ q, q < 64 → (Int32.ofNat 0).toInt64.toBitVec.getLsbD q = false := by decide +kernel
  have z1 : ∀ q, q < 64 → (Int32.ofNat 1).toInt64.toBitVec.getLsbD q = decide (q = 0) := by decide +kernel
  rcases eb with rfl | rfl
  · rw [show (nI 0).toInt64.toBitVec.getLsbD (q - k) = false from z0 _ (by omega)]
    simp
  · rw [show (nI 1).toInt64.toBitVec.getLsbD (q - k) = decide (q - k = 0) from z1 _ (by omega)]
    by_cases h : q = k
    · subst h; simp [hq]
    · by_cases h2 : q < k
      · simp [h, h2]
      · simp [h, show ¬ q - k = 0 by omega]
/-- the truth of wire j at last -/
def tT (sg lf rt : Nat → Int32) (n g : Nat) (x : Int32) (j : Nat) : Nat := ((plT sg lf rt n (plM x n) g).toBitVec.getLsbD j).toNat
theorem tT_le (sg lf rt : Nat → Int32) (n g : Nat) (x : Int32) (j : Nat) : tT sg lf rt n g x j ≤ 1 := Bool.toNat_le _
theorem plM_bit (x : Int32) {n : Nat} (hn : n ≤ 16) {q : Nat} (hq : q < 64) : (plM x n).toBitVec.getLsbD q = (decide (q < n) && x.toBitVec.getLsbD q) := by
  unfold plM
  have m : ∀ n, n ≤ 16 → ∀ q, q < 64 → (jlshl 1 (Int32.ofNat n) - 1).toBitVec.getLsbD q = decide (q < n) := by
    have : ∀ n, n < 17 → ∀ q, q < 64 → (jlshl 1 (Int32.ofNat n) - 1).toBitVec.getLsbD q = decide (q < n) := by decide +kernel
    exact fun n hn => this n (by omega)
  rw [Int64.toBitVec_and, BitVec.getLsbD_and, show (jlshl 1 (nI n) - 1).toBitVec.getLsbD q = decide (q < n) from m n hn q hq]
  by_cases h : q < n
  · rw [decide_eq_true h, Bool.and_true, Bool.true_and]
    exact sx_lo x (by omega)
  · rw [decide_eq_false h, Bool.and_false, Bool.false_and]
/-- the words of truths grow by one bit a gate -/
theorem plT_b {sg lfA rtA : Nat → Int32} {n g : Nat} {lf rg : Nat → Nat} {x : Int32} (hn : n ≤ 16) (hg : g ≤ 40) (hlf : ∀ k, k < g → lfA k = nI (lf k) ∧ lf k < n + k) (hrt : ∀ k, k < g → ¬ sg k = 33 → rtA k = nI (rg k) ∧ rg k < n + k) :
    ∀ i, i ≤ g → (∀ q, n + i ≤ q → q < 64 → (plT sg lfA rtA n (plM x n) i).toBitVec.getLsbD q = false) ∧ (∀ q, q < n → (plT sg lfA rtA n (plM x n) i).toBitVec.getLsbD q = x.toBitVec.getLsbD q) ∧
      (∀ k, k < i → nI ((plT sg lfA rtA n (plM x n) i).toBitVec.getLsbD (n + k)).toNat = trO (sg k) (nI ((plT sg lfA rtA n (plM x n) i).toBitVec.getLsbD (lf k)).toNat) (if sg k = 33 then 0 else nI ((plT sg lfA rtA n (plM x n) i).toBitVec.getLsbD (rg k)).toNat)) := by
  intro i
  induction i with
  | zero =>
    intro _
    refine ⟨fun q h1 h2 => ?_, fun q hq => ?_, fun k hk => absurd hk (by omega)⟩
    · show (plM x n).toBitVec.getLsbD q = false
      rw [plM_bit x hn h2, decide_eq_false (by omega), Bool.false_and]
    · show (plM x n).toBitVec.getLsbD q = _
      rw [plM_bit x hn (by omega), decide_eq_true hq, Bool.true_and]
  | succ i ih =>
    intro hi
    obtain ⟨a, b, c⟩ := ih (by omega)
    obtain ⟨l1, l2⟩ := hlf i (by omega)
    generalize hT : plT sg lfA rtA n (plM x n) i = T at *
    have hy : (if sg i = 33 then (0 : Int32) else btO T (rtA i)) = (if sg i = 33 then 0 else nI (T.toBitVec.getLsbD (rg i)).toNat) := by
      by_cases h : sg i = 33
      · rw [if_pos h, if_pos h]
      · obtain ⟨r1, r2⟩ := hrt i (by omega) h
        rw [if_neg h, if_neg h, r1, btO_bit _ (by omega)]
    have ht : ∃ v, v ≤ 1 ∧ trO (sg i) (nI (T.toBitVec.getLsbD (lf i)).toNat) (if sg i = 33 then 0 else nI (T.toBitVec.getLsbD (rg i)).toNat) = nI v := by
      have k : ∃ y, y ≤ 1 ∧ (if sg i = 33 then (0 : Int32) else nI (T.toBitVec.getLsbD (rg i)).toNat) = nI y := by
        by_cases h : sg i = 33
        · exact ⟨0, by decide, if_pos h⟩
        · exact ⟨_, Bool.toNat_le _, if_neg h⟩
      obtain ⟨y, hy1, hy2⟩ := k
      rw [hy2]
      rcases trO_01 (sg i) (Bool.toNat_le (T.toBitVec.getLsbD (lf i))) hy1 with h | h
      · exact ⟨0, by decide, h⟩
      · exact ⟨1, by decide, h⟩
    obtain ⟨v, hv1, hv2⟩ := ht
    have e : plT sg lfA rtA n (plM x n) (i + 1) = T ||| jlshl (nI v).toInt64 (nI (n + i)) := by
      show plT sg lfA rtA n (plM x n) i ||| jlshl (trO (sg i) (btO (plT sg lfA rtA n (plM x n) i) (lfA i)) (if sg i = 33 then 0 else btO (plT sg lfA rtA n (plM x n) i) (rtA i))).toInt64 (nI n + nI i) = _
      rw [hT, hy, l1, btO_bit _ (by omega), hv2, nI_add]
    have bit : ∀ q, q < 64 → (plT sg lfA rtA n (plM x n) (i + 1)).toBitVec.getLsbD q = (T.toBitVec.getLsbD q || (decide (q = n + i) && decide (v = 1))) := by
      intro q hq
      rw [e, Int64.toBitVec_or, BitVec.getLsbD_or, sl_bit v hv1 (by omega) hq]
    have lo : ∀ q, q < n + i → (plT sg lfA rtA n (plM x n) (i + 1)).toBitVec.getLsbD q = T.toBitVec.getLsbD q := by
      intro q hq
      rw [bit q (by omega), decide_eq_false (show ¬ q = n + i by omega), Bool.false_and, Bool.or_false]
    refine ⟨fun q h1 h2 => ?_, fun q hq => ?_, fun k hk => ?_⟩
    · rw [bit q h2, a q (by omega) h2, decide_eq_false (show ¬ q = n + i by omega), Bool.false_and, Bool.or_false]
    · rw [lo q (by omega)]
      exact b q hq
    · by_cases hk2 : k = i
      · subst hk2
        rw [lo (lf k) l2]
        have hr : (if sg k = 33 then (0 : Int32) else nI ((plT sg lfA rtA n (plM x n) (k + 1)).toBitVec.getLsbD (rg k)).toNat) = (if sg k = 33 then 0 else nI (T.toBitVec.getLsbD (rg k)).toNat) := by
          by_cases h : sg k = 33
          · rw [if_pos h, if_pos h]
          · obtain ⟨r1, r2⟩ := hrt k (by omega) h
            rw [if_neg h, if_neg h, lo (rg k) r2]
        rw [hr, hv2, bit (n + k) (by omega), a (n + k) (by omega) (by omega), decide_eq_true rfl, Bool.true_and, Bool.false_or]
        have ev : v = 0 ∨ v = 1 := by omega
        rcases ev with h | h <;> subst h <;> rfl
      · have lk := (hlf k (by omega)).2
        have hr : (if sg k = 33 then (0 : Int32) else nI ((plT sg lfA rtA n (plM x n) (i + 1)).toBitVec.getLsbD (rg k)).toNat) = (if sg k = 33 then 0 else nI (T.toBitVec.getLsbD (rg k)).toNat) := by
          by_cases h : sg k = 33
          · rw [if_pos h, if_pos h]
          · obtain ⟨r1, r2⟩ := hrt k (by omega) h
            rw [if_neg h, if_neg h, lo (rg k) (by omega)]
        rw [hr, lo (n + k) (by omega), lo (lf k) (by omega)]
        exact c k (by omega)
/-- the outputs' truths, the reference's way -/
def poM (t ou : Nat → Nat) : Nat → Int32
  | 0 => 0
  | k + 1 => poM t ou k ||| jshl (nI (t (ou k))) (nI k)
theorem poM_plO {sg lfA rtA ouA : Nat → Int32} {n g : Nat} {x : Int32} {ou : Nat → Nat} : ∀ o, (∀ k, k < o → ouA k = nI (ou k) ∧ ou k < 64) → poM (tT sg lfA rtA n g x) ou o = plO ouA (plT sg lfA rtA n (plM x n) g) o
  | 0, _ => rfl
  | k + 1, h => by
    show poM _ ou k ||| _ = plO _ _ k ||| _
    rw [poM_plO k (fun j hj => h j (by omega)), (h k (by omega)).1, btO_bit _ (h k (by omega)).2]
    rfl
theorem bit_sh (x : Int32) {j : Nat} (hj : j < 32) : jshr x (nI j) &&& 1 = nI (x.toBitVec.getLsbD j).toNat := by
  rw [pk_and _ 1 (by decide)]
  congr 1
  have := b_sshr j hj x (i := 0) (by decide)
  unfold bt at this
  rw [Nat.add_zero, if_pos hj, ← BitVec.testBit_toNat, Nat.testBit_zero] at this
  rw [← this]
  have h := Nat.mod_two_eq_zero_or_one (jshr x (nI j)).toBitVec.toNat
  rw [show (2 : Nat) ^ 1 = 2 from rfl]
  rcases h with h | h <;> rw [h] <;> rfl
