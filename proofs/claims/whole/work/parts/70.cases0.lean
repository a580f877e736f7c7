theorem in_lt {x : Int32} {m : Nat} (hm : m < 2 ^ 31) (h : ¬ (x < 0 ∨ nI m ≤ x)) : ∃ k, k < m ∧ x = nI k := by
  have h1 : ¬ x < 0 := fun z => h (Or.inl z)
  have h2 : ¬ nI m ≤ x := fun z => h (Or.inr z)
  rw [Int32.lt_iff_toInt_lt] at h1
  rw [Int32.le_iff_toInt_le, nI_toInt hm] at h2
  rw [show (0 : Int32).toInt = 0 by decide] at h1
  refine ⟨x.toInt.toNat, by omega, ?_⟩
  apply Int32.toInt_inj.mp
  rw [nI_toInt (by omega)]
  omega
theorem in_18 {x : Int32} (h : ¬ (x < 1 ∨ 8 < x)) : ∃ n, x = nI n ∧ 1 ≤ n ∧ n ≤ 8 := by
  have h1 : ¬ x < 1 := fun z => h (Or.inl z)
  have h2 : ¬ 8 < x := fun z => h (Or.inr z)
  rw [Int32.lt_iff_toInt_lt] at h1 h2
  rw [show (1 : Int32).toInt = 1 by decide] at h1
  rw [show (8 : Int32).toInt = 8 by decide] at h2
  refine ⟨x.toInt.toNat, ?_, by omega, by omega⟩
  apply Int32.toInt_inj.mp
  rw [nI_toInt (by omega)]
  omega
theorem in_ab {a b : Int32} (h : ¬ (a < 0 ∨ b < a ∨ 65536 < b ∨ 8 < b - a)) : ∃ ia ib, a = nI ia ∧ b = nI ib ∧ ia ≤ ib ∧ ib ≤ 65536 ∧ ib - ia ≤ 8 := by
  have h1 : ¬ a < 0 := fun z => h (Or.inl z)
  have h2 : ¬ b < a := fun z => h (Or.inr (Or.inl z))
  have h3 : ¬ 65536 < b := fun z => h (Or.inr (Or.inr (Or.inl z)))
  have h4 : ¬ 8 < b - a := fun z => h (Or.inr (Or.inr (Or.inr z)))
  rw [Int32.lt_iff_toInt_lt] at h1 h2 h3
  rw [show (0 : Int32).toInt = 0 by decide] at h1
  rw [show (65536 : Int32).toInt = 65536 by decide] at h3
  have ea : a = nI a.toInt.toNat := by
    apply Int32.toInt_inj.mp
    rw [nI_toInt (by omega)]
    omega
  have eb : b = nI b.toInt.toNat := by
    apply Int32.toInt_inj.mp
    rw [nI_toInt (by omega)]
    omega
  refine ⟨a.toInt.toNat, b.toInt.toNat, ea, eb, by omega, by omega, ?_⟩
  rw [ea, eb, pk_sub (by omega)] at h4
  exact Nat.not_lt.mp (fun z => h4 (nI_lt (a := 8) z (by omega)))
theorem lay_w {x : Int32} (h1 : ¬ x = -1) (h : ¬ (x < -1 ∨ 0 < x)) : x = 0 := by
  have a : ¬ x < -1 := fun z => h (Or.inl z)
  have b : ¬ 0 < x := fun z => h (Or.inr z)
  have c : ¬ x.toInt = -1 := fun z => h1 (Int32.toInt_inj.mp (z.trans (by decide)))
  rw [Int32.lt_iff_toInt_lt] at a b
  rw [show (-1 : Int32).toInt = -1 by decide] at a
  rw [show (0 : Int32).toInt = 0 by decide] at b
  apply Int32.toInt_inj.mp
  rw [show (0 : Int32).toInt = 0 by decide]
  omega
theorem law_t {L i : Nat} (hL : L ≤ 3072) (hi : i ≤ 3072) : (nI L - 6 < nI i) ↔ ¬ i + 6 ≤ L := by
  have e : (nI L - 6).toInt = (L : Int) - 6 := by
    rw [Int32.toInt_sub, nI_toInt (by omega), show (6 : Int32).toInt = 6 by decide]
    rw [Int.bmod_eq_of_le (by omega) (by omega)]
  rw [Int32.lt_iff_toInt_lt, e, nI_toInt (by omega)]
  omega
