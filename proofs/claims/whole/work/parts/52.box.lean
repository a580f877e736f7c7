/-! ===== the reference's box ===== -/
def tmN (b : Nat) : Nat → Nat → Nat → Nat → Nat
  | 0, _, s, _ => s
  | m + 1, k, s, x => tmN b m (k + 1) (if b / 2 ^ k % 2 = 1 then s ^^^ x else s) (x2 x)
def ivN (a : Nat) : Nat → Nat
  | 0 => 0
  | k + 1 => if tmN (1 + k) 8 0 0 a = 1 then 1 + k else ivN a k
def sbN (v : Nat) : Nat := v ^^^ ((v * 2 ^ 1 ||| v / 2 ^ 7) &&& 255) ^^^ ((v * 2 ^ 2 ||| v / 2 ^ 6) &&& 255) ^^^ ((v * 2 ^ 3 ||| v / 2 ^ 5) &&& 255) ^^^ ((v * 2 ^ 4 ||| v / 2 ^ 4) &&& 255) ^^^ 99
theorem sb_all : (List.range 256).all (fun a => sbN (if a = 0 then 0 else ivN a 255) == sN a) = true := by decide +kernel
theorem sb_ok {a : Nat} (h : a < 256) : sbN (if a = 0 then 0 else ivN a 255) = sN a := by
  have := List.all_eq_true.mp sb_all a (List.mem_range.mpr h)
  exact eq_of_beq this
theorem iv_lt (a : Nat) : ∀ k, k < 256 → ivN a k < 256
  | 0, _ => by show 0 < 256; decide
  | k + 1, h => by
    show (if _ then 1 + k else ivN a k) < 256
    split
    · exact Nat.lt_of_le_of_lt (Nat.le_of_eq (Nat.add_comm 1 k)) h
    · exact iv_lt a k (by omega)
theorem x2_I {x : Nat} (h : x < 256) : jshl (nI x) 1 ^^^ (if nI x ≤ 127 then 0 else 283) = nI (x2 x) := by
  have : ∀ x, x < 256 → jshl (Int32.ofNat x) 1 ^^^ (if Int32.ofNat x ≤ 127 then 0 else 283) = Int32.ofNat (x2 x) := by decide +kernel
  exact this x h
theorem tmS_N {a b : Nat} (ha : a < 256) (hb : b < 256) : ∀ k, k ≤ 8 → ∃ s x, x < 256 ∧ tmS (nI a) (nI b) k = (nI s, nI x) ∧ tmN b 8 0 0 a = tmN b (8 - k) k s x
  | 0, _ => ⟨0, a, ha, rfl, rfl⟩
  | k + 1, hk => by
    obtain ⟨s, x, h1, h2, h3⟩ := tmS_N ha hb k (by omega)
    refine ⟨if b / 2 ^ k % 2 = 1 then s ^^^ x else s, x2 x, x2_lt x h1, ?_, ?_⟩
    · show ((tmS (nI a) (nI b) k).1 ^^^ (if jshr (nI b) (nI k) &&& 1 = 1 then (tmS (nI a) (nI b) k).2 else 0), jshl (tmS (nI a) (nI b) k).2 1 ^^^ (if (tmS (nI a) (nI b) k).2 ≤ 127 then 0 else 283)) = _
      rw [h2, x2_I h1, jshr_nI (by omega) (by omega), show (1 : Int32) = nI 1 from rfl, nx_and, Nat.and_one_is_mod]
      congr 1
      have e : b / 2 ^ k % 2 = 0 ∨ b / 2 ^ k % 2 = 1 := by omega
      rcases e with e | e
      · rw [e, if_neg (by decide), if_neg (by decide), show (0 : Int32) = nI 0 from rfl, nx_xor, Nat.xor_zero]
      · rw [e, if_pos rfl, if_pos rfl, nx_xor]
    · rw [h3]
      obtain ⟨m, hm⟩ : ∃ m, 8 - k = m + 1 := ⟨8 - k - 1, by omega⟩
      rw [hm, show 8 - (k + 1) = m by omega]
      rfl
theorem tm_N {a b : Nat} (ha : a < 256) (hb : b < 256) : tmI (nI a) (nI b) = 1 ↔ tmN b 8 0 0 a % 2 ^ 32 = 1 := by
  obtain ⟨s, x, h1, h2, h3⟩ := tmS_N ha hb 8 (Nat.le_refl _)
  have e : tmN b 8 0 0 a = s := h3
  unfold tmI
  rw [h2, e]
  show nI s = 1 ↔ _
  rw [show (1 : Int32) = nI 1 from rfl]
  constructor
  · intro h
    have := congrArg (fun z : Int32 => z.toBitVec.toNat) h
    change (BitVec.ofNat 32 s).toNat = (BitVec.ofNat 32 1).toNat at this
    rw [BitVec.toNat_ofNat, BitVec.toNat_ofNat] at this
    omega
  · intro h
    apply Int32.toBitVec_inj.mp
    apply BitVec.eq_of_toNat_eq
    show (BitVec.ofNat 32 s).toNat = (BitVec.ofNat 32 1).toNat
    rw [BitVec.toNat_ofNat, BitVec.toNat_ofNat]
    omega
theorem tmN_lt {b : Nat} : ∀ m k s x, s < 256 → x < 256 → tmN b m k s x < 256
  | 0, _, _, _, h, _ => h
  | m + 1, k, s, x, h, hx => by
    show tmN b m (k + 1) (if _ then s ^^^ x else s) (x2 x) < 256
    refine tmN_lt m _ _ _ ?_ (x2_lt x hx)
    split
    · exact xor_byte h hx
    · exact h
theorem tm_e {a b : Nat} (ha : a < 256) (hb : b < 256) : tmI (nI a) (nI b) = 1 ↔ tmN b 8 0 0 a = 1 := by
  rw [tm_N ha hb, Nat.mod_eq_of_lt (Nat.lt_trans (tmN_lt 8 0 0 a (by decide) ha) (by decide))]
theorem iv_a {a k : Nat} (ha : a < 256) (hk : 1 + k < 256) (h : tmI (nI a) (nI (1 + k)) = 1) : ivN a (k + 1) = 1 + k := if_pos ((tm_e ha hk).mp h)
theorem iv_b {a k : Nat} (ha : a < 256) (hk : 1 + k < 256) (h : ¬ tmI (nI a) (nI (1 + k)) = 1) : ivN a (k + 1) = ivN a k := if_neg (fun z => h ((tm_e ha hk).mpr z))
/-- addresses of rows -/
def adr (l : List Nat) (k : Nat) : Nat := l.getD k 0
theorem kb_0 (j : Nat) : kb (fun _ => 0) j = 0 := by
  show b32 0 (j % 4) = 0
  unfold b32
  show 0 / _ % 256 = 0
  rw [Nat.zero_div]
theorem sN_o {j : Nat} (h : ¬ j < 256) : sN j = 0 := by
  have e : xcolL.length = 256 := by decide +kernel
  have k : xcol j = 0 := by
    unfold xcol
    rw [List.getD_eq_getElem?_getD, List.getElem?_eq_none (by rw [e]; omega)]
    rfl
  unfold sN
  rw [k]
  show 0 / 256 % 256 = 0
  decide
theorem box_e : filN (fun _ => 0) 0 256 sN = sN := by
  funext j
  unfold filN
  by_cases h : j < 256
  · rw [if_pos (by omega), Nat.sub_zero]
  · rw [if_neg (by omega), sN_o h]
