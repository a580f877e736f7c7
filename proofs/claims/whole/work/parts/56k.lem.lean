theorem lw_eq {fh : Nat → Int32} {gi wo : Int32} {n j : Nat} : ∀ {m : Nat}, (∀ v, v < m → fh (56 * j + v) = hLb gi wo n v) → lwM fh j m = lwC gi wo n m
  | 0, _ => rfl
  | m + 1, h => by
    show lwM fh j m + _ = lwC gi wo n m + _
    rw [lw_eq (m := m) (fun v hv => h v (by omega)), h m (by omega)]
theorem lab0 {fz fd : Nat → Nat} {j v b : Nat} {h l : Int64} (hz : lbM fz (16 * (56 * j + v)) h l) (hb : b < 16) : nI (byW h l b) = nI (chG fz fd j v 0 b) := by
  unfold chG
  rw [if_neg (by decide), Nat.xor_zero, hz b hb]
theorem lab1 {fz fd : Nat → Nat} {j v b : Nat} {h l d1 d2 : Int64} (hz : lbM fz (16 * (56 * j + v)) h l) (hd : lbM fd (16 * j) d1 d2) (hb : b < 16) : nI (byW h l b) ^^^ nI (byW d1 d2 b) = nI (chG fz fd j v 1 b) := by
  unfold chG
  rw [if_pos rfl, nx_xor, hz b hb, hd b hb]
theorem sto_2 {y r : Nat} (h : sto y r) : y = 2 → r < 2 := by
  intro z
  unfold sto at h
  omega
