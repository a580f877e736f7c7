/-! ===== the law's start: classes, arrays, the table ===== -/
theorem eq_i {args : Array Value} {s : State} {t : Term} {x : Int32} (h : (Jvm.Cond.eq t (.int x)).before args s = true) : t.eval args s none [] s = some (.int x) := by
  have hu : (Term.int x).eval args s none [] s = some (.int x) := rfl
  unfold Jvm.Cond.before at h
  simp only [Cond.holds, Cond.value, hu] at h
  cases ht : t.eval args s none [] s with
  | none => simp [ht] at h
  | some v => cases v <;> simp [ht] at h; rw [h]
abbrev tCOL : Term := .static "GarbledWires$Cipher" "COLUMN_OF" "[I"
def flat1 : List Jvm.Cond := flatC (Jvm.Cond.and given_1 narrow_1)
theorem col_all : (List.range 256).all (fun j => decide (flat1[j + 7]? = some (Jvm.Cond.eq (.elem tCOL (.int (Int32.ofNat j))) (.int (xcol j))))) = true := by decide +kernel
theorem col_at {j : Nat} (h : j < 256) : Jvm.Cond.eq (.elem tCOL (.int (Int32.ofNat j))) (.int (xcol j)) ∈ flat1 := by
  have := List.all_eq_true.mp col_all j (List.mem_range.mpr h)
  exact List.mem_of_getElem? (of_decide_eq_true this)
theorem col_len : Jvm.Cond.eq (.length tCOL) (.int 256) ∈ flat1 := by decide +kernel
theorem col_arr : Jvm.Cond.arrayOf tCOL .int ∈ flat1 := by decide +kernel
theorem lw_arr {args : Array Value} {s : State} {ty : FieldType} (hno : ∀ C, ty ≠ .object C) (hr : va_RA s = va_RA s) (h : (Jvm.Cond.arrayClass ty).before args s = true) : ∃ cA, ArrOfT s cA ty ∧ s.vm.findClass ("[" ++ ty.toString) = some cA := by
  obtain ⟨cA, kA, comp, h1, h2, h3⟩ := Cond.arrayClass_spec h
  exact ⟨cA, fun N z => ⟨(fun k h => by cases h), kA, h2, comp, h3⟩, h1⟩
theorem lw_arrO {args : Array Value} {s : State} {C : String} (h : (Jvm.Cond.arrayOver (.object C)).before args s = true) : ∃ cA, ArrOfT s cA (.object C) ∧ va_RA s cA (.object C) := by
  obtain ⟨comp, cA, kA, h1, h2, h3, h4, h5⟩ := Cond.arrayOver_spec h
  exact ⟨cA, fun N z => ⟨(fun k h => by cases h), kA, h3, comp, h4⟩, kA, comp, h3, h4, h1, h5⟩
theorem inAI : Jvm.Cond.arrayClass .int ∈ lw_tbl := by decide +kernel
theorem inAJ : Jvm.Cond.arrayClass .long ∈ lw_tbl := by decide +kernel
theorem inAB : Jvm.Cond.arrayClass .byte ∈ lw_tbl := by decide +kernel
theorem inAZ : Jvm.Cond.arrayClass .boolean ∈ lw_tbl := by decide +kernel
theorem inAQ : Jvm.Cond.arrayOver (.object RX1) ∈ lw_tbl := by decide +kernel
theorem inAR : Jvm.Cond.arrayOver (.object RX3) ∈ lw_tbl := by decide +kernel
theorem inSt : Jvm.Cond.laysStatic RX0 "COLUMN_OF" "[I" ∈ lw_tbl := by decide +kernel
theorem lw_Y {b : Nat} {s : State} (hts : ∀ w ∈ lw_tbl, w.before #[Value.ref b] s = true) (hgv : (Jvm.Cond.and given_1 narrow_1).before #[Value.ref b] s = true) : ∃ Y : xD, va_K Y.1 vwCl (xtys Y) s ∧ xZ Y (fun q => s.heap.size ≤ q) s s.heap := by
  have hf : ∀ c ∈ flat1, c.before #[Value.ref b] s = true := flat_of_before _ hgv
  have hA : ∀ a : Nat, a < s.heap.size → ¬ (fun q => s.heap.size ≤ q) a := fun a ha => Nat.not_le.mpr ha
  obtain ⟨t, ht, hT⟩ := va_Tof (N := 256) (f := fun j => .int (xcol j)) (A := fun q => s.heap.size ≤ q) (by decide) (hf _ col_arr) (eq_i (hf _ col_len)) (fun j hj => eq_i (hf _ (col_at hj))) hA
  have hZ := va_Zof (C := RX0) (n := "COLUMN_OF") (d := "[I") (v := .ref t) (A := fun q => s.heap.size ≤ q) (hts _ inSt) (hts _ inX0_i) ht hA
  obtain ⟨c0, i0, k0⟩ := u_known (C := RX0) (T := TX0) (N := 4) (n := 4) hts inX0 (hts _ inX0_n)
  obtain ⟨c1, i1, k1⟩ := u_known (C := RX1) (T := TX1) (N := 9) (n := 9) hts inX1 (hts _ inX1_n)
  obtain ⟨c2, i2, k2⟩ := u_known (C := RX2) (T := TX2) (N := 4) (n := 4) hts inX2 (hts _ inX2_n)
  obtain ⟨c3, i3, k3⟩ := u_known (C := RX3) (T := TX3) (N := 11) (n := 11) hts inX3 (hts _ inX3_n)
  obtain ⟨c4, i4, k4⟩ := u_known (C := RX4) (T := TX4) (N := 2) (n := 2) hts inX4 (hts _ inX4_n)
  obtain ⟨c5, i5, k5⟩ := u_known (C := RX5) (T := TX5) (N := 1) (n := 1) hts inX5 (hts _ inX5_n)
  obtain ⟨c6, i6, k6⟩ := u_known (C := RX6) (T := TX6) (N := 2) (n := 2) hts inX6 (hts _ inX6_n)
  obtain ⟨c7, i7, k7⟩ := u_known (C := RX7) (T := TX7) (N := 11) (n := 11) hts inX7 (hts _ inX7_n)
  obtain ⟨c8, i8, k8⟩ := u_known (C := RX8) (T := TX8) (N := 42) (n := 42) hts inX8 (hts _ inX8_n)
  obtain ⟨a0, p0, q0⟩ := lw_arr (ty := .int) (fun C h => by cases h) rfl (hts _ inAI)
  obtain ⟨a1, p1, q1⟩ := lw_arr (ty := .long) (fun C h => by cases h) rfl (hts _ inAJ)
  obtain ⟨a2, p2, q2⟩ := lw_arr (ty := .byte) (fun C h => by cases h) rfl (hts _ inAB)
  obtain ⟨a3, p3, q3⟩ := lw_arr (ty := .boolean) (fun C h => by cases h) rfl (hts _ inAZ)
  obtain ⟨a4, p4, q4⟩ := lw_arrO (hts _ inAQ)
  obtain ⟨a5, p5, q5⟩ := lw_arrO (hts _ inAR)
  refine ⟨((fun k => if k = 0 then c0 else if k = 1 then c1 else if k = 2 then c2 else if k = 3 then c3 else if k = 4 then c4 else if k = 5 then c5 else if k = 6 then c6 else if k = 7 then c7 else c8, fun k => if k = 0 then i0 else if k = 1 then i1 else if k = 2 then i2 else if k = 3 then i3 else if k = 4 then i4 else if k = 5 then i5 else if k = 6 then i6 else if k = 7 then i7 else i8), fun k => if k = 0 then a0 else if k = 1 then a1 else if k = 2 then a2 else if k = 3 then a3 else if k = 4 then a4 else a5, t), ⟨?_, ?_⟩, hZ, hT⟩
  · intro k q hq
    match k, hq with
    | 0, hq => cases hq; exact k0
    | 1, hq => cases hq; exact k1
    | 2, hq => cases hq; exact k2
    | 3, hq => cases hq; exact k3
    | 4, hq => cases hq; exact k4
    | 5, hq => cases hq; exact k5
    | 6, hq => cases hq; exact k6
    | 7, hq => cases hq; exact k7
    | 8, hq => cases hq; exact k8
    | k + 9, hq => simp [vwCl] at hq
  · intro k q hq
    match k, hq with
    | 0, hq => cases hq; exact ⟨p0, q0⟩
    | 1, hq => cases hq; exact ⟨p1, q1⟩
    | 2, hq => cases hq; exact ⟨p2, q2⟩
    | 3, hq => cases hq; exact ⟨p3, q3⟩
    | 4, hq => cases hq; exact ⟨p4, q4⟩
    | 5, hq => cases hq; exact ⟨p5, q5⟩
    | k + 6, hq => simp [xtys] at hq
