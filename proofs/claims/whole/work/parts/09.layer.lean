/-! ===== new cells ===== -/
def xNw (own : String) (idx ci : Nat) (fs : List Value) (Nf : Nat) : Prop := ∃ (C : String) (T : u_T) (ty : Nat → FieldType), vwCl[ci]? = some (C, T, Nf) ∧ (∀ w ∈ u_ws C T Nf, w ∈ xtbl) ∧ (∀ k, k < Nf → parseFieldDescriptor (T k).2.2.1 = some (ty k)) ∧ Cond.classLink own idx C ∈ xtbl ∧ Cond.instantiable C Nf ∈ xtbl ∧ Cond.initialized C ∈ xtbl ∧ (∀ j, j < Nf → defaultValue (ty j) = vp_V fs j)
theorem x_new {G : xG} {Y : xD} {M : xM} {T : xL} {R0 : Room} {k n pc : Nat} {lv : List (Nat × Value)} {st : List Value} {w : va_W} (C : xC G Y M T R0) (j : Nat) {idx ci Nf : Nat} {fs : List Value} (hT : T[j]? = some (pc, .new idx, 3)) (hN : xNw M.1.cls idx ci fs Nf) (h1 : k + 1 ≤ R0.cells) (h2 : n + Nf ≤ R0.slots) (kk : ∀ q : Nat, X G Y (k + 1) (n + Nf) (pc + 3) lv (.ref q :: st) (w ++ [(q, .inr (ci, fs))])) : X G Y k n pc lv st w := by
  obtain ⟨p, l, e, R, s, m, args, below, meth, c, A, nL, Q⟩ := G
  obtain ⟨hx, hb, hml, rfl, hown, hts, hnw, hK, hA, hlocks, hnm, hret, hZ, rfl, hok⟩ := C
  intro H locs ls hl hP hD hS
  obtain ⟨Cn, Tn, ty, hc, hin, hty, hcl, hins, hini, hfs⟩ := hN
  exact va_new hx hb hts hin ty hty hown (hts _ hcl) (hts _ hins) (hts _ hini) hK hP hD hS hA hc hfs h1 h2 (xat hok hT) (fun q H1 hP hD hS => kk q H1 locs ls hl hP hD hS)
theorem x_objinit {G : xG} {Y : xD} {M : xM} {T : xL} {R0 : Room} {k n pc : Nat} {lv : List (Nat × Value)} {st : List Value} {w : va_W} (C : xC G Y M T R0) (j : Nat) {idx a : Nat} (hT : T[j]? = some (pc, .invokespecial idx, 3)) (h1 : Cond.methodLink M.1.cls idx objectInit ∈ xtbl) (h2 : Cond.instanceMethod objectInit ∈ xtbl) (h3 : Cond.code objectInit ⟨#[0xb1]⟩ 1 none ∈ xtbl) (hf : 1 ≤ R0.frames) (hlo : (st.map fun v => v.category).sum + 12 ≤ R0.locals) (kk : X G Y k n (pc + 3) lv st w) : X G Y k n pc lv (.ref a :: st) w := by
  obtain ⟨p, l, e, R, s, m, args, below, meth, c, A, nL, Q⟩ := G
  obtain ⟨hx, hb, hml, rfl, hown, hts, hnw, hK, hA, hlocks, hnm, hret, hZ, rfl, hok⟩ := C
  intro H locs ls hl hP hD hS
  exact W.objInit hx hb hown (hts _ h1) (hts _ h2) (hts _ h3) rfl (by rw [hml]; exact hl.1) rfl (xat hok hT) hf (by show 2 * 0 + _ + 12 ≤ _; rw [Nat.mul_zero, Nat.zero_add]; exact hlo) (kk H locs ls hl hP hD hS)
theorem xarr {s : State} {Y : xD} {t0 : Nat} {cA : ClassId} {ty : FieldType} (hK : va_K Y.1 vwCl (xtys Y) s) (ht : (xtys Y)[t0]? = some (Y.2.1 t0, ty)) (hp : ∀ cn, ty ≠ .object cn) (h : s.vm.findClass ("[" ++ ty.toString) = some cA) : cA = Y.2.1 t0 := by
  have h1 := (hK.2 t0 _ ht).2
  unfold va_RA at h1
  cases ty with
  | object cn => exact absurd rfl (hp cn)
  | _ => exact Option.some.inj (h.symm.trans h1)
theorem x_newI {G : xG} {Y : xD} {M : xM} {T : xL} {R0 : Room} {k n pc : Nat} {lv : List (Nat × Value)} {st : List Value} {w : va_W} (C : xC G Y M T R0) (j : Nat) {x : Int32} (N' : Nat) (hT : T[j]? = some (pc, .newarray .int, 2)) (hn : ¬ x < 0) (hN : x.toNatClampNeg = N') (hbytes : N' * 4 ≤ 536870912) (h1 : k + 1 ≤ R0.cells) (h2 : n + N' ≤ R0.slots) (kk : ∀ q : Nat, X G Y (k + 1) (n + N') (pc + 2) lv (.ref q :: st) (w ++ [(q, cI Y N' (fun _ => 0))])) : X G Y k n pc lv (.int x :: st) w := by
  obtain ⟨p, l, e, R, s, m, args, below, meth, c, A, nL, Q⟩ := G
  obtain ⟨hx, hb, hml, rfl, hown, hts, hnw, hK, hA, hlocks, hnm, hret, hZ, rfl, hok⟩ := C
  intro H locs ls hl hP hD hS
  refine va_newaK (atype := .int) hx hb (hts _ (List.mem_filter.mpr ⟨ac_int, rfl⟩)) rfl (xat hok hT) rfl hn hN hbytes h1 h2 rfl fun H1 cA e1 z1 o1 hAr hNm => ?_
  have hcA : cA = Y.2.1 0 := xarr hK rfl (fun cn h => by cases h) hNm
  subst hcA
  have hk : ∀ (k : Nat) (x : Nat × va_E), w[k]? = some x → H1[x.1]? = H[x.1]? := fun k x hx => o1 x.1 ((hP k x hx).lt)
  refine kk H.size H1 locs ls hl ((hP.kept hk).app (fun k x hx => ?_)) (hD.push hP rfl (hA _ hS.1)) ⟨Nat.le_trans hS.1 (by omega), fun x h1 h2 => (o1 x (Nat.lt_of_lt_of_le h1 hS.1)).trans (hS.2.1 x h1 h2), hS.2.2⟩
  have hz : k < 1 := (List.getElem?_eq_some_iff.mp hx).1
  rw [show k = 0 by omega] at hx
  cases hx
  show H1[H.size]? = some (vp_cell _ _)
  exact e1
theorem x_newJ {G : xG} {Y : xD} {M : xM} {T : xL} {R0 : Room} {k n pc : Nat} {lv : List (Nat × Value)} {st : List Value} {w : va_W} (C : xC G Y M T R0) (j : Nat) {x : Int32} (N' : Nat) (hT : T[j]? = some (pc, .newarray .long, 2)) (hn : ¬ x < 0) (hN : x.toNatClampNeg = N') (hbytes : N' * 8 ≤ 536870912) (h1 : k + 1 ≤ R0.cells) (h2 : n + N' ≤ R0.slots) (kk : ∀ q : Nat, X G Y (k + 1) (n + N') (pc + 2) lv (.ref q :: st) (w ++ [(q, cJ Y N' (fun _ => 0))])) : X G Y k n pc lv (.int x :: st) w := by
  obtain ⟨p, l, e, R, s, m, args, below, meth, c, A, nL, Q⟩ := G
  obtain ⟨hx, hb, hml, rfl, hown, hts, hnw, hK, hA, hlocks, hnm, hret, hZ, rfl, hok⟩ := C
  intro H locs ls hl hP hD hS
  refine va_newaK (atype := .long) hx hb (hts _ (List.mem_filter.mpr ⟨ac_long, rfl⟩)) rfl (xat hok hT) rfl hn hN hbytes h1 h2 rfl fun H1 cA e1 z1 o1 hAr hNm => ?_
  have hcA : cA = Y.2.1 1 := xarr hK rfl (fun cn h => by cases h) hNm
  subst hcA
  have hk : ∀ (k : Nat) (x : Nat × va_E), w[k]? = some x → H1[x.1]? = H[x.1]? := fun k x hx => o1 x.1 ((hP k x hx).lt)
  refine kk H.size H1 locs ls hl ((hP.kept hk).app (fun k x hx => ?_)) (hD.push hP rfl (hA _ hS.1)) ⟨Nat.le_trans hS.1 (by omega), fun x h1 h2 => (o1 x (Nat.lt_of_lt_of_le h1 hS.1)).trans (hS.2.1 x h1 h2), hS.2.2⟩
  have hz : k < 1 := (List.getElem?_eq_some_iff.mp hx).1
  rw [show k = 0 by omega] at hx
  cases hx
  show H1[H.size]? = some (vp_cell _ _)
  exact e1
theorem x_newB {G : xG} {Y : xD} {M : xM} {T : xL} {R0 : Room} {k n pc : Nat} {lv : List (Nat × Value)} {st : List Value} {w : va_W} (C : xC G Y M T R0) (j : Nat) {x : Int32} (N' : Nat) (hT : T[j]? = some (pc, .newarray .byte, 2)) (hn : ¬ x < 0) (hN : x.toNatClampNeg = N') (hbytes : N' * 1 ≤ 536870912) (h1 : k + 1 ≤ R0.cells) (h2 : n + N' ≤ R0.slots) (kk : ∀ q : Nat, X G Y (k + 1) (n + N') (pc + 2) lv (.ref q :: st) (w ++ [(q, cB Y N' (fun _ => 0))])) : X G Y k n pc lv (.int x :: st) w := by
  obtain ⟨p, l, e, R, s, m, args, below, meth, c, A, nL, Q⟩ := G
  obtain ⟨hx, hb, hml, rfl, hown, hts, hnw, hK, hA, hlocks, hnm, hret, hZ, rfl, hok⟩ := C
  intro H locs ls hl hP hD hS
  refine va_newaK (atype := .byte) hx hb (hts _ (List.mem_filter.mpr ⟨ac_byte, rfl⟩)) rfl (xat hok hT) rfl hn hN hbytes h1 h2 rfl fun H1 cA e1 z1 o1 hAr hNm => ?_
  have hcA : cA = Y.2.1 2 := xarr hK rfl (fun cn h => by cases h) hNm
  subst hcA
  have hk : ∀ (k : Nat) (x : Nat × va_E), w[k]? = some x → H1[x.1]? = H[x.1]? := fun k x hx => o1 x.1 ((hP k x hx).lt)
  refine kk H.size H1 locs ls hl ((hP.kept hk).app (fun k x hx => ?_)) (hD.push hP rfl (hA _ hS.1)) ⟨Nat.le_trans hS.1 (by omega), fun x h1 h2 => (o1 x (Nat.lt_of_lt_of_le h1 hS.1)).trans (hS.2.1 x h1 h2), hS.2.2⟩
  have hz : k < 1 := (List.getElem?_eq_some_iff.mp hx).1
  rw [show k = 0 by omega] at hx
  cases hx
  show H1[H.size]? = some (vp_cell _ _)
  exact e1
theorem x_newZ {G : xG} {Y : xD} {M : xM} {T : xL} {R0 : Room} {k n pc : Nat} {lv : List (Nat × Value)} {st : List Value} {w : va_W} (C : xC G Y M T R0) (j : Nat) {x : Int32} (N' : Nat) (hT : T[j]? = some (pc, .newarray .boolean, 2)) (hn : ¬ x < 0) (hN : x.toNatClampNeg = N') (hbytes : N' * 1 ≤ 536870912) (h1 : k + 1 ≤ R0.cells) (h2 : n + N' ≤ R0.slots) (kk : ∀ q : Nat, X G Y (k + 1) (n + N') (pc + 2) lv (.ref q :: st) (w ++ [(q, cZ Y N' (fun _ => 0))])) : X G Y k n pc lv (.int x :: st) w := by
  obtain ⟨p, l, e, R, s, m, args, below, meth, c, A, nL, Q⟩ := G
  obtain ⟨hx, hb, hml, rfl, hown, hts, hnw, hK, hA, hlocks, hnm, hret, hZ, rfl, hok⟩ := C
  intro H locs ls hl hP hD hS
  refine va_newaK (atype := .boolean) hx hb (hts _ (List.mem_filter.mpr ⟨ac_boolean, rfl⟩)) rfl (xat hok hT) rfl hn hN hbytes h1 h2 rfl fun H1 cA e1 z1 o1 hAr hNm => ?_
  have hcA : cA = Y.2.1 3 := xarr hK rfl (fun cn h => by cases h) hNm
  subst hcA
  have hk : ∀ (k : Nat) (x : Nat × va_E), w[k]? = some x → H1[x.1]? = H[x.1]? := fun k x hx => o1 x.1 ((hP k x hx).lt)
  refine kk H.size H1 locs ls hl ((hP.kept hk).app (fun k x hx => ?_)) (hD.push hP rfl (hA _ hS.1)) ⟨Nat.le_trans hS.1 (by omega), fun x h1 h2 => (o1 x (Nat.lt_of_lt_of_le h1 hS.1)).trans (hS.2.1 x h1 h2), hS.2.2⟩
  have hz : k < 1 := (List.getElem?_eq_some_iff.mp hx).1
  rw [show k = 0 by omega] at hx
  cases hx
  show H1[H.size]? = some (vp_cell _ _)
  exact e1
theorem x_newQ {G : xG} {Y : xD} {M : xM} {T : xL} {R0 : Room} {k n pc : Nat} {lv : List (Nat × Value)} {st : List Value} {w : va_W} (C : xC G Y M T R0) (j : Nat) {idx : Nat} {x : Int32} (N' : Nat) (hT : T[j]? = some (pc, .anewarray idx, 3)) (hcl : Cond.classLink M.1.cls idx RX1 ∈ xtbl) (hov : Cond.arrayOver (.object RX1) ∈ xnw) (hn : ¬ x < 0) (hN : x.toNatClampNeg = N') (hbytes : N' * 4 ≤ 536870912) (h1 : k + 1 ≤ R0.cells) (h2 : n + N' ≤ R0.slots) (kk : ∀ q : Nat, X G Y (k + 1) (n + N') (pc + 3) lv (.ref q :: st) (w ++ [(q, cQ Y N' (fun _ => none))])) : X G Y k n pc lv (.int x :: st) w := by
  obtain ⟨p, l, e, R, s, m, args, below, meth, c, A, nL, Q⟩ := G
  obtain ⟨hx, hb, hml, rfl, hown, hts, hnw, hK, hA, hlocks, hnm, hret, hZ, rfl, hok⟩ := C
  intro H locs ls hl hP hD hS
  refine va_newq hx hb hown (hts _ hcl) (hnw _ hov) hK hP hD hS hA hn hN hbytes h1 h2 (xat hok hT) (fun q cA H1 hK1 hP1 hD1 hS1 => ?_)
  have hcA : cA = Y.2.1 4 := by
    have a1 : va_RA s cA (.object RX1) := (hK1.2 (xtys Y).length (cA, .object RX1) (by simp)).2
    have a2 : va_RA s (Y.2.1 4) (.object RX1) := (hK.2 4 _ rfl).2
    obtain ⟨_, _, _, _, _, b1⟩ := a1
    obtain ⟨_, _, _, _, _, b2⟩ := a2
    exact Option.some.inj (b1.symm.trans b2)
  subst hcA
  exact kk q H1 locs ls hl hP1 hD1 hS1
theorem x_newR {G : xG} {Y : xD} {M : xM} {T : xL} {R0 : Room} {k n pc : Nat} {lv : List (Nat × Value)} {st : List Value} {w : va_W} (C : xC G Y M T R0) (j : Nat) {idx : Nat} {x : Int32} (N' : Nat) (hT : T[j]? = some (pc, .anewarray idx, 3)) (hcl : Cond.classLink M.1.cls idx RX3 ∈ xtbl) (hov : Cond.arrayOver (.object RX3) ∈ xnw) (hn : ¬ x < 0) (hN : x.toNatClampNeg = N') (hbytes : N' * 4 ≤ 536870912) (h1 : k + 1 ≤ R0.cells) (h2 : n + N' ≤ R0.slots) (kk : ∀ q : Nat, X G Y (k + 1) (n + N') (pc + 3) lv (.ref q :: st) (w ++ [(q, cR Y N' (fun _ => none))])) : X G Y k n pc lv (.int x :: st) w := by
  obtain ⟨p, l, e, R, s, m, args, below, meth, c, A, nL, Q⟩ := G
  obtain ⟨hx, hb, hml, rfl, hown, hts, hnw, hK, hA, hlocks, hnm, hret, hZ, rfl, hok⟩ := C
  intro H locs ls hl hP hD hS
  refine va_newq hx hb hown (hts _ hcl) (hnw _ hov) hK hP hD hS hA hn hN hbytes h1 h2 (xat hok hT) (fun q cA H1 hK1 hP1 hD1 hS1 => ?_)
  have hcA : cA = Y.2.1 5 := by
    have a1 : va_RA s cA (.object RX3) := (hK1.2 (xtys Y).length (cA, .object RX3) (by simp)).2
    have a2 : va_RA s (Y.2.1 5) (.object RX3) := (hK.2 5 _ rfl).2
    obtain ⟨_, _, _, _, _, b1⟩ := a1
    obtain ⟨_, _, _, _, _, b2⟩ := a2
    exact Option.some.inj (b1.symm.trans b2)
  subst hcA
  exact kk q H1 locs ls hl hP1 hD1 hS1
theorem xg {w : Cond} (h : w ∈ lw_tbl) (hg : goodWord w = true) : w ∈ xtbl := List.mem_filter.mpr ⟨h, hg⟩
theorem xgn {w : Cond} (h : w ∈ lw_tbl) (hg : xisn w = true) : w ∈ xnw := List.mem_filter.mpr ⟨h, hg⟩
theorem ginX0 : ∀ w ∈ wsX00, w ∈ xtbl := fun w hw => xg (inX0 w hw) (List.all_eq_true.mp (show wsX00.all goodWord = true by decide +kernel) w hw)
def fsX0 : List Value := [.null, .long 0, .long 0, .int 0]
theorem ginX1 : ∀ w ∈ wsX10, w ∈ xtbl := fun w hw => xg (inX1 w hw) (List.all_eq_true.mp (show wsX10.all goodWord = true by decide +kernel) w hw)
def fsX1 : List Value := [.null, .null, .null, .null, .null, .int 0, .int 0, .int 0, .int 0]
theorem ginX2 : ∀ w ∈ wsX20, w ∈ xtbl := fun w hw => xg (inX2 w hw) (List.all_eq_true.mp (show wsX20.all goodWord = true by decide +kernel) w hw)
def fsX2 : List Value := [.null, .int 0, .int 0, .int 0]
theorem ginX3 : ∀ w ∈ wsX30, w ∈ xtbl := fun w hw => xg (inX3 w hw) (List.all_eq_true.mp (show wsX30.all goodWord = true by decide +kernel) w hw)
def fsX3 : List Value := [.null, .int 0, .int 0, .int 0, .null, .null, .null, .int 0, .int 0, .int 0, .int 0]
theorem ginX4 : ∀ w ∈ wsX40, w ∈ xtbl := fun w hw => xg (inX4 w hw) (List.all_eq_true.mp (show wsX40.all goodWord = true by decide +kernel) w hw)
def fsX4 : List Value := [.null, .null]
theorem ginX5 : ∀ w ∈ wsX50, w ∈ xtbl := fun w hw => xg (inX5 w hw) (List.all_eq_true.mp (show wsX50.all goodWord = true by decide +kernel) w hw)
def fsX5 : List Value := [.null]
theorem ginX6 : ∀ w ∈ wsX60, w ∈ xtbl := fun w hw => xg (inX6 w hw) (List.all_eq_true.mp (show wsX60.all goodWord = true by decide +kernel) w hw)
def fsX6 : List Value := [.null, .int 0]
theorem ginX7 : ∀ w ∈ wsX70, w ∈ xtbl := fun w hw => xg (inX7 w hw) (List.all_eq_true.mp (show wsX70.all goodWord = true by decide +kernel) w hw)
def fsX7 : List Value := [.null, .null, .null, .null, .null, .null, .null, .null, .int 0, .int 0, .int 0]
theorem ginX8 : ∀ w ∈ wsX80, w ∈ xtbl := fun w hw => xg (inX8 w hw) (List.all_eq_true.mp (show wsX80.all goodWord = true by decide +kernel) w hw)
def fsX8 : List Value := [.int 0, .int 0, .null, .int 0, .null, .int 0, .null, .null, .null, .null, .int 0, .null, .null, .null, .null, .null, .null, .null, .null, .null, .int 0, .null, .null, .null, .null, .null, .null, .null, .null, .null, .null, .null, .null, .null, .null, .null, .int 0, .int 0, .int 0, .null, .null, .null]
theorem wL_7 : xNw RL 7 7 fsX7 11 := ⟨_, _, tyX7, rfl, ginX7, tyX7_ok, xg kL_7 rfl, xg inX7_n rfl, xg inX7_i rfl, by decide +kernel⟩
theorem vL_9 : xVI RL 9 mX7_init 0 := ⟨xg uX7_init rfl, Or.inl (xg kL_9 rfl), xg nX7_init rfl, xg inX7_i rfl, rfl, rfl, ⟨by decide +kernel, by decide +kernel, by decide +kernel⟩⟩
theorem wL_10 : xNw RL 10 8 fsX8 42 := ⟨_, _, tyX8, rfl, ginX8, tyX8_ok, xg kL_10 rfl, xg inX8_n rfl, xg inX8_i rfl, by decide +kernel⟩
theorem vL_12 : xVI RL 12 mX8_init 0 := ⟨xg uX8_init rfl, Or.inl (xg kL_12 rfl), xg nX8_init rfl, xg inX8_i rfl, rfl, rfl, ⟨by decide +kernel, by decide +kernel, by decide +kernel⟩⟩
theorem vL_15 : xV RL 15 mX7_feed 2 := ⟨xg uX7_feed rfl, xg kL_15 rfl, xg nX7_feed rfl, xg seX7_feed rfl, xg inX7_i rfl, ⟨by decide +kernel, by decide +kernel, by decide +kernel⟩⟩
theorem vL_19 : xV RL 19 mX8_feed 2 := ⟨xg uX8_feed rfl, xg kL_19 rfl, xg nX8_feed rfl, xg seX8_feed rfl, xg inX8_i rfl, ⟨by decide +kernel, by decide +kernel, by decide +kernel⟩⟩
theorem vL_20 : xV RL 20 mX7_clear 0 := ⟨xg uX7_clear rfl, xg kL_20 rfl, xg nX7_clear rfl, xg seX7_clear rfl, xg inX7_i rfl, ⟨by decide +kernel, by decide +kernel, by decide +kernel⟩⟩
theorem vL_24 : xV RL 24 mX8_clear 0 := ⟨xg uX8_clear rfl, xg kL_24 rfl, xg nX8_clear rfl, xg seX8_clear rfl, xg inX8_i rfl, ⟨by decide +kernel, by decide +kernel, by decide +kernel⟩⟩
theorem vL_25 : xV RL 25 mX7_key 0 := ⟨xg uX7_key rfl, xg kL_25 rfl, xg nX7_key rfl, xg seX7_key rfl, xg inX7_i rfl, ⟨by decide +kernel, by decide +kernel, by decide +kernel⟩⟩
theorem vL_28 : xV RL 28 mX8_key 0 := ⟨xg uX8_key rfl, xg kL_28 rfl, xg nX8_key rfl, xg seX8_key rfl, xg inX8_i rfl, ⟨by decide +kernel, by decide +kernel, by decide +kernel⟩⟩
theorem vL_29 : xV RL 29 mX7_make 2 := ⟨xg uX7_make rfl, xg kL_29 rfl, xg nX7_make rfl, xg seX7_make rfl, xg inX7_i rfl, ⟨by decide +kernel, by decide +kernel, by decide +kernel⟩⟩
theorem vL_33 : xV RL 33 mX8_make 2 := ⟨xg uX8_make rfl, xg kL_33 rfl, xg nX8_make rfl, xg seX8_make rfl, xg inX8_i rfl, ⟨by decide +kernel, by decide +kernel, by decide +kernel⟩⟩
theorem vL_34 : xV RL 34 mX7_result 1 := ⟨xg uX7_result rfl, xg kL_34 rfl, xg nX7_result rfl, xg seX7_result rfl, xg inX7_i rfl, ⟨by decide +kernel, by decide +kernel, by decide +kernel⟩⟩
theorem vL_38 : xV RL 38 mX8_result 1 := ⟨xg uX8_result rfl, xg kL_38 rfl, xg nX8_result rfl, xg seX8_result rfl, xg inX8_i rfl, ⟨by decide +kernel, by decide +kernel, by decide +kernel⟩⟩
theorem vL_39 : xV RL 39 mX7_circuit 0 := ⟨xg uX7_circuit rfl, xg kL_39 rfl, xg nX7_circuit rfl, xg seX7_circuit rfl, xg inX7_i rfl, ⟨by decide +kernel, by decide +kernel, by decide +kernel⟩⟩
theorem vL_42 : xV RL 42 mX8_circuit 0 := ⟨xg uX8_circuit rfl, xg kL_42 rfl, xg nX8_circuit rfl, xg seX8_circuit rfl, xg inX8_i rfl, ⟨by decide +kernel, by decide +kernel, by decide +kernel⟩⟩
theorem vL_43 : xV RL 43 mX7_about 2 := ⟨xg uX7_about rfl, xg kL_43 rfl, xg nX7_about rfl, xg seX7_about rfl, xg inX7_i rfl, ⟨by decide +kernel, by decide +kernel, by decide +kernel⟩⟩
theorem vL_46 : xV RL 46 mX8_about 2 := ⟨xg uX8_about rfl, xg kL_46 rfl, xg nX8_about rfl, xg seX8_about rfl, xg inX8_i rfl, ⟨by decide +kernel, by decide +kernel, by decide +kernel⟩⟩
theorem vL_47 : xV RL 47 mX7_gate 3 := ⟨xg uX7_gate rfl, xg kL_47 rfl, xg nX7_gate rfl, xg seX7_gate rfl, xg inX7_i rfl, ⟨by decide +kernel, by decide +kernel, by decide +kernel⟩⟩
theorem vL_51 : xV RL 51 mX8_gate 3 := ⟨xg uX8_gate rfl, xg kL_51 rfl, xg nX8_gate rfl, xg seX8_gate rfl, xg inX8_i rfl, ⟨by decide +kernel, by decide +kernel, by decide +kernel⟩⟩
theorem vL_52 : xV RL 52 mX7_output 2 := ⟨xg uX7_output rfl, xg kL_52 rfl, xg nX7_output rfl, xg seX7_output rfl, xg inX7_i rfl, ⟨by decide +kernel, by decide +kernel, by decide +kernel⟩⟩
theorem vL_55 : xV RL 55 mX8_output 2 := ⟨xg uX8_output rfl, xg kL_55 rfl, xg nX8_output rfl, xg seX8_output rfl, xg inX8_i rfl, ⟨by decide +kernel, by decide +kernel, by decide +kernel⟩⟩
theorem vL_56 : xV RL 56 mX7_plain 2 := ⟨xg uX7_plain rfl, xg kL_56 rfl, xg nX7_plain rfl, xg seX7_plain rfl, xg inX7_i rfl, ⟨by decide +kernel, by decide +kernel, by decide +kernel⟩⟩
theorem vL_59 : xV RL 59 mX8_plain 2 := ⟨xg uX8_plain rfl, xg kL_59 rfl, xg nX8_plain rfl, xg seX8_plain rfl, xg inX8_i rfl, ⟨by decide +kernel, by decide +kernel, by decide +kernel⟩⟩
theorem vL_60 : xV RL 60 mX7_garble 3 := ⟨xg uX7_garble rfl, xg kL_60 rfl, xg nX7_garble rfl, xg seX7_garble rfl, xg inX7_i rfl, ⟨by decide +kernel, by decide +kernel, by decide +kernel⟩⟩
theorem vL_63 : xV RL 63 mX8_garble 3 := ⟨xg uX8_garble rfl, xg kL_63 rfl, xg nX8_garble rfl, xg seX8_garble rfl, xg inX8_i rfl, ⟨by decide +kernel, by decide +kernel, by decide +kernel⟩⟩
theorem vL_64 : xV RL 64 mX7_told 2 := ⟨xg uX7_told rfl, xg kL_64 rfl, xg nX7_told rfl, xg seX7_told rfl, xg inX7_i rfl, ⟨by decide +kernel, by decide +kernel, by decide +kernel⟩⟩
theorem vL_67 : xV RL 67 mX8_told 2 := ⟨xg uX8_told rfl, xg kL_67 rfl, xg nX8_told rfl, xg seX8_told rfl, xg inX8_i rfl, ⟨by decide +kernel, by decide +kernel, by decide +kernel⟩⟩
theorem vL_68 : xV RL 68 mX7_label 4 := ⟨xg uX7_label rfl, xg kL_68 rfl, xg nX7_label rfl, xg seX7_label rfl, xg inX7_i rfl, ⟨by decide +kernel, by decide +kernel, by decide +kernel⟩⟩
theorem vL_72 : xV RL 72 mX8_label 4 := ⟨xg uX8_label rfl, xg kL_72 rfl, xg nX8_label rfl, xg seX8_label rfl, xg inX8_i rfl, ⟨by decide +kernel, by decide +kernel, by decide +kernel⟩⟩
theorem vL_73 : xV RL 73 mX7_row 4 := ⟨xg uX7_row rfl, xg kL_73 rfl, xg nX7_row rfl, xg seX7_row rfl, xg inX7_i rfl, ⟨by decide +kernel, by decide +kernel, by decide +kernel⟩⟩
theorem vL_76 : xV RL 76 mX8_row 4 := ⟨xg uX8_row rfl, xg kL_76 rfl, xg nX8_row rfl, xg seX8_row rfl, xg inX8_i rfl, ⟨by decide +kernel, by decide +kernel, by decide +kernel⟩⟩
theorem vL_77 : xV RL 77 mX7_spoil 5 := ⟨xg uX7_spoil rfl, xg kL_77 rfl, xg nX7_spoil rfl, xg seX7_spoil rfl, xg inX7_i rfl, ⟨by decide +kernel, by decide +kernel, by decide +kernel⟩⟩
theorem vL_81 : xV RL 81 mX8_spoil 5 := ⟨xg uX8_spoil rfl, xg kL_81 rfl, xg nX8_spoil rfl, xg seX8_spoil rfl, xg inX8_i rfl, ⟨by decide +kernel, by decide +kernel, by decide +kernel⟩⟩
theorem vL_82 : xV RL 82 mX7_choose 3 := ⟨xg uX7_choose rfl, xg kL_82 rfl, xg nX7_choose rfl, xg seX7_choose rfl, xg inX7_i rfl, ⟨by decide +kernel, by decide +kernel, by decide +kernel⟩⟩
theorem vL_85 : xV RL 85 mX8_choose 3 := ⟨xg uX8_choose rfl, xg kL_85 rfl, xg nX8_choose rfl, xg seX8_choose rfl, xg inX8_i rfl, ⟨by decide +kernel, by decide +kernel, by decide +kernel⟩⟩
theorem vL_86 : xV RL 86 mX7_encode 2 := ⟨xg uX7_encode rfl, xg kL_86 rfl, xg nX7_encode rfl, xg seX7_encode rfl, xg inX7_i rfl, ⟨by decide +kernel, by decide +kernel, by decide +kernel⟩⟩
theorem vL_89 : xV RL 89 mX8_encode 2 := ⟨xg uX8_encode rfl, xg kL_89 rfl, xg nX8_encode rfl, xg seX8_encode rfl, xg inX8_i rfl, ⟨by decide +kernel, by decide +kernel, by decide +kernel⟩⟩
theorem vL_90 : xV RL 90 mX7_lay 3 := ⟨xg uX7_lay rfl, xg kL_90 rfl, xg nX7_lay rfl, xg seX7_lay rfl, xg inX7_i rfl, ⟨by decide +kernel, by decide +kernel, by decide +kernel⟩⟩
theorem vL_93 : xV RL 93 mX8_lay 3 := ⟨xg uX8_lay rfl, xg kL_93 rfl, xg nX8_lay rfl, xg seX8_lay rfl, xg inX8_i rfl, ⟨by decide +kernel, by decide +kernel, by decide +kernel⟩⟩
theorem vL_94 : xV RL 94 mX7_workOut 1 := ⟨xg uX7_workOut rfl, xg kL_94 rfl, xg nX7_workOut rfl, xg seX7_workOut rfl, xg inX7_i rfl, ⟨by decide +kernel, by decide +kernel, by decide +kernel⟩⟩
theorem vL_97 : xV RL 97 mX8_workOut 1 := ⟨xg uX8_workOut rfl, xg kL_97 rfl, xg nX8_workOut rfl, xg seX8_workOut rfl, xg inX8_i rfl, ⟨by decide +kernel, by decide +kernel, by decide +kernel⟩⟩
theorem vL_98 : xV RL 98 mX7_active 3 := ⟨xg uX7_active rfl, xg kL_98 rfl, xg nX7_active rfl, xg seX7_active rfl, xg inX7_i rfl, ⟨by decide +kernel, by decide +kernel, by decide +kernel⟩⟩
theorem vL_101 : xV RL 101 mX8_active 3 := ⟨xg uX8_active rfl, xg kL_101 rfl, xg nX8_active rfl, xg seX8_active rfl, xg inX8_i rfl, ⟨by decide +kernel, by decide +kernel, by decide +kernel⟩⟩
theorem vL_102 : xV RL 102 mX7_place 4 := ⟨xg uX7_place rfl, xg kL_102 rfl, xg nX7_place rfl, xg seX7_place rfl, xg inX7_i rfl, ⟨by decide +kernel, by decide +kernel, by decide +kernel⟩⟩
theorem vL_106 : xV RL 106 mX8_place 4 := ⟨xg uX8_place rfl, xg kL_106 rfl, xg nX8_place rfl, xg seX8_place rfl, xg inX8_i rfl, ⟨by decide +kernel, by decide +kernel, by decide +kernel⟩⟩
theorem vL_107 : xV RL 107 mX7_open 2 := ⟨xg uX7_open rfl, xg kL_107 rfl, xg nX7_open rfl, xg seX7_open rfl, xg inX7_i rfl, ⟨by decide +kernel, by decide +kernel, by decide +kernel⟩⟩
theorem vL_110 : xV RL 110 mX8_open 2 := ⟨xg uX8_open rfl, xg kL_110 rfl, xg nX8_open rfl, xg seX8_open rfl, xg inX8_i rfl, ⟨by decide +kernel, by decide +kernel, by decide +kernel⟩⟩
theorem vL_111 : xV RL 111 mX7_openAll 1 := ⟨xg uX7_openAll rfl, xg kL_111 rfl, xg nX7_openAll rfl, xg seX7_openAll rfl, xg inX7_i rfl, ⟨by decide +kernel, by decide +kernel, by decide +kernel⟩⟩
theorem vL_114 : xV RL 114 mX8_openAll 1 := ⟨xg uX8_openAll rfl, xg kL_114 rfl, xg nX8_openAll rfl, xg seX8_openAll rfl, xg inX8_i rfl, ⟨by decide +kernel, by decide +kernel, by decide +kernel⟩⟩
theorem vL_115 : xV RL 115 mX7_agrees 3 := ⟨xg uX7_agrees rfl, xg kL_115 rfl, xg nX7_agrees rfl, xg seX7_agrees rfl, xg inX7_i rfl, ⟨by decide +kernel, by decide +kernel, by decide +kernel⟩⟩
theorem vL_118 : xV RL 118 mX8_agrees 3 := ⟨xg uX8_agrees rfl, xg kL_118 rfl, xg nX8_agrees rfl, xg seX8_agrees rfl, xg inX8_i rfl, ⟨by decide +kernel, by decide +kernel, by decide +kernel⟩⟩
theorem vL_119 : xV RL 119 mX7_count 1 := ⟨xg uX7_count rfl, xg kL_119 rfl, xg nX7_count rfl, xg seX7_count rfl, xg inX7_i rfl, ⟨by decide +kernel, by decide +kernel, by decide +kernel⟩⟩
theorem vL_122 : xV RL 122 mX8_count 1 := ⟨xg uX8_count rfl, xg kL_122 rfl, xg nX8_count rfl, xg seX8_count rfl, xg inX8_i rfl, ⟨by decide +kernel, by decide +kernel, by decide +kernel⟩⟩
theorem vL_123 : xV RL 123 mX7_status 0 := ⟨xg uX7_status rfl, xg kL_123 rfl, xg nX7_status rfl, xg seX7_status rfl, xg inX7_i rfl, ⟨by decide +kernel, by decide +kernel, by decide +kernel⟩⟩
theorem vL_126 : xV RL 126 mX8_status 0 := ⟨xg uX8_status rfl, xg kL_126 rfl, xg nX8_status rfl, xg seX8_status rfl, xg inX8_i rfl, ⟨by decide +kernel, by decide +kernel, by decide +kernel⟩⟩
theorem fX0_9 : xF RX0 9 0 0 := ⟨_, _, _, rfl, ginX0, by decide, Or.inl (xg kX0_9 rfl)⟩
theorem pX0_9 : xPF RX0 9 0 0 (.array .int) := ⟨_, _, _, tyX0, rfl, ginX0, tyX0_ok, nmX0, by decide, rfl, rfl, by decide +kernel, xg kX0_9 rfl⟩
theorem vX0_13 : xV RX0 13 mX0_expandKeys 0 := ⟨xg uX0_expandKeys rfl, xg kX0_13 rfl, xg nX0_expandKeys rfl, xg seX0_expandKeys rfl, xg inX0_i rfl, ⟨by decide +kernel, by decide +kernel, by decide +kernel⟩⟩
theorem vX0_16 : xVS RX0 16 mX0_lastColumn 4 := ⟨xg uX0_lastColumn rfl, xg kX0_16 rfl, xg stX0_lastColumn rfl, xg inX0_i rfl, ⟨by decide +kernel, by decide +kernel, by decide +kernel⟩⟩
theorem vX0_20 : xV RX0 20 mX5_high 1 := ⟨xg uX5_high rfl, xg kX0_20 rfl, xg nX5_high rfl, xg seX5_high rfl, xg inX5_i rfl, ⟨by decide +kernel, by decide +kernel, by decide +kernel⟩⟩
theorem vX0_26 : xV RX0 26 mX5_low 1 := ⟨xg uX5_low rfl, xg kX0_26 rfl, xg nX5_low rfl, xg seX5_low rfl, xg inX5_i rfl, ⟨by decide +kernel, by decide +kernel, by decide +kernel⟩⟩
theorem vX0_29 : xV RX0 29 mX0_encrypt 2 := ⟨xg uX0_encrypt rfl, xg kX0_29 rfl, xg nX0_encrypt rfl, xg seX0_encrypt rfl, xg inX0_i rfl, ⟨by decide +kernel, by decide +kernel, by decide +kernel⟩⟩
theorem fX0_33 : xF RX0 33 0 1 := ⟨_, _, _, rfl, ginX0, by decide, Or.inl (xg kX0_33 rfl)⟩
theorem pX0_33 : xP RX0 33 0 1 .long := ⟨_, _, _, tyX0, rfl, ginX0, tyX0_ok, nmX0, by decide, rfl, by decide +kernel, Or.inl (xg kX0_33 rfl)⟩
theorem fX0_36 : xF RX0 36 0 2 := ⟨_, _, _, rfl, ginX0, by decide, Or.inl (xg kX0_36 rfl)⟩
theorem pX0_36 : xP RX0 36 0 2 .long := ⟨_, _, _, tyX0, rfl, ginX0, tyX0_ok, nmX0, by decide, rfl, by decide +kernel, Or.inl (xg kX0_36 rfl)⟩
theorem vX0_38 : xV RX0 38 mX5_put 3 := ⟨xg uX5_put rfl, xg kX0_38 rfl, xg nX5_put rfl, xg seX5_put rfl, xg inX5_i rfl, ⟨by decide +kernel, by decide +kernel, by decide +kernel⟩⟩
theorem vX0_42 : xV RX0 42 mX5_copy 3 := ⟨xg uX5_copy rfl, xg kX0_42 rfl, xg nX5_copy rfl, xg seX5_copy rfl, xg inX5_i rfl, ⟨by decide +kernel, by decide +kernel, by decide +kernel⟩⟩
theorem vX0_46 : xV RX0 46 mX5_makeDouble 1 := ⟨xg uX5_makeDouble rfl, xg kX0_46 rfl, xg nX5_makeDouble rfl, xg seX5_makeDouble rfl, xg inX5_i rfl, ⟨by decide +kernel, by decide +kernel, by decide +kernel⟩⟩
theorem vX0_50 : xV RX0 50 mX0_hashMade 3 := ⟨xg uX0_hashMade rfl, xg kX0_50 rfl, xg nX0_hashMade rfl, xg seX0_hashMade rfl, xg inX0_i rfl, ⟨by decide +kernel, by decide +kernel, by decide +kernel⟩⟩
theorem vX0_54 : xV RX0 54 mX5_mix 3 := ⟨xg uX5_mix rfl, xg kX0_54 rfl, xg nX5_mix rfl, xg seX5_mix rfl, xg inX5_i rfl, ⟨by decide +kernel, by decide +kernel, by decide +kernel⟩⟩
theorem vX0_57 : xV RX0 57 mX5_mixNumber 2 := ⟨xg uX5_mixNumber rfl, xg kX0_57 rfl, xg nX5_mixNumber rfl, xg seX5_mixNumber rfl, xg inX5_i rfl, ⟨by decide +kernel, by decide +kernel, by decide +kernel⟩⟩
theorem vX0_61 : xVS RX0 61 mX0_mixedColumn 4 := ⟨xg uX0_mixedColumn rfl, xg kX0_61 rfl, xg stX0_mixedColumn rfl, xg inX0_i rfl, ⟨by decide +kernel, by decide +kernel, by decide +kernel⟩⟩
theorem vX0_64 : xVS RX0 64 mX0_joined 2 := ⟨xg uX0_joined rfl, xg kX0_64 rfl, xg stX0_joined rfl, xg inX0_i rfl, ⟨by decide +kernel, by decide +kernel, by decide +kernel⟩⟩
theorem fX0_68 : xF RX0 68 0 3 := ⟨_, _, _, rfl, ginX0, by decide, Or.inl (xg kX0_68 rfl)⟩
theorem pX0_68 : xP RX0 68 0 3 .int := ⟨_, _, _, tyX0, rfl, ginX0, tyX0_ok, nmX0, by decide, rfl, by decide +kernel, Or.inl (xg kX0_68 rfl)⟩
theorem fX1_9 : xF RX1 9 1 0 := ⟨_, _, _, rfl, ginX1, by decide, Or.inl (xg kX1_9 rfl)⟩
theorem pX1_9 : xPF RX1 9 1 0 (.array .int) := ⟨_, _, _, tyX1, rfl, ginX1, tyX1_ok, nmX1, by decide, rfl, rfl, by decide +kernel, xg kX1_9 rfl⟩
theorem fX1_15 : xF RX1 15 1 1 := ⟨_, _, _, rfl, ginX1, by decide, Or.inl (xg kX1_15 rfl)⟩
theorem pX1_15 : xPF RX1 15 1 1 (.array .int) := ⟨_, _, _, tyX1, rfl, ginX1, tyX1_ok, nmX1, by decide, rfl, rfl, by decide +kernel, xg kX1_15 rfl⟩
theorem fX1_18 : xF RX1 18 1 2 := ⟨_, _, _, rfl, ginX1, by decide, Or.inl (xg kX1_18 rfl)⟩
theorem pX1_18 : xPF RX1 18 1 2 (.array .int) := ⟨_, _, _, tyX1, rfl, ginX1, tyX1_ok, nmX1, by decide, rfl, rfl, by decide +kernel, xg kX1_18 rfl⟩
theorem fX1_21 : xF RX1 21 1 3 := ⟨_, _, _, rfl, ginX1, by decide, Or.inl (xg kX1_21 rfl)⟩
theorem pX1_21 : xPF RX1 21 1 3 (.array .int) := ⟨_, _, _, tyX1, rfl, ginX1, tyX1_ok, nmX1, by decide, rfl, rfl, by decide +kernel, xg kX1_21 rfl⟩
theorem fX1_24 : xF RX1 24 1 4 := ⟨_, _, _, rfl, ginX1, by decide, Or.inl (xg kX1_24 rfl)⟩
theorem pX1_24 : xPF RX1 24 1 4 (.array .int) := ⟨_, _, _, tyX1, rfl, ginX1, tyX1_ok, nmX1, by decide, rfl, rfl, by decide +kernel, xg kX1_24 rfl⟩
theorem fX1_27 : xF RX1 27 1 5 := ⟨_, _, _, rfl, ginX1, by decide, Or.inl (xg kX1_27 rfl)⟩
theorem pX1_27 : xP RX1 27 1 5 .int := ⟨_, _, _, tyX1, rfl, ginX1, tyX1_ok, nmX1, by decide, rfl, by decide +kernel, Or.inl (xg kX1_27 rfl)⟩
theorem fX1_31 : xF RX1 31 1 6 := ⟨_, _, _, rfl, ginX1, by decide, Or.inl (xg kX1_31 rfl)⟩
theorem pX1_31 : xP RX1 31 1 6 .int := ⟨_, _, _, tyX1, rfl, ginX1, tyX1_ok, nmX1, by decide, rfl, by decide +kernel, Or.inl (xg kX1_31 rfl)⟩
theorem fX1_34 : xF RX1 34 1 7 := ⟨_, _, _, rfl, ginX1, by decide, Or.inl (xg kX1_34 rfl)⟩
theorem pX1_34 : xP RX1 34 1 7 .int := ⟨_, _, _, tyX1, rfl, ginX1, tyX1_ok, nmX1, by decide, rfl, by decide +kernel, Or.inl (xg kX1_34 rfl)⟩
theorem fX1_37 : xF RX1 37 1 8 := ⟨_, _, _, rfl, ginX1, by decide, Or.inl (xg kX1_37 rfl)⟩
theorem pX1_37 : xP RX1 37 1 8 .int := ⟨_, _, _, tyX1, rfl, ginX1, tyX1_ok, nmX1, by decide, rfl, by decide +kernel, Or.inl (xg kX1_37 rfl)⟩
theorem vX1_40 : xVS RX1 40 mX1_bitOf 2 := ⟨xg uX1_bitOf rfl, xg kX1_40 rfl, xg stX1_bitOf rfl, xg inX1_i rfl, ⟨by decide +kernel, by decide +kernel, by decide +kernel⟩⟩
theorem vX1_44 : xVS RX1 44 mX1_truthOf 3 := ⟨xg uX1_truthOf rfl, xg kX1_44 rfl, xg stX1_truthOf rfl, xg inX1_i rfl, ⟨by decide +kernel, by decide +kernel, by decide +kernel⟩⟩
theorem fX2_9 : xF RX2 9 2 0 := ⟨_, _, _, rfl, ginX2, by decide, Or.inl (xg kX2_9 rfl)⟩
theorem pX2_9 : xPF RX2 9 2 0 (.object "GarbledWires$Tape") := ⟨_, _, _, tyX2, rfl, ginX2, tyX2_ok, nmX2, by decide, rfl, rfl, by decide +kernel, xg kX2_9 rfl⟩
theorem fX2_15 : xF RX2 15 2 1 := ⟨_, _, _, rfl, ginX2, by decide, Or.inl (xg kX2_15 rfl)⟩
theorem pX2_15 : xP RX2 15 2 1 .int := ⟨_, _, _, tyX2, rfl, ginX2, tyX2_ok, nmX2, by decide, rfl, by decide +kernel, Or.inl (xg kX2_15 rfl)⟩
theorem fX2_19 : xF RX2 19 2 2 := ⟨_, _, _, rfl, ginX2, by decide, Or.inl (xg kX2_19 rfl)⟩
theorem pX2_19 : xP RX2 19 2 2 .int := ⟨_, _, _, tyX2, rfl, ginX2, tyX2_ok, nmX2, by decide, rfl, by decide +kernel, Or.inl (xg kX2_19 rfl)⟩
theorem fX2_22 : xF RX2 22 2 3 := ⟨_, _, _, rfl, ginX2, by decide, Or.inl (xg kX2_22 rfl)⟩
theorem pX2_22 : xP RX2 22 2 3 .int := ⟨_, _, _, tyX2, rfl, ginX2, tyX2_ok, nmX2, by decide, rfl, by decide +kernel, Or.inl (xg kX2_22 rfl)⟩
theorem vX2_25 : xV RX2 25 mX2_readNumber 2 := ⟨xg uX2_readNumber rfl, xg kX2_25 rfl, xg nX2_readNumber rfl, xg seX2_readNumber rfl, xg inX2_i rfl, ⟨by decide +kernel, by decide +kernel, by decide +kernel⟩⟩
theorem vX2_29 : xV RX2 29 mX1_startWith 1 := ⟨xg uX1_startWith rfl, xg kX2_29 rfl, xg nX1_startWith rfl, xg seX1_startWith rfl, xg inX1_i rfl, ⟨by decide +kernel, by decide +kernel, by decide +kernel⟩⟩
theorem vX2_35 : xV RX2 35 mX2_readMark 1 := ⟨xg uX2_readMark rfl, xg kX2_35 rfl, xg nX2_readMark rfl, xg seX2_readMark rfl, xg inX2_i rfl, ⟨by decide +kernel, by decide +kernel, by decide +kernel⟩⟩
theorem vX2_38 : xV RX2 38 mX2_readGates 1 := ⟨xg uX2_readGates rfl, xg kX2_38 rfl, xg nX2_readGates rfl, xg seX2_readGates rfl, xg inX2_i rfl, ⟨by decide +kernel, by decide +kernel, by decide +kernel⟩⟩
theorem vX2_42 : xV RX2 42 mX2_readOutputs 1 := ⟨xg uX2_readOutputs rfl, xg kX2_42 rfl, xg nX2_readOutputs rfl, xg seX2_readOutputs rfl, xg inX2_i rfl, ⟨by decide +kernel, by decide +kernel, by decide +kernel⟩⟩
theorem vX2_45 : xV RX2 45 mX2_isFine 0 := ⟨xg uX2_isFine rfl, xg kX2_45 rfl, xg nX2_isFine rfl, xg seX2_isFine rfl, xg inX2_i rfl, ⟨by decide +kernel, by decide +kernel, by decide +kernel⟩⟩
theorem vX2_49 : xV RX2 49 mX2_skipBlanks 0 := ⟨xg uX2_skipBlanks rfl, xg kX2_49 rfl, xg nX2_skipBlanks rfl, xg seX2_skipBlanks rfl, xg inX2_i rfl, ⟨by decide +kernel, by decide +kernel, by decide +kernel⟩⟩
theorem vX2_52 : xV RX2 52 mX2_look 0 := ⟨xg uX2_look rfl, xg kX2_52 rfl, xg nX2_look rfl, xg seX2_look rfl, xg inX2_i rfl, ⟨by decide +kernel, by decide +kernel, by decide +kernel⟩⟩
theorem vX2_56 : xVS RX2 56 mX1_isSign 1 := ⟨xg uX1_isSign rfl, xg kX2_56 rfl, xg stX1_isSign rfl, xg inX1_i rfl, ⟨by decide +kernel, by decide +kernel, by decide +kernel⟩⟩
theorem vX2_60 : xV RX2 60 mX2_fail 1 := ⟨xg uX2_fail rfl, xg kX2_60 rfl, xg nX2_fail rfl, xg seX2_fail rfl, xg inX2_i rfl, ⟨by decide +kernel, by decide +kernel, by decide +kernel⟩⟩
theorem vX2_63 : xV RX2 63 mX2_readGate 2 := ⟨xg uX2_readGate rfl, xg kX2_63 rfl, xg nX2_readGate rfl, xg seX2_readGate rfl, xg inX2_i rfl, ⟨by decide +kernel, by decide +kernel, by decide +kernel⟩⟩
theorem vX2_67 : xV RX2 67 mX1_wireCount 0 := ⟨xg uX1_wireCount rfl, xg kX2_67 rfl, xg nX1_wireCount rfl, xg seX1_wireCount rfl, xg inX1_i rfl, ⟨by decide +kernel, by decide +kernel, by decide +kernel⟩⟩
theorem vX2_70 : xV RX2 70 mX1_addGate 3 := ⟨xg uX1_addGate rfl, xg kX2_70 rfl, xg nX1_addGate rfl, xg seX1_addGate rfl, xg inX1_i rfl, ⟨by decide +kernel, by decide +kernel, by decide +kernel⟩⟩
theorem vX2_74 : xV RX2 74 mX1_addOutput 1 := ⟨xg uX1_addOutput rfl, xg kX2_74 rfl, xg nX1_addOutput rfl, xg seX1_addOutput rfl, xg inX1_i rfl, ⟨by decide +kernel, by decide +kernel, by decide +kernel⟩⟩
theorem vX2_77 : xVS RX2 77 mX2_isDigit 1 := ⟨xg uX2_isDigit rfl, xg kX2_77 rfl, xg stX2_isDigit rfl, xg inX2_i rfl, ⟨by decide +kernel, by decide +kernel, by decide +kernel⟩⟩
theorem vX2_80 : xV RX2 80 mX6_byteAt 1 := ⟨xg uX6_byteAt rfl, xg kX2_80 rfl, xg nX6_byteAt rfl, xg seX6_byteAt rfl, xg inX6_i rfl, ⟨by decide +kernel, by decide +kernel, by decide +kernel⟩⟩
theorem wX3_9 : xNw RX3 9 5 fsX5 1 := ⟨_, _, tyX5, rfl, ginX5, tyX5_ok, xg kX3_9 rfl, xg inX5_n rfl, xg inX5_i rfl, by decide +kernel⟩
theorem vX3_11 : xVI RX3 11 mX5_init 1 := ⟨xg uX5_init rfl, Or.inl (xg kX3_11 rfl), xg nX5_init rfl, xg inX5_i rfl, rfl, rfl, ⟨by decide +kernel, by decide +kernel, by decide +kernel⟩⟩
theorem fX3_14 : xF RX3 14 3 4 := ⟨_, _, _, rfl, ginX3, by decide, Or.inl (xg kX3_14 rfl)⟩
theorem pX3_14 : xPF RX3 14 3 4 (.object "GarbledWires$Labels") := ⟨_, _, _, tyX3, rfl, ginX3, tyX3_ok, nmX3, by decide, rfl, rfl, by decide +kernel, xg kX3_14 rfl⟩
theorem pX3_20 : xPF RX3 20 3 5 (.object "GarbledWires$Labels") := ⟨_, _, _, tyX3, rfl, ginX3, tyX3_ok, nmX3, by decide, rfl, rfl, by decide +kernel, xg kX3_20 rfl⟩
theorem pX3_23 : xPF RX3 23 3 6 (.object "GarbledWires$Labels") := ⟨_, _, _, tyX3, rfl, ginX3, tyX3_ok, nmX3, by decide, rfl, rfl, by decide +kernel, xg kX3_23 rfl⟩
theorem fX3_26 : xF RX3 26 3 0 := ⟨_, _, _, rfl, ginX3, by decide, Or.inl (xg kX3_26 rfl)⟩
theorem pX3_26 : xPF RX3 26 3 0 (.object "GarbledWires$Circuit") := ⟨_, _, _, tyX3, rfl, ginX3, tyX3_ok, nmX3, by decide, rfl, rfl, by decide +kernel, xg kX3_26 rfl⟩
theorem pX3_30 : xPF RX3 30 3 1 .int := ⟨_, _, _, tyX3, rfl, ginX3, tyX3_ok, nmX3, by decide, rfl, rfl, by decide +kernel, xg kX3_30 rfl⟩
theorem fX3_34 : xF RX3 34 3 2 := ⟨_, _, _, rfl, ginX3, by decide, Or.inl (xg kX3_34 rfl)⟩
theorem pX3_34 : xPF RX3 34 3 2 .int := ⟨_, _, _, tyX3, rfl, ginX3, tyX3_ok, nmX3, by decide, rfl, rfl, by decide +kernel, xg kX3_34 rfl⟩
theorem pX3_37 : xPF RX3 37 3 3 .int := ⟨_, _, _, tyX3, rfl, ginX3, tyX3_ok, nmX3, by decide, rfl, rfl, by decide +kernel, xg kX3_37 rfl⟩
theorem vX3_40 : xV RX3 40 mX5_putFromTape 3 := ⟨xg uX5_putFromTape rfl, xg kX3_40 rfl, xg nX5_putFromTape rfl, xg seX5_putFromTape rfl, xg inX5_i rfl, ⟨by decide +kernel, by decide +kernel, by decide +kernel⟩⟩
theorem vX3_44 : xV RX3 44 mX5_high 1 := ⟨xg uX5_high rfl, xg kX3_44 rfl, xg nX5_high rfl, xg seX5_high rfl, xg inX5_i rfl, ⟨by decide +kernel, by decide +kernel, by decide +kernel⟩⟩
theorem vX3_48 : xV RX3 48 mX5_low 1 := ⟨xg uX5_low rfl, xg kX3_48 rfl, xg nX5_low rfl, xg seX5_low rfl, xg inX5_i rfl, ⟨by decide +kernel, by decide +kernel, by decide +kernel⟩⟩
theorem vX3_51 : xV RX3 51 mX5_put 3 := ⟨xg uX5_put rfl, xg kX3_51 rfl, xg nX5_put rfl, xg seX5_put rfl, xg inX5_i rfl, ⟨by decide +kernel, by decide +kernel, by decide +kernel⟩⟩
theorem fX3_55 : xF RX3 55 1 5 := ⟨_, _, _, rfl, ginX1, by decide, Or.inr ⟨_, xgn kX3_55 rfl⟩⟩
theorem fX3_60 : xF RX3 60 1 6 := ⟨_, _, _, rfl, ginX1, by decide, Or.inr ⟨_, xgn kX3_60 rfl⟩⟩
theorem fX3_63 : xF RX3 63 1 3 := ⟨_, _, _, rfl, ginX1, by decide, Or.inr ⟨_, xgn kX3_63 rfl⟩⟩
theorem vX3_67 : xV RX3 67 mX1_wireCount 0 := ⟨xg uX1_wireCount rfl, xg kX3_67 rfl, xg nX1_wireCount rfl, xg seX1_wireCount rfl, xg inX1_i rfl, ⟨by decide +kernel, by decide +kernel, by decide +kernel⟩⟩
theorem fX3_71 : xF RX3 71 1 7 := ⟨_, _, _, rfl, ginX1, by decide, Or.inr ⟨_, xgn kX3_71 rfl⟩⟩
theorem vX3_74 : xV RX3 74 mX5_copy 3 := ⟨xg uX5_copy rfl, xg kX3_74 rfl, xg nX5_copy rfl, xg seX5_copy rfl, xg inX5_i rfl, ⟨by decide +kernel, by decide +kernel, by decide +kernel⟩⟩
theorem vX3_78 : xV RX3 78 mX5_mixIf 4 := ⟨xg uX5_mixIf rfl, xg kX3_78 rfl, xg nX5_mixIf rfl, xg seX5_mixIf rfl, xg inX5_i rfl, ⟨by decide +kernel, by decide +kernel, by decide +kernel⟩⟩
theorem vX3_82 : xV RX3 82 mX3_putLabelFor 4 := ⟨xg uX3_putLabelFor rfl, xg kX3_82 rfl, xg nX3_putLabelFor rfl, xg seX3_putLabelFor rfl, xg inX3_i rfl, ⟨by decide +kernel, by decide +kernel, by decide +kernel⟩⟩
theorem fX3_85 : xF RX3 85 3 7 := ⟨_, _, _, rfl, ginX3, by decide, Or.inl (xg kX3_85 rfl)⟩
theorem pX3_85 : xP RX3 85 3 7 .int := ⟨_, _, _, tyX3, rfl, ginX3, tyX3_ok, nmX3, by decide, rfl, by decide +kernel, Or.inl (xg kX3_85 rfl)⟩
theorem fX3_88 : xF RX3 88 3 8 := ⟨_, _, _, rfl, ginX3, by decide, Or.inl (xg kX3_88 rfl)⟩
theorem pX3_88 : xP RX3 88 3 8 .boolean := ⟨_, _, _, tyX3, rfl, ginX3, tyX3_ok, nmX3, by decide, rfl, by decide +kernel, Or.inl (xg kX3_88 rfl)⟩
theorem vX3_92 : xV RX3 92 mX3_isInput 1 := ⟨xg uX3_isInput rfl, xg kX3_92 rfl, xg nX3_isInput rfl, xg seX3_isInput rfl, xg inX3_i rfl, ⟨by decide +kernel, by decide +kernel, by decide +kernel⟩⟩
theorem fX3_96 : xF RX3 96 1 8 := ⟨_, _, _, rfl, ginX1, by decide, Or.inr ⟨_, xgn kX3_96 rfl⟩⟩
theorem fX3_99 : xF RX3 99 1 4 := ⟨_, _, _, rfl, ginX1, by decide, Or.inr ⟨_, xgn kX3_99 rfl⟩⟩
theorem vX3_102 : xV RX3 102 mX3_hasLabel 1 := ⟨xg uX3_hasLabel rfl, xg kX3_102 rfl, xg nX3_hasLabel rfl, xg seX3_hasLabel rfl, xg inX3_i rfl, ⟨by decide +kernel, by decide +kernel, by decide +kernel⟩⟩
theorem vX3_105 : xV RX3 105 mX3_openWire 2 := ⟨xg uX3_openWire rfl, xg kX3_105 rfl, xg nX3_openWire rfl, xg seX3_openWire rfl, xg inX3_i rfl, ⟨by decide +kernel, by decide +kernel, by decide +kernel⟩⟩
theorem wX4_9 : xNw RX4 9 5 fsX5 1 := ⟨_, _, tyX5, rfl, ginX5, tyX5_ok, xg kX4_9 rfl, xg inX5_n rfl, xg inX5_i rfl, by decide +kernel⟩
theorem vX4_13 : xVI RX4 13 mX5_init 1 := ⟨xg uX5_init rfl, Or.inl (xg kX4_13 rfl), xg nX5_init rfl, xg inX5_i rfl, rfl, rfl, ⟨by decide +kernel, by decide +kernel, by decide +kernel⟩⟩
theorem fX4_16 : xF RX4 16 4 1 := ⟨_, _, _, rfl, ginX4, by decide, Or.inl (xg kX4_16 rfl)⟩
theorem pX4_16 : xPF RX4 16 4 1 (.object "GarbledWires$Labels") := ⟨_, _, _, tyX4, rfl, ginX4, tyX4_ok, nmX4, by decide, rfl, rfl, by decide +kernel, xg kX4_16 rfl⟩
theorem fX4_20 : xF RX4 20 4 0 := ⟨_, _, _, rfl, ginX4, by decide, Or.inl (xg kX4_20 rfl)⟩
theorem pX4_20 : xPF RX4 20 4 0 (.object "GarbledWires$Cipher") := ⟨_, _, _, tyX4, rfl, ginX4, tyX4_ok, nmX4, by decide, rfl, rfl, by decide +kernel, xg kX4_20 rfl⟩
theorem fX4_24 : xF RX4 24 3 0 := ⟨_, _, _, rfl, ginX3, by decide, Or.inr ⟨_, xgn kX4_24 rfl⟩⟩
theorem fX4_30 : xF RX4 30 1 6 := ⟨_, _, _, rfl, ginX1, by decide, Or.inr ⟨_, xgn kX4_30 rfl⟩⟩
theorem fX4_36 : xF RX4 36 1 5 := ⟨_, _, _, rfl, ginX1, by decide, Or.inr ⟨_, xgn kX4_36 rfl⟩⟩
theorem fX4_39 : xF RX4 39 1 0 := ⟨_, _, _, rfl, ginX1, by decide, Or.inr ⟨_, xgn kX4_39 rfl⟩⟩
theorem fX4_43 : xF RX4 43 1 1 := ⟨_, _, _, rfl, ginX1, by decide, Or.inr ⟨_, xgn kX4_43 rfl⟩⟩
theorem fX4_46 : xF RX4 46 3 4 := ⟨_, _, _, rfl, ginX3, by decide, Or.inr ⟨_, xgn kX4_46 rfl⟩⟩
theorem vX4_49 : xV RX4 49 mX3_putLabelFor 4 := ⟨xg uX3_putLabelFor rfl, xg kX4_49 rfl, xg nX3_putLabelFor rfl, xg seX3_putLabelFor rfl, xg inX3_i rfl, ⟨by decide +kernel, by decide +kernel, by decide +kernel⟩⟩
theorem vX4_53 : xV RX4 53 mX5_copy 3 := ⟨xg uX5_copy rfl, xg kX4_53 rfl, xg nX5_copy rfl, xg seX5_copy rfl, xg inX5_i rfl, ⟨by decide +kernel, by decide +kernel, by decide +kernel⟩⟩
theorem fX4_57 : xF RX4 57 1 2 := ⟨_, _, _, rfl, ginX1, by decide, Or.inr ⟨_, xgn kX4_57 rfl⟩⟩
theorem vX4_60 : xV RX4 60 mX5_mix 3 := ⟨xg uX5_mix rfl, xg kX4_60 rfl, xg nX5_mix rfl, xg seX5_mix rfl, xg inX5_i rfl, ⟨by decide +kernel, by decide +kernel, by decide +kernel⟩⟩
theorem fX4_63 : xF RX4 63 3 2 := ⟨_, _, _, rfl, ginX3, by decide, Or.inr ⟨_, xgn kX4_63 rfl⟩⟩
theorem vX4_66 : xV RX4 66 mX4_makeHalves 2 := ⟨xg uX4_makeHalves rfl, xg kX4_66 rfl, xg nX4_makeHalves rfl, xg seX4_makeHalves rfl, xg inX4_i rfl, ⟨by decide +kernel, by decide +kernel, by decide +kernel⟩⟩
theorem vX4_70 : xV RX4 70 mX4_makeRows 2 := ⟨xg uX4_makeRows rfl, xg kX4_70 rfl, xg nX4_makeRows rfl, xg seX4_makeRows rfl, xg inX4_i rfl, ⟨by decide +kernel, by decide +kernel, by decide +kernel⟩⟩
theorem vX4_73 : xV RX4 73 mX4_followHalves 3 := ⟨xg uX4_followHalves rfl, xg kX4_73 rfl, xg nX4_followHalves rfl, xg seX4_followHalves rfl, xg inX4_i rfl, ⟨by decide +kernel, by decide +kernel, by decide +kernel⟩⟩
theorem vX4_77 : xV RX4 77 mX4_followRows 3 := ⟨xg uX4_followRows rfl, xg kX4_77 rfl, xg nX4_followRows rfl, xg seX4_followRows rfl, xg inX4_i rfl, ⟨by decide +kernel, by decide +kernel, by decide +kernel⟩⟩
theorem fX4_80 : xF RX4 80 1 3 := ⟨_, _, _, rfl, ginX1, by decide, Or.inr ⟨_, xgn kX4_80 rfl⟩⟩
theorem vX4_83 : xV RX4 83 mX5_colour 1 := ⟨xg uX5_colour rfl, xg kX4_83 rfl, xg nX5_colour rfl, xg seX5_colour rfl, xg inX5_i rfl, ⟨by decide +kernel, by decide +kernel, by decide +kernel⟩⟩
theorem vX4_87 : xVS RX4 87 mX1_truthOf 3 := ⟨xg uX1_truthOf rfl, xg kX4_87 rfl, xg stX1_truthOf rfl, xg inX1_i rfl, ⟨by decide +kernel, by decide +kernel, by decide +kernel⟩⟩
theorem vX4_91 : xV RX4 91 mX0_hashTwo 5 := ⟨xg uX0_hashTwo rfl, xg kX4_91 rfl, xg nX0_hashTwo rfl, xg seX0_hashTwo rfl, xg inX0_i rfl, ⟨by decide +kernel, by decide +kernel, by decide +kernel⟩⟩
theorem vX4_97 : xV RX4 97 mX5_mixIf 4 := ⟨xg uX5_mixIf rfl, xg kX4_97 rfl, xg nX5_mixIf rfl, xg seX5_mixIf rfl, xg inX5_i rfl, ⟨by decide +kernel, by decide +kernel, by decide +kernel⟩⟩
theorem vX4_100 : xVS RX4 100 mX3_rowPlace 2 := ⟨xg uX3_rowPlace rfl, xg kX4_100 rfl, xg stX3_rowPlace rfl, xg inX3_i rfl, ⟨by decide +kernel, by decide +kernel, by decide +kernel⟩⟩
theorem fX4_104 : xF RX4 104 3 5 := ⟨_, _, _, rfl, ginX3, by decide, Or.inr ⟨_, xgn kX4_104 rfl⟩⟩
theorem vX4_107 : xVS RX4 107 mX1_turnsLeft 1 := ⟨xg uX1_turnsLeft rfl, xg kX4_107 rfl, xg stX1_turnsLeft rfl, xg inX1_i rfl, ⟨by decide +kernel, by decide +kernel, by decide +kernel⟩⟩
theorem vX4_110 : xVS RX4 110 mX1_turnsRight 1 := ⟨xg uX1_turnsRight rfl, xg kX4_110 rfl, xg stX1_turnsRight rfl, xg inX1_i rfl, ⟨by decide +kernel, by decide +kernel, by decide +kernel⟩⟩
theorem vX4_113 : xV RX4 113 mX0_hashOne 4 := ⟨xg uX0_hashOne rfl, xg kX4_113 rfl, xg nX0_hashOne rfl, xg seX0_hashOne rfl, xg inX0_i rfl, ⟨by decide +kernel, by decide +kernel, by decide +kernel⟩⟩
theorem vX4_117 : xV RX4 117 mX4_joinHalves 4 := ⟨xg uX4_joinHalves rfl, xg kX4_117 rfl, xg nX4_joinHalves rfl, xg seX4_joinHalves rfl, xg inX4_i rfl, ⟨by decide +kernel, by decide +kernel, by decide +kernel⟩⟩
theorem vX4_121 : xVS RX4 121 mX1_turnsWhatComes 1 := ⟨xg uX1_turnsWhatComes rfl, xg kX4_121 rfl, xg stX1_turnsWhatComes rfl, xg inX1_i rfl, ⟨by decide +kernel, by decide +kernel, by decide +kernel⟩⟩
theorem fX5_7 : xF RX5 7 5 0 := ⟨_, _, _, rfl, ginX5, by decide, Or.inl (xg kX5_7 rfl)⟩
theorem pX5_7 : xPF RX5 7 5 0 (.array .long) := ⟨_, _, _, tyX5, rfl, ginX5, tyX5_ok, nmX5, by decide, rfl, rfl, by decide +kernel, xg kX5_7 rfl⟩
theorem vX5_13 : xV RX5 13 mX6_eightBytes 1 := ⟨xg uX6_eightBytes rfl, xg kX5_13 rfl, xg nX6_eightBytes rfl, xg seX6_eightBytes rfl, xg inX6_i rfl, ⟨by decide +kernel, by decide +kernel, by decide +kernel⟩⟩
theorem vX5_19 : xV RX5 19 mX5_put 3 := ⟨xg uX5_put rfl, xg kX5_19 rfl, xg nX5_put rfl, xg seX5_put rfl, xg inX5_i rfl, ⟨by decide +kernel, by decide +kernel, by decide +kernel⟩⟩
theorem vX5_23 : xV RX5 23 mX5_high 1 := ⟨xg uX5_high rfl, xg kX5_23 rfl, xg nX5_high rfl, xg seX5_high rfl, xg inX5_i rfl, ⟨by decide +kernel, by decide +kernel, by decide +kernel⟩⟩
theorem vX5_26 : xV RX5 26 mX5_low 1 := ⟨xg uX5_low rfl, xg kX5_26 rfl, xg nX5_low rfl, xg seX5_low rfl, xg inX5_i rfl, ⟨by decide +kernel, by decide +kernel, by decide +kernel⟩⟩
theorem vX5_29 : xV RX5 29 mX5_mix 3 := ⟨xg uX5_mix rfl, xg kX5_29 rfl, xg nX5_mix rfl, xg seX5_mix rfl, xg inX5_i rfl, ⟨by decide +kernel, by decide +kernel, by decide +kernel⟩⟩
theorem vX5_37 : xV RX5 37 mX5_bitsOf 3 := ⟨xg uX5_bitsOf rfl, xg kX5_37 rfl, xg nX5_bitsOf rfl, xg seX5_bitsOf rfl, xg inX5_i rfl, ⟨by decide +kernel, by decide +kernel, by decide +kernel⟩⟩
theorem fX6_9 : xF RX6 9 6 0 := ⟨_, _, _, rfl, ginX6, by decide, Or.inl (xg kX6_9 rfl)⟩
theorem pX6_9 : xPF RX6 9 6 0 (.array .byte) := ⟨_, _, _, tyX6, rfl, ginX6, tyX6_ok, nmX6, by decide, rfl, rfl, by decide +kernel, xg kX6_9 rfl⟩
theorem fX6_15 : xF RX6 15 6 1 := ⟨_, _, _, rfl, ginX6, by decide, Or.inl (xg kX6_15 rfl)⟩
theorem pX6_15 : xP RX6 15 6 1 .int := ⟨_, _, _, tyX6, rfl, ginX6, tyX6_ok, nmX6, by decide, rfl, by decide +kernel, Or.inl (xg kX6_15 rfl)⟩
theorem vX6_19 : xV RX6 19 mX6_byteAt 1 := ⟨xg uX6_byteAt rfl, xg kX6_19 rfl, xg nX6_byteAt rfl, xg seX6_byteAt rfl, xg inX6_i rfl, ⟨by decide +kernel, by decide +kernel, by decide +kernel⟩⟩
theorem wX7_7 : xNw RX7 7 6 fsX6 2 := ⟨_, _, tyX6, rfl, ginX6, tyX6_ok, xg kX7_7 rfl, xg inX6_n rfl, xg inX6_i rfl, by decide +kernel⟩
theorem vX7_9 : xVI RX7 9 mX6_init 0 := ⟨xg uX6_init rfl, Or.inr ⟨_, xgn kX7_9 rfl⟩, xg nX6_init rfl, xg inX6_i rfl, rfl, rfl, ⟨by decide +kernel, by decide +kernel, by decide +kernel⟩⟩
theorem fX7_10 : xF RX7 10 7 0 := ⟨_, _, _, rfl, ginX7, by decide, Or.inl (xg kX7_10 rfl)⟩
theorem pX7_10 : xPF RX7 10 7 0 (.object "GarbledWires$Tape") := ⟨_, _, _, tyX7, rfl, ginX7, tyX7_ok, nmX7, by decide, rfl, rfl, by decide +kernel, xg kX7_10 rfl⟩
theorem wX7_16 : xNw RX7 16 2 fsX2 4 := ⟨_, _, tyX2, rfl, ginX2, tyX2_ok, xg kX7_16 rfl, xg inX2_n rfl, xg inX2_i rfl, by decide +kernel⟩
theorem vX7_18 : xVI RX7 18 mX2_init 1 := ⟨xg uX2_init rfl, Or.inl (xg kX7_18 rfl), xg nX2_init rfl, xg inX2_i rfl, rfl, rfl, ⟨by decide +kernel, by decide +kernel, by decide +kernel⟩⟩
theorem fX7_21 : xF RX7 21 7 1 := ⟨_, _, _, rfl, ginX7, by decide, Or.inl (xg kX7_21 rfl)⟩
theorem pX7_21 : xPF RX7 21 7 1 (.object "GarbledWires$CircuitReader") := ⟨_, _, _, tyX7, rfl, ginX7, tyX7_ok, nmX7, by decide, rfl, rfl, by decide +kernel, xg kX7_21 rfl⟩
theorem wX7_25 : xNw RX7 25 0 fsX0 4 := ⟨_, _, tyX0, rfl, ginX0, tyX0_ok, xg kX7_25 rfl, xg inX0_n rfl, xg inX0_i rfl, by decide +kernel⟩
theorem vX7_27 : xVI RX7 27 mX0_init 0 := ⟨xg uX0_init rfl, Or.inl (xg kX7_27 rfl), xg nX0_init rfl, xg inX0_i rfl, rfl, rfl, ⟨by decide +kernel, by decide +kernel, by decide +kernel⟩⟩
theorem fX7_28 : xF RX7 28 7 2 := ⟨_, _, _, rfl, ginX7, by decide, Or.inl (xg kX7_28 rfl)⟩
theorem pX7_28 : xPF RX7 28 7 2 (.object "GarbledWires$Cipher") := ⟨_, _, _, tyX7, rfl, ginX7, tyX7_ok, nmX7, by decide, rfl, rfl, by decide +kernel, xg kX7_28 rfl⟩
theorem wX7_32 : xNw RX7 32 4 fsX4 2 := ⟨_, _, tyX4, rfl, ginX4, tyX4_ok, xg kX7_32 rfl, xg inX4_n rfl, xg inX4_i rfl, by decide +kernel⟩
theorem vX7_34 : xVI RX7 34 mX4_init 1 := ⟨xg uX4_init rfl, Or.inl (xg kX7_34 rfl), xg nX4_init rfl, xg inX4_i rfl, rfl, rfl, ⟨by decide +kernel, by decide +kernel, by decide +kernel⟩⟩
theorem fX7_37 : xF RX7 37 7 3 := ⟨_, _, _, rfl, ginX7, by decide, Or.inl (xg kX7_37 rfl)⟩
theorem pX7_37 : xPF RX7 37 7 3 (.object "GarbledWires$Garbler") := ⟨_, _, _, tyX7, rfl, ginX7, tyX7_ok, nmX7, by decide, rfl, rfl, by decide +kernel, xg kX7_37 rfl⟩
theorem wX7_41 : xNw RX7 41 5 fsX5 1 := ⟨_, _, tyX5, rfl, ginX5, tyX5_ok, xg kX7_41 rfl, xg inX5_n rfl, xg inX5_i rfl, by decide +kernel⟩
theorem vX7_43 : xVI RX7 43 mX5_init 1 := ⟨xg uX5_init rfl, Or.inl (xg kX7_43 rfl), xg nX5_init rfl, xg inX5_i rfl, rfl, rfl, ⟨by decide +kernel, by decide +kernel, by decide +kernel⟩⟩
theorem fX7_46 : xF RX7 46 7 4 := ⟨_, _, _, rfl, ginX7, by decide, Or.inl (xg kX7_46 rfl)⟩
theorem pX7_46 : xPF RX7 46 7 4 (.object "GarbledWires$Labels") := ⟨_, _, _, tyX7, rfl, ginX7, tyX7_ok, nmX7, by decide, rfl, rfl, by decide +kernel, xg kX7_46 rfl⟩
theorem fX7_50 : xF RX7 50 7 5 := ⟨_, _, _, rfl, ginX7, by decide, Or.inl (xg kX7_50 rfl)⟩
theorem pX7_50 : xPF RX7 50 7 5 (.object "GarbledWires$Labels") := ⟨_, _, _, tyX7, rfl, ginX7, tyX7_ok, nmX7, by decide, rfl, rfl, by decide +kernel, xg kX7_50 rfl⟩
theorem wX7_53 : xNw RX7 53 1 fsX1 9 := ⟨_, _, tyX1, rfl, ginX1, tyX1_ok, xg kX7_53 rfl, xg inX1_n rfl, xg inX1_i rfl, by decide +kernel⟩
theorem fX7_55 : xF RX7 55 7 6 := ⟨_, _, _, rfl, ginX7, by decide, Or.inl (xg kX7_55 rfl)⟩
theorem pX7_55 : xPF RX7 55 7 6 (.array (.object "GarbledWires$Circuit")) := ⟨_, _, _, tyX7, rfl, ginX7, tyX7_ok, nmX7, by decide, rfl, rfl, by decide +kernel, xg kX7_55 rfl⟩
theorem wX7_59 : xNw RX7 59 3 fsX3 11 := ⟨_, _, tyX3, rfl, ginX3, tyX3_ok, xg kX7_59 rfl, xg inX3_n rfl, xg inX3_i rfl, by decide +kernel⟩
theorem fX7_61 : xF RX7 61 7 7 := ⟨_, _, _, rfl, ginX7, by decide, Or.inl (xg kX7_61 rfl)⟩
theorem pX7_61 : xPF RX7 61 7 7 (.array (.object "GarbledWires$Garbled")) := ⟨_, _, _, tyX7, rfl, ginX7, tyX7_ok, nmX7, by decide, rfl, rfl, by decide +kernel, xg kX7_61 rfl⟩
theorem vX7_65 : xVI RX7 65 mX1_init 0 := ⟨xg uX1_init rfl, Or.inr ⟨_, xgn kX7_65 rfl⟩, xg nX1_init rfl, xg inX1_i rfl, rfl, rfl, ⟨by decide +kernel, by decide +kernel, by decide +kernel⟩⟩
theorem vX7_66 : xV RX7 66 mX6_append 2 := ⟨xg uX6_append rfl, xg kX7_66 rfl, xg nX6_append rfl, xg seX6_append rfl, xg inX6_i rfl, ⟨by decide +kernel, by decide +kernel, by decide +kernel⟩⟩
theorem fX7_70 : xF RX7 70 6 1 := ⟨_, _, _, rfl, ginX6, by decide, Or.inr ⟨_, xgn kX7_70 rfl⟩⟩
theorem vX7_74 : xV RX7 74 mX6_useUp 0 := ⟨xg uX6_useUp rfl, xg kX7_74 rfl, xg nX6_useUp rfl, xg seX6_useUp rfl, xg inX6_i rfl, ⟨by decide +kernel, by decide +kernel, by decide +kernel⟩⟩
theorem fX7_78 : xF RX7 78 7 9 := ⟨_, _, _, rfl, ginX7, by decide, Or.inl (xg kX7_78 rfl)⟩
theorem pX7_78 : xP RX7 78 7 9 .int := ⟨_, _, _, tyX7, rfl, ginX7, tyX7_ok, nmX7, by decide, rfl, by decide +kernel, Or.inl (xg kX7_78 rfl)⟩
theorem vX7_81 : xV RX7 81 mX6_eightBytes 1 := ⟨xg uX6_eightBytes rfl, xg kX7_81 rfl, xg nX6_eightBytes rfl, xg seX6_eightBytes rfl, xg inX6_i rfl, ⟨by decide +kernel, by decide +kernel, by decide +kernel⟩⟩
theorem vX7_85 : xV RX7 85 mX0_takeKey 2 := ⟨xg uX0_takeKey rfl, xg kX7_85 rfl, xg nX0_takeKey rfl, xg seX0_takeKey rfl, xg inX0_i rfl, ⟨by decide +kernel, by decide +kernel, by decide +kernel⟩⟩
theorem vX7_89 : xV RX7 89 mX5_putFromTape 3 := ⟨xg uX5_putFromTape rfl, xg kX7_89 rfl, xg nX5_putFromTape rfl, xg seX5_putFromTape rfl, xg inX5_i rfl, ⟨by decide +kernel, by decide +kernel, by decide +kernel⟩⟩
theorem vX7_93 : xV RX7 93 mX0_makeBlock 3 := ⟨xg uX0_makeBlock rfl, xg kX7_93 rfl, xg nX0_makeBlock rfl, xg seX0_makeBlock rfl, xg inX0_i rfl, ⟨by decide +kernel, by decide +kernel, by decide +kernel⟩⟩
theorem vX7_97 : xV RX7 97 mX5_copy 3 := ⟨xg uX5_copy rfl, xg kX7_97 rfl, xg nX5_copy rfl, xg seX5_copy rfl, xg inX5_i rfl, ⟨by decide +kernel, by decide +kernel, by decide +kernel⟩⟩
theorem vX7_101 : xV RX7 101 mX5_makeDouble 1 := ⟨xg uX5_makeDouble rfl, xg kX7_101 rfl, xg nX5_makeDouble rfl, xg seX5_makeDouble rfl, xg inX5_i rfl, ⟨by decide +kernel, by decide +kernel, by decide +kernel⟩⟩
theorem vX7_104 : xV RX7 104 mX0_hashOne 4 := ⟨xg uX0_hashOne rfl, xg kX7_104 rfl, xg nX0_hashOne rfl, xg seX0_hashOne rfl, xg inX0_i rfl, ⟨by decide +kernel, by decide +kernel, by decide +kernel⟩⟩
theorem vX7_108 : xV RX7 108 mX0_hashTwo 5 := ⟨xg uX0_hashTwo rfl, xg kX7_108 rfl, xg nX0_hashTwo rfl, xg seX0_hashTwo rfl, xg inX0_i rfl, ⟨by decide +kernel, by decide +kernel, by decide +kernel⟩⟩
theorem vX7_112 : xVS RX7 112 mX7_isByteOfLabel 1 := ⟨xg uX7_isByteOfLabel rfl, xg kX7_112 rfl, xg stX7_isByteOfLabel rfl, xg inX7_i rfl, ⟨by decide +kernel, by decide +kernel, by decide +kernel⟩⟩
theorem vX7_116 : xV RX7 116 mX5_byteOf 2 := ⟨xg uX5_byteOf rfl, xg kX7_116 rfl, xg nX5_byteOf rfl, xg seX5_byteOf rfl, xg inX5_i rfl, ⟨by decide +kernel, by decide +kernel, by decide +kernel⟩⟩
theorem fX7_120 : xF RX7 120 7 8 := ⟨_, _, _, rfl, ginX7, by decide, Or.inl (xg kX7_120 rfl)⟩
theorem pX7_120 : xP RX7 120 7 8 .int := ⟨_, _, _, tyX7, rfl, ginX7, tyX7_ok, nmX7, by decide, rfl, by decide +kernel, Or.inl (xg kX7_120 rfl)⟩
theorem vX7_123 : xV RX7 123 mX2_readInto 2 := ⟨xg uX2_readInto rfl, xg kX7_123 rfl, xg nX2_readInto rfl, xg seX2_readInto rfl, xg inX2_i rfl, ⟨by decide +kernel, by decide +kernel, by decide +kernel⟩⟩
theorem vX7_127 : xV RX7 127 mX7_circuitAt 1 := ⟨xg uX7_circuitAt rfl, xg kX7_127 rfl, xg nX7_circuitAt rfl, xg seX7_circuitAt rfl, xg inX7_i rfl, ⟨by decide +kernel, by decide +kernel, by decide +kernel⟩⟩
theorem fX7_131 : xF RX7 131 1 5 := ⟨_, _, _, rfl, ginX1, by decide, Or.inr ⟨_, xgn kX7_131 rfl⟩⟩
theorem fX7_134 : xF RX7 134 1 6 := ⟨_, _, _, rfl, ginX1, by decide, Or.inr ⟨_, xgn kX7_134 rfl⟩⟩
theorem fX7_137 : xF RX7 137 1 8 := ⟨_, _, _, rfl, ginX1, by decide, Or.inr ⟨_, xgn kX7_137 rfl⟩⟩
theorem fX7_140 : xF RX7 140 1 7 := ⟨_, _, _, rfl, ginX1, by decide, Or.inr ⟨_, xgn kX7_140 rfl⟩⟩
theorem vX7_143 : xV RX7 143 mX1_wireCount 0 := ⟨xg uX1_wireCount rfl, xg kX7_143 rfl, xg nX1_wireCount rfl, xg seX1_wireCount rfl, xg inX1_i rfl, ⟨by decide +kernel, by decide +kernel, by decide +kernel⟩⟩
theorem fX7_146 : xF RX7 146 1 0 := ⟨_, _, _, rfl, ginX1, by decide, Or.inr ⟨_, xgn kX7_146 rfl⟩⟩
theorem fX7_150 : xF RX7 150 1 1 := ⟨_, _, _, rfl, ginX1, by decide, Or.inr ⟨_, xgn kX7_150 rfl⟩⟩
theorem fX7_153 : xF RX7 153 1 2 := ⟨_, _, _, rfl, ginX1, by decide, Or.inr ⟨_, xgn kX7_153 rfl⟩⟩
theorem fX7_156 : xF RX7 156 1 3 := ⟨_, _, _, rfl, ginX1, by decide, Or.inr ⟨_, xgn kX7_156 rfl⟩⟩
theorem fX7_159 : xF RX7 159 1 4 := ⟨_, _, _, rfl, ginX1, by decide, Or.inr ⟨_, xgn kX7_159 rfl⟩⟩
theorem vX7_162 : xV RX7 162 mX1_outputTruths 1 := ⟨xg uX1_outputTruths rfl, xg kX7_162 rfl, xg nX1_outputTruths rfl, xg seX1_outputTruths rfl, xg inX1_i rfl, ⟨by decide +kernel, by decide +kernel, by decide +kernel⟩⟩
theorem vX7_166 : xVS RX7 166 mX7_isKind 1 := ⟨xg uX7_isKind rfl, xg kX7_166 rfl, xg stX7_isKind rfl, xg inX7_i rfl, ⟨by decide +kernel, by decide +kernel, by decide +kernel⟩⟩
theorem vX7_169 : xV RX7 169 mX1_coinsFor 1 := ⟨xg uX1_coinsFor rfl, xg kX7_169 rfl, xg nX1_coinsFor rfl, xg seX1_coinsFor rfl, xg inX1_i rfl, ⟨by decide +kernel, by decide +kernel, by decide +kernel⟩⟩
theorem vX7_172 : xVI RX7 172 mX3_init 4 := ⟨xg uX3_init rfl, Or.inl (xg kX7_172 rfl), xg nX3_init rfl, xg inX3_i rfl, rfl, rfl, ⟨by decide +kernel, by decide +kernel, by decide +kernel⟩⟩
theorem vX7_175 : xV RX7 175 mX3_takeCoins 1 := ⟨xg uX3_takeCoins rfl, xg kX7_175 rfl, xg nX3_takeCoins rfl, xg seX3_takeCoins rfl, xg inX3_i rfl, ⟨by decide +kernel, by decide +kernel, by decide +kernel⟩⟩
theorem fX7_178 : xF RX7 178 0 3 := ⟨_, _, _, rfl, ginX0, by decide, Or.inr ⟨_, xgn kX7_178 rfl⟩⟩
theorem vX7_181 : xV RX7 181 mX4_makeTables 1 := ⟨xg uX4_makeTables rfl, xg kX7_181 rfl, xg nX4_makeTables rfl, xg seX4_makeTables rfl, xg inX4_i rfl, ⟨by decide +kernel, by decide +kernel, by decide +kernel⟩⟩
theorem fX7_185 : xF RX7 185 3 9 := ⟨_, _, _, rfl, ginX3, by decide, Or.inr ⟨_, xgn kX7_185 rfl⟩⟩
theorem pX7_185 : xP RX7 185 3 9 .int := ⟨_, _, _, tyX3, rfl, ginX3, tyX3_ok, nmX3, by decide, rfl, by decide +kernel, Or.inr ⟨_, xgn kX7_185 rfl⟩⟩
theorem vX7_188 : xV RX7 188 mX7_garbledAt 1 := ⟨xg uX7_garbledAt rfl, xg kX7_188 rfl, xg nX7_garbledAt rfl, xg seX7_garbledAt rfl, xg inX7_i rfl, ⟨by decide +kernel, by decide +kernel, by decide +kernel⟩⟩
theorem fX7_192 : xF RX7 192 3 1 := ⟨_, _, _, rfl, ginX3, by decide, Or.inr ⟨_, xgn kX7_192 rfl⟩⟩
theorem fX7_195 : xF RX7 195 3 2 := ⟨_, _, _, rfl, ginX3, by decide, Or.inr ⟨_, xgn kX7_195 rfl⟩⟩
theorem fX7_198 : xF RX7 198 3 3 := ⟨_, _, _, rfl, ginX3, by decide, Or.inr ⟨_, xgn kX7_198 rfl⟩⟩
theorem vX7_201 : xV RX7 201 mX3_storedRows 0 := ⟨xg uX3_storedRows rfl, xg kX7_201 rfl, xg nX3_storedRows rfl, xg seX3_storedRows rfl, xg inX3_i rfl, ⟨by decide +kernel, by decide +kernel, by decide +kernel⟩⟩
theorem vX7_204 : xV RX7 204 mX3_labelledWires 0 := ⟨xg uX3_labelledWires rfl, xg kX7_204 rfl, xg nX3_labelledWires rfl, xg seX3_labelledWires rfl, xg inX3_i rfl, ⟨by decide +kernel, by decide +kernel, by decide +kernel⟩⟩
theorem fX7_207 : xF RX7 207 3 10 := ⟨_, _, _, rfl, ginX3, by decide, Or.inr ⟨_, xgn kX7_207 rfl⟩⟩
theorem pX7_207 : xP RX7 207 3 10 .int := ⟨_, _, _, tyX3, rfl, ginX3, tyX3_ok, nmX3, by decide, rfl, by decide +kernel, Or.inr ⟨_, xgn kX7_207 rfl⟩⟩
theorem fX7_210 : xF RX7 210 3 4 := ⟨_, _, _, rfl, ginX3, by decide, Or.inr ⟨_, xgn kX7_210 rfl⟩⟩
theorem vX7_213 : xV RX7 213 mX3_isWire 1 := ⟨xg uX3_isWire rfl, xg kX7_213 rfl, xg nX3_isWire rfl, xg seX3_isWire rfl, xg inX3_i rfl, ⟨by decide +kernel, by decide +kernel, by decide +kernel⟩⟩
theorem vX7_216 : xVS RX7 216 mX7_isTruth 1 := ⟨xg uX7_isTruth rfl, xg kX7_216 rfl, xg stX7_isTruth rfl, xg inX7_i rfl, ⟨by decide +kernel, by decide +kernel, by decide +kernel⟩⟩
theorem vX7_219 : xV RX7 219 mX3_isRow 2 := ⟨xg uX3_isRow rfl, xg kX7_219 rfl, xg nX3_isRow rfl, xg seX3_isRow rfl, xg inX3_i rfl, ⟨by decide +kernel, by decide +kernel, by decide +kernel⟩⟩
theorem vX7_223 : xV RX7 223 mX3_isStored 1 := ⟨xg uX3_isStored rfl, xg kX7_223 rfl, xg nX3_isStored rfl, xg seX3_isStored rfl, xg inX3_i rfl, ⟨by decide +kernel, by decide +kernel, by decide +kernel⟩⟩
theorem fX7_226 : xF RX7 226 3 5 := ⟨_, _, _, rfl, ginX3, by decide, Or.inr ⟨_, xgn kX7_226 rfl⟩⟩
theorem vX7_229 : xVS RX7 229 mX3_rowPlace 2 := ⟨xg uX3_rowPlace rfl, xg kX7_229 rfl, xg stX3_rowPlace rfl, xg inX3_i rfl, ⟨by decide +kernel, by decide +kernel, by decide +kernel⟩⟩
theorem vX7_232 : xV RX7 232 mX5_mixByte 3 := ⟨xg uX5_mixByte rfl, xg kX7_232 rfl, xg nX5_mixByte rfl, xg seX5_mixByte rfl, xg inX5_i rfl, ⟨by decide +kernel, by decide +kernel, by decide +kernel⟩⟩
theorem vX7_236 : xV RX7 236 mX3_isInput 1 := ⟨xg uX3_isInput rfl, xg kX7_236 rfl, xg nX3_isInput rfl, xg seX3_isInput rfl, xg inX3_i rfl, ⟨by decide +kernel, by decide +kernel, by decide +kernel⟩⟩
theorem fX7_239 : xF RX7 239 3 6 := ⟨_, _, _, rfl, ginX3, by decide, Or.inr ⟨_, xgn kX7_239 rfl⟩⟩
theorem vX7_242 : xV RX7 242 mX3_putLabelFor 4 := ⟨xg uX3_putLabelFor rfl, xg kX7_242 rfl, xg nX3_putLabelFor rfl, xg seX3_putLabelFor rfl, xg inX3_i rfl, ⟨by decide +kernel, by decide +kernel, by decide +kernel⟩⟩
theorem vX7_246 : xV RX7 246 mX3_noteGiven 1 := ⟨xg uX3_noteGiven rfl, xg kX7_246 rfl, xg nX3_noteGiven rfl, xg seX3_noteGiven rfl, xg inX3_i rfl, ⟨by decide +kernel, by decide +kernel, by decide +kernel⟩⟩
theorem vX7_249 : xV RX7 249 mX3_putInputs 2 := ⟨xg uX3_putInputs rfl, xg kX7_249 rfl, xg nX3_putInputs rfl, xg seX3_putInputs rfl, xg inX3_i rfl, ⟨by decide +kernel, by decide +kernel, by decide +kernel⟩⟩
theorem fX7_253 : xF RX7 253 3 0 := ⟨_, _, _, rfl, ginX3, by decide, Or.inr ⟨_, xgn kX7_253 rfl⟩⟩
theorem vX7_257 : xV RX7 257 mX3_noteMissing 1 := ⟨xg uX3_noteMissing rfl, xg kX7_257 rfl, xg nX3_noteMissing rfl, xg seX3_noteMissing rfl, xg inX3_i rfl, ⟨by decide +kernel, by decide +kernel, by decide +kernel⟩⟩
theorem vX7_260 : xV RX7 260 mX3_hasAllInputs 0 := ⟨xg uX3_hasAllInputs rfl, xg kX7_260 rfl, xg nX3_hasAllInputs rfl, xg seX3_hasAllInputs rfl, xg inX3_i rfl, ⟨by decide +kernel, by decide +kernel, by decide +kernel⟩⟩
theorem vX7_264 : xV RX7 264 mX4_follow 2 := ⟨xg uX4_follow rfl, xg kX7_264 rfl, xg nX4_follow rfl, xg seX4_follow rfl, xg inX4_i rfl, ⟨by decide +kernel, by decide +kernel, by decide +kernel⟩⟩
theorem pX7_268 : xP RX7 268 3 8 .boolean := ⟨_, _, _, tyX3, rfl, ginX3, tyX3_ok, nmX3, by decide, rfl, by decide +kernel, Or.inr ⟨_, xgn kX7_268 rfl⟩⟩
theorem vX7_272 : xV RX7 272 mX3_hasLabel 1 := ⟨xg uX3_hasLabel rfl, xg kX7_272 rfl, xg nX3_hasLabel rfl, xg seX3_hasLabel rfl, xg inX3_i rfl, ⟨by decide +kernel, by decide +kernel, by decide +kernel⟩⟩
theorem vX7_275 : xV RX7 275 mX7_refusePlace 1 := ⟨xg uX7_refusePlace rfl, xg kX7_275 rfl, xg nX7_refusePlace rfl, xg seX7_refusePlace rfl, xg inX7_i rfl, ⟨by decide +kernel, by decide +kernel, by decide +kernel⟩⟩
theorem vX7_278 : xVS RX7 278 mX7_isPlace 2 := ⟨xg uX7_isPlace rfl, xg kX7_278 rfl, xg stX7_isPlace rfl, xg inX7_i rfl, ⟨by decide +kernel, by decide +kernel, by decide +kernel⟩⟩
theorem fX7_281 : xF RX7 281 7 10 := ⟨_, _, _, rfl, ginX7, by decide, Or.inl (xg kX7_281 rfl)⟩
theorem pX7_281 : xP RX7 281 7 10 .int := ⟨_, _, _, tyX7, rfl, ginX7, tyX7_ok, nmX7, by decide, rfl, by decide +kernel, Or.inl (xg kX7_281 rfl)⟩
theorem vX7_284 : xVS RX7 284 mX7_bytesOfPlace 1 := ⟨xg uX7_bytesOfPlace rfl, xg kX7_284 rfl, xg stX7_bytesOfPlace rfl, xg inX7_i rfl, ⟨by decide +kernel, by decide +kernel, by decide +kernel⟩⟩
theorem vX7_287 : xV RX7 287 mX5_bitsOf 3 := ⟨xg uX5_bitsOf rfl, xg kX7_287 rfl, xg nX5_bitsOf rfl, xg seX5_bitsOf rfl, xg inX5_i rfl, ⟨by decide +kernel, by decide +kernel, by decide +kernel⟩⟩
theorem vX7_291 : xVS RX7 291 mX7_asKind 2 := ⟨xg uX7_asKind rfl, xg kX7_291 rfl, xg stX7_asKind rfl, xg inX7_i rfl, ⟨by decide +kernel, by decide +kernel, by decide +kernel⟩⟩
theorem vX7_295 : xV RX7 295 mX3_openWire 2 := ⟨xg uX3_openWire rfl, xg kX7_295 rfl, xg nX3_openWire rfl, xg seX3_openWire rfl, xg inX3_i rfl, ⟨by decide +kernel, by decide +kernel, by decide +kernel⟩⟩
theorem vX7_299 : xV RX7 299 mX3_hasAllOutputs 0 := ⟨xg uX3_hasAllOutputs rfl, xg kX7_299 rfl, xg nX3_hasAllOutputs rfl, xg seX3_hasAllOutputs rfl, xg inX3_i rfl, ⟨by decide +kernel, by decide +kernel, by decide +kernel⟩⟩
theorem vX7_302 : xV RX7 302 mX3_openOutputs 1 := ⟨xg uX3_openOutputs rfl, xg kX7_302 rfl, xg nX3_openOutputs rfl, xg seX3_openOutputs rfl, xg inX3_i rfl, ⟨by decide +kernel, by decide +kernel, by decide +kernel⟩⟩
theorem fX8_7 : xF RX8 7 8 2 := ⟨_, _, _, rfl, ginX8, by decide, Or.inl (xg kX8_7 rfl)⟩
theorem pX8_7 : xPF RX8 7 8 2 (.array .int) := ⟨_, _, _, tyX8, rfl, ginX8, tyX8_ok, nmX8, by decide, rfl, rfl, by decide +kernel, xg kX8_7 rfl⟩
theorem fX8_13 : xF RX8 13 8 4 := ⟨_, _, _, rfl, ginX8, by decide, Or.inl (xg kX8_13 rfl)⟩
theorem pX8_13 : xPF RX8 13 8 4 (.array .int) := ⟨_, _, _, tyX8, rfl, ginX8, tyX8_ok, nmX8, by decide, rfl, rfl, by decide +kernel, xg kX8_13 rfl⟩
theorem fX8_16 : xF RX8 16 8 6 := ⟨_, _, _, rfl, ginX8, by decide, Or.inl (xg kX8_16 rfl)⟩
theorem pX8_16 : xPF RX8 16 8 6 (.array .int) := ⟨_, _, _, tyX8, rfl, ginX8, tyX8_ok, nmX8, by decide, rfl, rfl, by decide +kernel, xg kX8_16 rfl⟩
theorem fX8_19 : xF RX8 19 8 7 := ⟨_, _, _, rfl, ginX8, by decide, Or.inl (xg kX8_19 rfl)⟩
theorem pX8_19 : xPF RX8 19 8 7 (.array .int) := ⟨_, _, _, tyX8, rfl, ginX8, tyX8_ok, nmX8, by decide, rfl, rfl, by decide +kernel, xg kX8_19 rfl⟩
theorem fX8_22 : xF RX8 22 8 8 := ⟨_, _, _, rfl, ginX8, by decide, Or.inl (xg kX8_22 rfl)⟩
theorem pX8_22 : xPF RX8 22 8 8 (.array .int) := ⟨_, _, _, tyX8, rfl, ginX8, tyX8_ok, nmX8, by decide, rfl, rfl, by decide +kernel, xg kX8_22 rfl⟩
theorem fX8_25 : xF RX8 25 8 9 := ⟨_, _, _, rfl, ginX8, by decide, Or.inl (xg kX8_25 rfl)⟩
theorem pX8_25 : xPF RX8 25 8 9 (.array .int) := ⟨_, _, _, tyX8, rfl, ginX8, tyX8_ok, nmX8, by decide, rfl, rfl, by decide +kernel, xg kX8_25 rfl⟩
theorem fX8_28 : xF RX8 28 8 11 := ⟨_, _, _, rfl, ginX8, by decide, Or.inl (xg kX8_28 rfl)⟩
theorem pX8_28 : xPF RX8 28 8 11 (.array .int) := ⟨_, _, _, tyX8, rfl, ginX8, tyX8_ok, nmX8, by decide, rfl, rfl, by decide +kernel, xg kX8_28 rfl⟩
theorem fX8_31 : xF RX8 31 8 12 := ⟨_, _, _, rfl, ginX8, by decide, Or.inl (xg kX8_31 rfl)⟩
theorem pX8_31 : xPF RX8 31 8 12 (.array .int) := ⟨_, _, _, tyX8, rfl, ginX8, tyX8_ok, nmX8, by decide, rfl, rfl, by decide +kernel, xg kX8_31 rfl⟩
theorem fX8_34 : xF RX8 34 8 13 := ⟨_, _, _, rfl, ginX8, by decide, Or.inl (xg kX8_34 rfl)⟩
theorem pX8_34 : xPF RX8 34 8 13 (.array .int) := ⟨_, _, _, tyX8, rfl, ginX8, tyX8_ok, nmX8, by decide, rfl, rfl, by decide +kernel, xg kX8_34 rfl⟩
theorem fX8_37 : xF RX8 37 8 14 := ⟨_, _, _, rfl, ginX8, by decide, Or.inl (xg kX8_37 rfl)⟩
theorem pX8_37 : xPF RX8 37 8 14 (.array .int) := ⟨_, _, _, tyX8, rfl, ginX8, tyX8_ok, nmX8, by decide, rfl, rfl, by decide +kernel, xg kX8_37 rfl⟩
theorem fX8_40 : xF RX8 40 8 15 := ⟨_, _, _, rfl, ginX8, by decide, Or.inl (xg kX8_40 rfl)⟩
theorem pX8_40 : xPF RX8 40 8 15 (.array .int) := ⟨_, _, _, tyX8, rfl, ginX8, tyX8_ok, nmX8, by decide, rfl, rfl, by decide +kernel, xg kX8_40 rfl⟩
theorem fX8_43 : xF RX8 43 8 16 := ⟨_, _, _, rfl, ginX8, by decide, Or.inl (xg kX8_43 rfl)⟩
theorem pX8_43 : xPF RX8 43 8 16 (.array .int) := ⟨_, _, _, tyX8, rfl, ginX8, tyX8_ok, nmX8, by decide, rfl, rfl, by decide +kernel, xg kX8_43 rfl⟩
theorem fX8_46 : xF RX8 46 8 17 := ⟨_, _, _, rfl, ginX8, by decide, Or.inl (xg kX8_46 rfl)⟩
theorem pX8_46 : xPF RX8 46 8 17 (.array .int) := ⟨_, _, _, tyX8, rfl, ginX8, tyX8_ok, nmX8, by decide, rfl, rfl, by decide +kernel, xg kX8_46 rfl⟩
theorem fX8_49 : xF RX8 49 8 18 := ⟨_, _, _, rfl, ginX8, by decide, Or.inl (xg kX8_49 rfl)⟩
theorem pX8_49 : xPF RX8 49 8 18 (.array .int) := ⟨_, _, _, tyX8, rfl, ginX8, tyX8_ok, nmX8, by decide, rfl, rfl, by decide +kernel, xg kX8_49 rfl⟩
theorem fX8_52 : xF RX8 52 8 19 := ⟨_, _, _, rfl, ginX8, by decide, Or.inl (xg kX8_52 rfl)⟩
theorem pX8_52 : xPF RX8 52 8 19 (.array .int) := ⟨_, _, _, tyX8, rfl, ginX8, tyX8_ok, nmX8, by decide, rfl, rfl, by decide +kernel, xg kX8_52 rfl⟩
theorem fX8_55 : xF RX8 55 8 21 := ⟨_, _, _, rfl, ginX8, by decide, Or.inl (xg kX8_55 rfl)⟩
theorem pX8_55 : xPF RX8 55 8 21 (.array .int) := ⟨_, _, _, tyX8, rfl, ginX8, tyX8_ok, nmX8, by decide, rfl, rfl, by decide +kernel, xg kX8_55 rfl⟩
theorem fX8_58 : xF RX8 58 8 22 := ⟨_, _, _, rfl, ginX8, by decide, Or.inl (xg kX8_58 rfl)⟩
theorem pX8_58 : xPF RX8 58 8 22 (.array .int) := ⟨_, _, _, tyX8, rfl, ginX8, tyX8_ok, nmX8, by decide, rfl, rfl, by decide +kernel, xg kX8_58 rfl⟩
theorem fX8_61 : xF RX8 61 8 23 := ⟨_, _, _, rfl, ginX8, by decide, Or.inl (xg kX8_61 rfl)⟩
theorem pX8_61 : xPF RX8 61 8 23 (.array .int) := ⟨_, _, _, tyX8, rfl, ginX8, tyX8_ok, nmX8, by decide, rfl, rfl, by decide +kernel, xg kX8_61 rfl⟩
theorem fX8_64 : xF RX8 64 8 24 := ⟨_, _, _, rfl, ginX8, by decide, Or.inl (xg kX8_64 rfl)⟩
theorem pX8_64 : xPF RX8 64 8 24 (.array .int) := ⟨_, _, _, tyX8, rfl, ginX8, tyX8_ok, nmX8, by decide, rfl, rfl, by decide +kernel, xg kX8_64 rfl⟩
theorem fX8_67 : xF RX8 67 8 25 := ⟨_, _, _, rfl, ginX8, by decide, Or.inl (xg kX8_67 rfl)⟩
theorem pX8_67 : xPF RX8 67 8 25 (.array .int) := ⟨_, _, _, tyX8, rfl, ginX8, tyX8_ok, nmX8, by decide, rfl, rfl, by decide +kernel, xg kX8_67 rfl⟩
theorem fX8_70 : xF RX8 70 8 26 := ⟨_, _, _, rfl, ginX8, by decide, Or.inl (xg kX8_70 rfl)⟩
theorem pX8_70 : xPF RX8 70 8 26 (.array .int) := ⟨_, _, _, tyX8, rfl, ginX8, tyX8_ok, nmX8, by decide, rfl, rfl, by decide +kernel, xg kX8_70 rfl⟩
theorem fX8_73 : xF RX8 73 8 27 := ⟨_, _, _, rfl, ginX8, by decide, Or.inl (xg kX8_73 rfl)⟩
theorem pX8_73 : xPF RX8 73 8 27 (.array .int) := ⟨_, _, _, tyX8, rfl, ginX8, tyX8_ok, nmX8, by decide, rfl, rfl, by decide +kernel, xg kX8_73 rfl⟩
theorem fX8_76 : xF RX8 76 8 28 := ⟨_, _, _, rfl, ginX8, by decide, Or.inl (xg kX8_76 rfl)⟩
theorem pX8_76 : xPF RX8 76 8 28 (.array .int) := ⟨_, _, _, tyX8, rfl, ginX8, tyX8_ok, nmX8, by decide, rfl, rfl, by decide +kernel, xg kX8_76 rfl⟩
theorem fX8_79 : xF RX8 79 8 29 := ⟨_, _, _, rfl, ginX8, by decide, Or.inl (xg kX8_79 rfl)⟩
theorem pX8_79 : xPF RX8 79 8 29 (.array .int) := ⟨_, _, _, tyX8, rfl, ginX8, tyX8_ok, nmX8, by decide, rfl, rfl, by decide +kernel, xg kX8_79 rfl⟩
theorem fX8_82 : xF RX8 82 8 30 := ⟨_, _, _, rfl, ginX8, by decide, Or.inl (xg kX8_82 rfl)⟩
theorem pX8_82 : xPF RX8 82 8 30 (.array .boolean) := ⟨_, _, _, tyX8, rfl, ginX8, tyX8_ok, nmX8, by decide, rfl, rfl, by decide +kernel, xg kX8_82 rfl⟩
theorem fX8_86 : xF RX8 86 8 31 := ⟨_, _, _, rfl, ginX8, by decide, Or.inl (xg kX8_86 rfl)⟩
theorem pX8_86 : xPF RX8 86 8 31 (.array .int) := ⟨_, _, _, tyX8, rfl, ginX8, tyX8_ok, nmX8, by decide, rfl, rfl, by decide +kernel, xg kX8_86 rfl⟩
theorem fX8_89 : xF RX8 89 8 32 := ⟨_, _, _, rfl, ginX8, by decide, Or.inl (xg kX8_89 rfl)⟩
theorem pX8_89 : xPF RX8 89 8 32 (.array .boolean) := ⟨_, _, _, tyX8, rfl, ginX8, tyX8_ok, nmX8, by decide, rfl, rfl, by decide +kernel, xg kX8_89 rfl⟩
theorem fX8_92 : xF RX8 92 8 33 := ⟨_, _, _, rfl, ginX8, by decide, Or.inl (xg kX8_92 rfl)⟩
theorem pX8_92 : xPF RX8 92 8 33 (.array .int) := ⟨_, _, _, tyX8, rfl, ginX8, tyX8_ok, nmX8, by decide, rfl, rfl, by decide +kernel, xg kX8_92 rfl⟩
theorem fX8_95 : xF RX8 95 8 34 := ⟨_, _, _, rfl, ginX8, by decide, Or.inl (xg kX8_95 rfl)⟩
theorem pX8_95 : xPF RX8 95 8 34 (.array .int) := ⟨_, _, _, tyX8, rfl, ginX8, tyX8_ok, nmX8, by decide, rfl, rfl, by decide +kernel, xg kX8_95 rfl⟩
theorem fX8_98 : xF RX8 98 8 35 := ⟨_, _, _, rfl, ginX8, by decide, Or.inl (xg kX8_98 rfl)⟩
theorem pX8_98 : xPF RX8 98 8 35 (.array .int) := ⟨_, _, _, tyX8, rfl, ginX8, tyX8_ok, nmX8, by decide, rfl, rfl, by decide +kernel, xg kX8_98 rfl⟩
theorem fX8_101 : xF RX8 101 8 39 := ⟨_, _, _, rfl, ginX8, by decide, Or.inl (xg kX8_101 rfl)⟩
theorem pX8_101 : xPF RX8 101 8 39 (.array .int) := ⟨_, _, _, tyX8, rfl, ginX8, tyX8_ok, nmX8, by decide, rfl, rfl, by decide +kernel, xg kX8_101 rfl⟩
theorem fX8_104 : xF RX8 104 8 40 := ⟨_, _, _, rfl, ginX8, by decide, Or.inl (xg kX8_104 rfl)⟩
theorem pX8_104 : xPF RX8 104 8 40 (.array .int) := ⟨_, _, _, tyX8, rfl, ginX8, tyX8_ok, nmX8, by decide, rfl, rfl, by decide +kernel, xg kX8_104 rfl⟩
theorem fX8_107 : xF RX8 107 8 41 := ⟨_, _, _, rfl, ginX8, by decide, Or.inl (xg kX8_107 rfl)⟩
theorem pX8_107 : xPF RX8 107 8 41 (.array .int) := ⟨_, _, _, tyX8, rfl, ginX8, tyX8_ok, nmX8, by decide, rfl, rfl, by decide +kernel, xg kX8_107 rfl⟩
theorem vX8_110 : xVS RX8 110 mX8_times 2 := ⟨xg uX8_times rfl, xg kX8_110 rfl, xg stX8_times rfl, xg inX8_i rfl, ⟨by decide +kernel, by decide +kernel, by decide +kernel⟩⟩
theorem vX8_114 : xV RX8 114 mX8_spreads 0 := ⟨xg uX8_spreads rfl, xg kX8_114 rfl, xg nX8_spreads rfl, xg seX8_spreads rfl, xg inX8_i rfl, ⟨by decide +kernel, by decide +kernel, by decide +kernel⟩⟩
theorem pX8_117 : xP RX8 117 8 0 .int := ⟨_, _, _, tyX8, rfl, ginX8, tyX8_ok, nmX8, by decide, rfl, by decide +kernel, Or.inl (xg kX8_117 rfl)⟩
theorem fX8_121 : xF RX8 121 8 5 := ⟨_, _, _, rfl, ginX8, by decide, Or.inl (xg kX8_121 rfl)⟩
theorem pX8_121 : xP RX8 121 8 5 .int := ⟨_, _, _, tyX8, rfl, ginX8, tyX8_ok, nmX8, by decide, rfl, by decide +kernel, Or.inl (xg kX8_121 rfl)⟩
theorem vX8_124 : xV RX8 124 mX8_ciphers 0 := ⟨xg uX8_ciphers rfl, xg kX8_124 rfl, xg nX8_ciphers rfl, xg seX8_ciphers rfl, xg inX8_i rfl, ⟨by decide +kernel, by decide +kernel, by decide +kernel⟩⟩
theorem vX8_127 : xVS RX8 127 mX8_doubles 2 := ⟨xg uX8_doubles rfl, xg kX8_127 rfl, xg stX8_doubles rfl, xg inX8_i rfl, ⟨by decide +kernel, by decide +kernel, by decide +kernel⟩⟩
theorem vX8_131 : xV RX8 131 mX8_hashes 1 := ⟨xg uX8_hashes rfl, xg kX8_131 rfl, xg nX8_hashes rfl, xg seX8_hashes rfl, xg inX8_i rfl, ⟨by decide +kernel, by decide +kernel, by decide +kernel⟩⟩
theorem vX8_135 : xVS RX8 135 mX8_in 3 := ⟨xg uX8_in rfl, xg kX8_135 rfl, xg stX8_in rfl, xg inX8_i rfl, ⟨by decide +kernel, by decide +kernel, by decide +kernel⟩⟩
theorem fX8_139 : xF RX8 139 8 3 := ⟨_, _, _, rfl, ginX8, by decide, Or.inl (xg kX8_139 rfl)⟩
theorem pX8_139 : xP RX8 139 8 3 .int := ⟨_, _, _, tyX8, rfl, ginX8, tyX8_ok, nmX8, by decide, rfl, by decide +kernel, Or.inl (xg kX8_139 rfl)⟩
theorem vX8_144 : xV RX8 144 mX8_uses 0 := ⟨xg uX8_uses rfl, xg kX8_144 rfl, xg nX8_uses rfl, xg seX8_uses rfl, xg inX8_i rfl, ⟨by decide +kernel, by decide +kernel, by decide +kernel⟩⟩
theorem fX8_148 : xF RX8 148 8 20 := ⟨_, _, _, rfl, ginX8, by decide, Or.inl (xg kX8_148 rfl)⟩
theorem pX8_148 : xP RX8 148 8 20 .int := ⟨_, _, _, tyX8, rfl, ginX8, tyX8_ok, nmX8, by decide, rfl, by decide +kernel, Or.inl (xg kX8_148 rfl)⟩
theorem vX8_151 : xV RX8 151 mX8_hashOne 3 := ⟨xg uX8_hashOne rfl, xg kX8_151 rfl, xg nX8_hashOne rfl, xg seX8_hashOne rfl, xg inX8_i rfl, ⟨by decide +kernel, by decide +kernel, by decide +kernel⟩⟩
theorem vX8_155 : xV RX8 155 mX8_hashTwo 5 := ⟨xg uX8_hashTwo rfl, xg kX8_155 rfl, xg nX8_hashTwo rfl, xg seX8_hashTwo rfl, xg inX8_i rfl, ⟨by decide +kernel, by decide +kernel, by decide +kernel⟩⟩
theorem fX8_159 : xF RX8 159 8 38 := ⟨_, _, _, rfl, ginX8, by decide, Or.inl (xg kX8_159 rfl)⟩
theorem pX8_159 : xP RX8 159 8 38 .int := ⟨_, _, _, tyX8, rfl, ginX8, tyX8_ok, nmX8, by decide, rfl, by decide +kernel, Or.inl (xg kX8_159 rfl)⟩
theorem fX8_162 : xF RX8 162 8 36 := ⟨_, _, _, rfl, ginX8, by decide, Or.inl (xg kX8_162 rfl)⟩
theorem pX8_162 : xP RX8 162 8 36 .int := ⟨_, _, _, tyX8, rfl, ginX8, tyX8_ok, nmX8, by decide, rfl, by decide +kernel, Or.inl (xg kX8_162 rfl)⟩
theorem fX8_165 : xF RX8 165 8 37 := ⟨_, _, _, rfl, ginX8, by decide, Or.inl (xg kX8_165 rfl)⟩
theorem pX8_165 : xP RX8 165 8 37 .int := ⟨_, _, _, tyX8, rfl, ginX8, tyX8_ok, nmX8, by decide, rfl, by decide +kernel, Or.inl (xg kX8_165 rfl)⟩
theorem vX8_168 : xV RX8 168 mX8_byteAt 0 := ⟨xg uX8_byteAt rfl, xg kX8_168 rfl, xg nX8_byteAt rfl, xg seX8_byteAt rfl, xg inX8_i rfl, ⟨by decide +kernel, by decide +kernel, by decide +kernel⟩⟩
theorem vX8_171 : xVS RX8 171 mX8_isDigit 1 := ⟨xg uX8_isDigit rfl, xg kX8_171 rfl, xg stX8_isDigit rfl, xg inX8_i rfl, ⟨by decide +kernel, by decide +kernel, by decide +kernel⟩⟩
theorem vX8_175 : xV RX8 175 mX8_fault 1 := ⟨xg uX8_fault rfl, xg kX8_175 rfl, xg nX8_fault rfl, xg seX8_fault rfl, xg inX8_i rfl, ⟨by decide +kernel, by decide +kernel, by decide +kernel⟩⟩
theorem vX8_178 : xV RX8 178 mX8_blanks 0 := ⟨xg uX8_blanks rfl, xg kX8_178 rfl, xg nX8_blanks rfl, xg seX8_blanks rfl, xg inX8_i rfl, ⟨by decide +kernel, by decide +kernel, by decide +kernel⟩⟩
theorem vX8_181 : xVS RX8 181 mX8_isSign 1 := ⟨xg uX8_isSign rfl, xg kX8_181 rfl, xg stX8_isSign rfl, xg inX8_i rfl, ⟨by decide +kernel, by decide +kernel, by decide +kernel⟩⟩
theorem vX8_184 : xV RX8 184 mX8_number 2 := ⟨xg uX8_number rfl, xg kX8_184 rfl, xg nX8_number rfl, xg seX8_number rfl, xg inX8_i rfl, ⟨by decide +kernel, by decide +kernel, by decide +kernel⟩⟩
theorem vX8_187 : xV RX8 187 mX8_take 1 := ⟨xg uX8_take rfl, xg kX8_187 rfl, xg nX8_take rfl, xg seX8_take rfl, xg inX8_i rfl, ⟨by decide +kernel, by decide +kernel, by decide +kernel⟩⟩
theorem fX8_190 : xF RX8 190 8 10 := ⟨_, _, _, rfl, ginX8, by decide, Or.inl (xg kX8_190 rfl)⟩
theorem pX8_190 : xP RX8 190 8 10 .int := ⟨_, _, _, tyX8, rfl, ginX8, tyX8_ok, nmX8, by decide, rfl, by decide +kernel, Or.inl (xg kX8_190 rfl)⟩
theorem vX8_193 : xV RX8 193 mX8_readGate 1 := ⟨xg uX8_readGate rfl, xg kX8_193 rfl, xg nX8_readGate rfl, xg seX8_readGate rfl, xg inX8_i rfl, ⟨by decide +kernel, by decide +kernel, by decide +kernel⟩⟩
theorem vX8_196 : xV RX8 196 mX8_isCircuit 1 := ⟨xg uX8_isCircuit rfl, xg kX8_196 rfl, xg nX8_isCircuit rfl, xg seX8_isCircuit rfl, xg inX8_i rfl, ⟨by decide +kernel, by decide +kernel, by decide +kernel⟩⟩
theorem vX8_199 : xV RX8 199 mX8_wiresOf 1 := ⟨xg uX8_wiresOf rfl, xg kX8_199 rfl, xg nX8_wiresOf rfl, xg seX8_wiresOf rfl, xg inX8_i rfl, ⟨by decide +kernel, by decide +kernel, by decide +kernel⟩⟩
theorem vX8_203 : xVS RX8 203 mX8_truth 3 := ⟨xg uX8_truth rfl, xg kX8_203 rfl, xg stX8_truth rfl, xg inX8_i rfl, ⟨by decide +kernel, by decide +kernel, by decide +kernel⟩⟩
theorem vX8_207 : xV RX8 207 mX8_plainOf 2 := ⟨xg uX8_plainOf rfl, xg kX8_207 rfl, xg nX8_plainOf rfl, xg seX8_plainOf rfl, xg inX8_i rfl, ⟨by decide +kernel, by decide +kernel, by decide +kernel⟩⟩
theorem vX8_210 : xVS RX8 210 mX8_placeOf 2 := ⟨xg uX8_placeOf rfl, xg kX8_210 rfl, xg stX8_placeOf rfl, xg inX8_i rfl, ⟨by decide +kernel, by decide +kernel, by decide +kernel⟩⟩
theorem vX8_213 : xV RX8 213 mX8_colour 2 := ⟨xg uX8_colour rfl, xg kX8_213 rfl, xg nX8_colour rfl, xg seX8_colour rfl, xg inX8_i rfl, ⟨by decide +kernel, by decide +kernel, by decide +kernel⟩⟩
theorem vX8_216 : xV RX8 216 mX8_pair 4 := ⟨xg uX8_pair rfl, xg kX8_216 rfl, xg nX8_pair rfl, xg seX8_pair rfl, xg inX8_i rfl, ⟨by decide +kernel, by decide +kernel, by decide +kernel⟩⟩
theorem vX8_220 : xVS RX8 220 mX8_rowAt 3 := ⟨xg uX8_rowAt rfl, xg kX8_220 rfl, xg stX8_rowAt rfl, xg inX8_i rfl, ⟨by decide +kernel, by decide +kernel, by decide +kernel⟩⟩
theorem vX8_223 : xV RX8 223 mX8_halves 6 := ⟨xg uX8_halves rfl, xg kX8_223 rfl, xg nX8_halves rfl, xg seX8_halves rfl, xg inX8_i rfl, ⟨by decide +kernel, by decide +kernel, by decide +kernel⟩⟩
theorem vX8_227 : xV RX8 227 mX8_tables 6 := ⟨xg uX8_tables rfl, xg kX8_227 rfl, xg nX8_tables rfl, xg seX8_tables rfl, xg inX8_i rfl, ⟨by decide +kernel, by decide +kernel, by decide +kernel⟩⟩
theorem vX8_230 : xV RX8 230 mX8_isGarbled 1 := ⟨xg uX8_isGarbled rfl, xg kX8_230 rfl, xg nX8_isGarbled rfl, xg seX8_isGarbled rfl, xg inX8_i rfl, ⟨by decide +kernel, by decide +kernel, by decide +kernel⟩⟩
theorem vX8_233 : xV RX8 233 mX8_isStored 2 := ⟨xg uX8_isStored rfl, xg kX8_233 rfl, xg nX8_isStored rfl, xg seX8_isStored rfl, xg inX8_i rfl, ⟨by decide +kernel, by decide +kernel, by decide +kernel⟩⟩
theorem vX8_237 : xV RX8 237 mX8_chooses 3 := ⟨xg uX8_chooses rfl, xg kX8_237 rfl, xg nX8_chooses rfl, xg seX8_chooses rfl, xg inX8_i rfl, ⟨by decide +kernel, by decide +kernel, by decide +kernel⟩⟩
theorem vX8_241 : xV RX8 241 mX8_drops 1 := ⟨xg uX8_drops rfl, xg kX8_241 rfl, xg nX8_drops rfl, xg seX8_drops rfl, xg inX8_i rfl, ⟨by decide +kernel, by decide +kernel, by decide +kernel⟩⟩
theorem vX8_244 : xV RX8 244 mX8_works 1 := ⟨xg uX8_works rfl, xg kX8_244 rfl, xg nX8_works rfl, xg seX8_works rfl, xg inX8_i rfl, ⟨by decide +kernel, by decide +kernel, by decide +kernel⟩⟩
theorem fX8_247 : xF RX8 247 8 1 := ⟨_, _, _, rfl, ginX8, by decide, Or.inl (xg kX8_247 rfl)⟩
theorem pX8_247 : xP RX8 247 8 1 .int := ⟨_, _, _, tyX8, rfl, ginX8, tyX8_ok, nmX8, by decide, rfl, by decide +kernel, Or.inl (xg kX8_247 rfl)⟩
theorem vX8_250 : xV RX8 250 mX8_no 1 := ⟨xg uX8_no rfl, xg kX8_250 rfl, xg nX8_no rfl, xg seX8_no rfl, xg inX8_i rfl, ⟨by decide +kernel, by decide +kernel, by decide +kernel⟩⟩
theorem vX8_254 : xV RX8 254 mX8_opened 2 := ⟨xg uX8_opened rfl, xg kX8_254 rfl, xg nX8_opened rfl, xg seX8_opened rfl, xg inX8_i rfl, ⟨by decide +kernel, by decide +kernel, by decide +kernel⟩⟩
theorem vX8_257 : xV RX8 257 mX8_openedAll 1 := ⟨xg uX8_openedAll rfl, xg kX8_257 rfl, xg nX8_openedAll rfl, xg seX8_openedAll rfl, xg inX8_i rfl, ⟨by decide +kernel, by decide +kernel, by decide +kernel⟩⟩
set_option maxRecDepth 100000 in
theorem oi_n : Cond.instanceMethod objectInit ∈ xtbl := xg (List.mem_of_getElem? (i := 63) rfl) rfl
set_option maxRecDepth 100000 in
theorem oi_c : Cond.code objectInit ⟨#[0xb1]⟩ 1 none ∈ xtbl := xg (List.mem_of_getElem? (i := 64) rfl) rfl
set_option maxRecDepth 100000 in
theorem aoX1 : Cond.arrayOver (.object RX1) ∈ xnw := xgn (List.mem_of_getElem? (i := 159) rfl) rfl
set_option maxRecDepth 100000 in
theorem aoX3 : Cond.arrayOver (.object RX3) ∈ xnw := xgn (List.mem_of_getElem? (i := 161) rfl) rfl
