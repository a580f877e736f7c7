/-! ===== fields and arrays ===== -/
def xF (own : String) (idx ci fk : Nat) : Prop := ∃ (C : String) (T : u_T) (N : Nat), vwCl[ci]? = some (C, T, N) ∧ (∀ w ∈ u_ws C T N, w ∈ xtbl) ∧ fk < N ∧ (Cond.fieldLink own idx (T fk).1 (T fk).2.1 (T fk).2.2.1 ∈ xtbl ∨ ∃ host, Cond.fieldLinkNest own idx (T fk).1 (T fk).2.1 (T fk).2.2.1 host ∈ xnw)
def xP (own : String) (idx ci fk : Nat) (ty : FieldType) : Prop := ∃ (C : String) (T : u_T) (N : Nat) (ty0 : Nat → FieldType), vwCl[ci]? = some (C, T, N) ∧ (∀ w ∈ u_ws C T N, w ∈ xtbl) ∧ (∀ k, k < N → parseFieldDescriptor (T k).2.2.1 = some (ty0 k)) ∧ (∀ a, a < N → ∀ b, b < N → a ≠ b → (T a).2.1 ≠ (T b).2.1) ∧ fk < N ∧ (T fk).2.2.2 = false ∧ parseFieldDescriptor (T fk).2.2.1 = some ty ∧ (Cond.fieldLink own idx (T fk).1 (T fk).2.1 (T fk).2.2.1 ∈ xtbl ∨ ∃ host, Cond.fieldLinkNest own idx (T fk).1 (T fk).2.1 (T fk).2.2.1 host ∈ xnw)
def xPF (own : String) (idx ci fk : Nat) (ty : FieldType) : Prop := ∃ (C : String) (T : u_T) (N : Nat) (ty0 : Nat → FieldType), vwCl[ci]? = some (C, T, N) ∧ (∀ w ∈ u_ws C T N, w ∈ xtbl) ∧ (∀ k, k < N → parseFieldDescriptor (T k).2.2.1 = some (ty0 k)) ∧ (∀ a, a < N → ∀ b, b < N → a ≠ b → (T a).2.1 ≠ (T b).2.1) ∧ fk < N ∧ (T fk).2.2.2 = true ∧ (T fk).1 = own ∧ parseFieldDescriptor (T fk).2.2.1 = some ty ∧ Cond.fieldLink own idx (T fk).1 (T fk).2.1 (T fk).2.2.1 ∈ xtbl
theorem x_get {G : xG} {Y : xD} {M : xM} {T : xL} {R0 : Room} {k n pc : Nat} {lv : List (Nat × Value)} {st : List Value} {ws : va_W} {os : xO} (C : xC G Y M T R0) (j : Nat) {idx ci fk : Nat} (hT : T[j]? = some (pc, .getfield idx, 3)) (hF : xF M.1.cls idx ci fk) (N : xN ws.length (keys os)) (i : Nat) {q a : Nat} {fs : List Value} (hi : os[i]? = some (q, (a, .inr (ci, fs)))) {v : Value} (hv : fs[fk]? = some v) (kk : X G Y k n (pc + 3) lv (v :: st) (ovl ws os)) : X G Y k n pc lv (.ref a :: st) (ovl ws os) := by
  obtain ⟨p, l, e, R, s, m, args, below, meth, c, A, nL, Q⟩ := G
  obtain ⟨hx, hb, hml, rfl, hown, hts, hnw, hK, hA, hlocks, hnm, hret, hZ, rfl, hok⟩ := C
  intro H locs ls hl hP hD hS
  obtain ⟨Cn, Tn, Nn, hc, hin, hk, hlk⟩ := hF
  rcases hlk with hlk | ⟨host, hlk⟩
  · exact va_get hx hb hts hin hown hK hP q (ovl_at i N hi) hc fk hk (hts _ hlk) (fun _ h9 => h9) hv (xat hok hT) (kk H locs ls hl hP hD hS)
  · exact va_getN hx hb hts hin hown hK hP q (ovl_at i N hi) hc fk hk (va_Nw.use rfl (hnw _ hlk)) (fun _ h9 => h9) hv (xat hok hT) (kk H locs ls hl hP hD hS)
theorem x_put {G : xG} {Y : xD} {M : xM} {T : xL} {R0 : Room} {k n pc : Nat} {lv : List (Nat × Value)} {st : List Value} {ws : va_W} {os : xO} (C : xC G Y M T R0) (j : Nat) {idx ci fk : Nat} {ty : FieldType} (hT : T[j]? = some (pc, .putfield idx, 3)) (hF : xP M.1.cls idx ci fk ty) (N : xN ws.length (keys os)) (i : Nat) {q a : Nat} {fs : List Value} (hi : os[i]? = some (q, (a, .inr (ci, fs)))) {v : Value} (hn : narrow ty v = v) (hfit : fits ty v = true) (hlen : fk < fs.length) {os' : xO} (ho : os.set i (q, (a, .inr (ci, fs.set fk v))) = os') (kk : X G Y k n (pc + 3) lv st (ovl ws os')) : X G Y k n pc lv (v :: .ref a :: st) (ovl ws os) := by
  obtain ⟨p, l, e, R, s, m, args, below, meth, c, A, nL, Q⟩ := G
  obtain ⟨hx, hb, hml, rfl, hown, hts, hnw, hK, hA, hlocks, hnm, hret, hZ, rfl, hok⟩ := C
  intro H locs ls hl hP hD hS
  obtain ⟨Cn, Tn, Nn, ty0, hc, hin, hty, hnms, hk, hfin, hpd, hlk⟩ := hF
  subst ho
  rw [← ovl_set (c := (a, .inr (ci, fs))) _ i N.1 (keys_at hi)] at kk
  rcases hlk with hlk | ⟨host, hlk⟩
  · exact va_put hx hb hts hin ty0 hty hnms hown hK hP hD hS q (ovl_at i N hi) hc fk hk (hts _ hlk) (fun _ h9 => h9) hfin hpd hn hfit hlen (xat hok hT) (fun H1 locs1 hP hD hS => kk H1 locs1 ls hl hP hD hS)
  · exact va_putN hx hb hts hin ty0 hty hnms hown hK hP hD hS q (ovl_at i N hi) hc fk hk (va_Nw.use rfl (hnw _ hlk)) (fun _ h9 => h9) hfin hpd hn hfit hlen (xat hok hT) (fun H1 locs1 hP hD hS => kk H1 locs1 ls hl hP hD hS)
theorem x_putF {G : xG} {Y : xD} {M : xM} {T : xL} {R0 : Room} {k n pc : Nat} {lv : List (Nat × Value)} {st : List Value} {ws : va_W} {os : xO} (C : xC G Y M T R0) (hini : M.1.name = "<init>") (j : Nat) {idx ci fk : Nat} {ty : FieldType} (hT : T[j]? = some (pc, .putfield idx, 3)) (hF : xPF M.1.cls idx ci fk ty) (N : xN ws.length (keys os)) (i : Nat) {q a : Nat} {fs : List Value} (hi : os[i]? = some (q, (a, .inr (ci, fs)))) {v : Value} (hn : narrow ty v = v) (hfit : fits ty v = true) (hlen : fk < fs.length) {os' : xO} (ho : os.set i (q, (a, .inr (ci, fs.set fk v))) = os') (kk : X G Y k n (pc + 3) lv st (ovl ws os')) : X G Y k n pc lv (v :: .ref a :: st) (ovl ws os) := by
  obtain ⟨p, l, e, R, s, m, args, below, meth, c, A, nL, Q⟩ := G
  obtain ⟨hx, hb, hml, rfl, hown, hts, hnw, hK, hA, hlocks, hnm, hret, hZ, rfl, hok⟩ := C
  intro H locs ls hl hP hD hS
  obtain ⟨Cn, Tn, Nn, ty0, hc, hin, hty, hnms, hk, hfin, hdecl, hpd, hlk⟩ := hF
  subst ho
  rw [← ovl_set (c := (a, .inr (ci, fs))) _ i N.1 (keys_at hi)] at kk
  exact va_putF hx hb hts hin ty0 hty hnms hown hK hP hD hS q (ovl_at i N hi) hc fk hk (hts _ hlk) (fun _ h9 => h9) hfin (hnm.trans hini) hdecl hpd hn hfit hlen (xat hok hT) (fun H1 locs1 hP hD hS => kk H1 locs1 ls hl hP hD hS)
theorem x_iald {G : xG} {Y : xD} {M : xM} {T : xL} {R0 : Room} {k n pc : Nat} {lv : List (Nat × Value)} {st : List Value} {ws : va_W} {os : xO} (C : xC G Y M T R0) (j : Nat) (hT : T[j]? = some (pc, .iaload, 1)) (N : xN ws.length (keys os)) (i : Nat) {q a len : Nat} {f : Nat → Int32} (hi : os[i]? = some (q, (a, cI Y len f))) {x : Int32} (hin : vp_in x len) (kk : X G Y k n (pc + 1) lv (.int (f x.toNatClampNeg) :: st) (ovl ws os)) : X G Y k n pc lv (.int x :: .ref a :: st) (ovl ws os) := by
  obtain ⟨p, l, e, R, s, m, args, below, meth, c, A, nL, Q⟩ := G
  obtain ⟨hx, hb, hml, rfl, hown, hts, hnw, hK, hA, hlocks, hnm, hret, hZ, rfl, hok⟩ := C
  intro H locs ls hl hP hD hS
  exact va_iald hx hb hK hP q 0 (ovl_at i N hi) rfl hin (xat hok hT) (kk H locs ls hl hP hD hS)
theorem x_lald {G : xG} {Y : xD} {M : xM} {T : xL} {R0 : Room} {k n pc : Nat} {lv : List (Nat × Value)} {st : List Value} {ws : va_W} {os : xO} (C : xC G Y M T R0) (j : Nat) (hT : T[j]? = some (pc, .laload, 1)) (N : xN ws.length (keys os)) (i : Nat) {q a len : Nat} {f : Nat → Int64} (hi : os[i]? = some (q, (a, cJ Y len f))) {x : Int32} (hin : vp_in x len) (kk : X G Y k n (pc + 1) lv (.long (f x.toNatClampNeg) :: st) (ovl ws os)) : X G Y k n pc lv (.int x :: .ref a :: st) (ovl ws os) := by
  obtain ⟨p, l, e, R, s, m, args, below, meth, c, A, nL, Q⟩ := G
  obtain ⟨hx, hb, hml, rfl, hown, hts, hnw, hK, hA, hlocks, hnm, hret, hZ, rfl, hok⟩ := C
  intro H locs ls hl hP hD hS
  exact va_lald hx hb hK hP q 1 (ovl_at i N hi) rfl hin (xat hok hT) (kk H locs ls hl hP hD hS)
theorem x_bald {G : xG} {Y : xD} {M : xM} {T : xL} {R0 : Room} {k n pc : Nat} {lv : List (Nat × Value)} {st : List Value} {ws : va_W} {os : xO} (C : xC G Y M T R0) (j : Nat) (hT : T[j]? = some (pc, .baload, 1)) (N : xN ws.length (keys os)) (i : Nat) {q a len : Nat} {f : Nat → Int32} (hi : os[i]? = some (q, (a, cB Y len f))) {x : Int32} (hin : vp_in x len) (kk : X G Y k n (pc + 1) lv (.int (f x.toNatClampNeg) :: st) (ovl ws os)) : X G Y k n pc lv (.int x :: .ref a :: st) (ovl ws os) := by
  obtain ⟨p, l, e, R, s, m, args, below, meth, c, A, nL, Q⟩ := G
  obtain ⟨hx, hb, hml, rfl, hown, hts, hnw, hK, hA, hlocks, hnm, hret, hZ, rfl, hok⟩ := C
  intro H locs ls hl hP hD hS
  exact va_bald hx hb hK hP q 2 (ovl_at i N hi) rfl hin (xat hok hT) (kk H locs ls hl hP hD hS)
theorem x_zald {G : xG} {Y : xD} {M : xM} {T : xL} {R0 : Room} {k n pc : Nat} {lv : List (Nat × Value)} {st : List Value} {ws : va_W} {os : xO} (C : xC G Y M T R0) (j : Nat) (hT : T[j]? = some (pc, .baload, 1)) (N : xN ws.length (keys os)) (i : Nat) {q a len : Nat} {f : Nat → Int32} (hi : os[i]? = some (q, (a, cZ Y len f))) {x : Int32} (hin : vp_in x len) (kk : X G Y k n (pc + 1) lv (.int (f x.toNatClampNeg) :: st) (ovl ws os)) : X G Y k n pc lv (.int x :: .ref a :: st) (ovl ws os) := by
  obtain ⟨p, l, e, R, s, m, args, below, meth, c, A, nL, Q⟩ := G
  obtain ⟨hx, hb, hml, rfl, hown, hts, hnw, hK, hA, hlocks, hnm, hret, hZ, rfl, hok⟩ := C
  intro H locs ls hl hP hD hS
  exact va_zald hx hb hK hP q 3 (ovl_at i N hi) rfl hin (xat hok hT) (kk H locs ls hl hP hD hS)
theorem x_qald {G : xG} {Y : xD} {M : xM} {T : xL} {R0 : Room} {k n pc : Nat} {lv : List (Nat × Value)} {st : List Value} {ws : va_W} {os : xO} (C : xC G Y M T R0) (j : Nat) (hT : T[j]? = some (pc, .aaload, 1)) (N : xN ws.length (keys os)) (i : Nat) {q a len : Nat} {f : Nat → Option Nat} (hi : os[i]? = some (q, (a, cQ Y len f))) {x : Int32} (hin : vp_in x len) (kk : X G Y k n (pc + 1) lv (va_rf (f x.toNatClampNeg) :: st) (ovl ws os)) : X G Y k n pc lv (.int x :: .ref a :: st) (ovl ws os) := by
  obtain ⟨p, l, e, R, s, m, args, below, meth, c, A, nL, Q⟩ := G
  obtain ⟨hx, hb, hml, rfl, hown, hts, hnw, hK, hA, hlocks, hnm, hret, hZ, rfl, hok⟩ := C
  intro H locs ls hl hP hD hS
  exact va_aldq hx hb hK hP q 4 (ovl_at i N hi) rfl hin (xat hok hT) (kk H locs ls hl hP hD hS)
theorem x_rald {G : xG} {Y : xD} {M : xM} {T : xL} {R0 : Room} {k n pc : Nat} {lv : List (Nat × Value)} {st : List Value} {ws : va_W} {os : xO} (C : xC G Y M T R0) (j : Nat) (hT : T[j]? = some (pc, .aaload, 1)) (N : xN ws.length (keys os)) (i : Nat) {q a len : Nat} {f : Nat → Option Nat} (hi : os[i]? = some (q, (a, cR Y len f))) {x : Int32} (hin : vp_in x len) (kk : X G Y k n (pc + 1) lv (va_rf (f x.toNatClampNeg) :: st) (ovl ws os)) : X G Y k n pc lv (.int x :: .ref a :: st) (ovl ws os) := by
  obtain ⟨p, l, e, R, s, m, args, below, meth, c, A, nL, Q⟩ := G
  obtain ⟨hx, hb, hml, rfl, hown, hts, hnw, hK, hA, hlocks, hnm, hret, hZ, rfl, hok⟩ := C
  intro H locs ls hl hP hD hS
  exact va_aldq hx hb hK hP q 5 (ovl_at i N hi) rfl hin (xat hok hT) (kk H locs ls hl hP hD hS)
theorem x_iast {G : xG} {Y : xD} {M : xM} {T : xL} {R0 : Room} {k n pc : Nat} {lv : List (Nat × Value)} {st : List Value} {ws : va_W} {os : xO} (C : xC G Y M T R0) (j : Nat) (hT : T[j]? = some (pc, .iastore, 1)) (N : xN ws.length (keys os)) (i : Nat) {q a len : Nat} {f : Nat → Int32} (hi : os[i]? = some (q, (a, cI Y len f))) {x : Int32} {v : Int32} (hin : vp_in x len) {os' : xO} (ho : os.set i (q, (a, cI Y len (upd f x.toNatClampNeg v))) = os') (kk : X G Y k n (pc + 1) lv st (ovl ws os')) : X G Y k n pc lv (.int v :: .int x :: .ref a :: st) (ovl ws os) := by
  obtain ⟨p, l, e, R, s, m, args, below, meth, c, A, nL, Q⟩ := G
  obtain ⟨hx, hb, hml, rfl, hown, hts, hnw, hK, hA, hlocks, hnm, hret, hZ, rfl, hok⟩ := C
  intro H locs ls hl hP hD hS
  subst ho
  rw [← ovl_set (c := (a, cI Y len f)) _ i N.1 (keys_at hi)] at kk
  exact va_iast hx hb hK hP hD hS q 0 (ovl_at i N hi) rfl hin (xat hok hT) (fun H1 locs1 hP hD hS => kk H1 locs1 ls hl hP hD hS)
theorem x_last {G : xG} {Y : xD} {M : xM} {T : xL} {R0 : Room} {k n pc : Nat} {lv : List (Nat × Value)} {st : List Value} {ws : va_W} {os : xO} (C : xC G Y M T R0) (j : Nat) (hT : T[j]? = some (pc, .lastore, 1)) (N : xN ws.length (keys os)) (i : Nat) {q a len : Nat} {f : Nat → Int64} (hi : os[i]? = some (q, (a, cJ Y len f))) {x : Int32} {v : Int64} (hin : vp_in x len) {os' : xO} (ho : os.set i (q, (a, cJ Y len (vp_updL f x.toNatClampNeg v))) = os') (kk : X G Y k n (pc + 1) lv st (ovl ws os')) : X G Y k n pc lv (.long v :: .int x :: .ref a :: st) (ovl ws os) := by
  obtain ⟨p, l, e, R, s, m, args, below, meth, c, A, nL, Q⟩ := G
  obtain ⟨hx, hb, hml, rfl, hown, hts, hnw, hK, hA, hlocks, hnm, hret, hZ, rfl, hok⟩ := C
  intro H locs ls hl hP hD hS
  subst ho
  rw [← ovl_set (c := (a, cJ Y len f)) _ i N.1 (keys_at hi)] at kk
  exact va_last hx hb hK hP hD hS q 1 (ovl_at i N hi) rfl hin (xat hok hT) (fun H1 locs1 hP hD hS => kk H1 locs1 ls hl hP hD hS)
theorem x_bast {G : xG} {Y : xD} {M : xM} {T : xL} {R0 : Room} {k n pc : Nat} {lv : List (Nat × Value)} {st : List Value} {ws : va_W} {os : xO} (C : xC G Y M T R0) (j : Nat) (hT : T[j]? = some (pc, .bastore, 1)) (N : xN ws.length (keys os)) (i : Nat) {q a len : Nat} {f : Nat → Int32} (hi : os[i]? = some (q, (a, cB Y len f))) {x : Int32} {v : Int32} (hin : vp_in x len) {os' : xO} (ho : os.set i (q, (a, cB Y len (upd f x.toNatClampNeg (vp_nar .byte v)))) = os') (kk : X G Y k n (pc + 1) lv st (ovl ws os')) : X G Y k n pc lv (.int v :: .int x :: .ref a :: st) (ovl ws os) := by
  obtain ⟨p, l, e, R, s, m, args, below, meth, c, A, nL, Q⟩ := G
  obtain ⟨hx, hb, hml, rfl, hown, hts, hnw, hK, hA, hlocks, hnm, hret, hZ, rfl, hok⟩ := C
  intro H locs ls hl hP hD hS
  subst ho
  rw [← ovl_set (c := (a, cB Y len f)) _ i N.1 (keys_at hi)] at kk
  exact va_bast hx hb hK hP hD hS q 2 (ovl_at i N hi) rfl hin (xat hok hT) (fun H1 locs1 hP hD hS => kk H1 locs1 ls hl hP hD hS)
theorem x_zast {G : xG} {Y : xD} {M : xM} {T : xL} {R0 : Room} {k n pc : Nat} {lv : List (Nat × Value)} {st : List Value} {ws : va_W} {os : xO} (C : xC G Y M T R0) (j : Nat) (hT : T[j]? = some (pc, .bastore, 1)) (N : xN ws.length (keys os)) (i : Nat) {q a len : Nat} {f : Nat → Int32} (hi : os[i]? = some (q, (a, cZ Y len f))) {x : Int32} {v : Int32} (hin : vp_in x len) {os' : xO} (ho : os.set i (q, (a, cZ Y len (upd f x.toNatClampNeg (vp_nar .boolean v)))) = os') (kk : X G Y k n (pc + 1) lv st (ovl ws os')) : X G Y k n pc lv (.int v :: .int x :: .ref a :: st) (ovl ws os) := by
  obtain ⟨p, l, e, R, s, m, args, below, meth, c, A, nL, Q⟩ := G
  obtain ⟨hx, hb, hml, rfl, hown, hts, hnw, hK, hA, hlocks, hnm, hret, hZ, rfl, hok⟩ := C
  intro H locs ls hl hP hD hS
  subst ho
  rw [← ovl_set (c := (a, cZ Y len f)) _ i N.1 (keys_at hi)] at kk
  exact va_zast hx hb hK hP hD hS q 3 (ovl_at i N hi) rfl hin (xat hok hT) (fun H1 locs1 hP hD hS => kk H1 locs1 ls hl hP hD hS)
theorem x_qast {G : xG} {Y : xD} {M : xM} {T : xL} {R0 : Room} {k n pc : Nat} {lv : List (Nat × Value)} {st : List Value} {ws : va_W} {os : xO} (C : xC G Y M T R0) (j : Nat) (hT : T[j]? = some (pc, .aastore, 1)) (N : xN ws.length (keys os)) (i : Nat) {q a len : Nat} {f : Nat → Option Nat} (hi : os[i]? = some (q, (a, cQ Y len f))) (i2 : Nat) {q2 v : Nat} {vs : List Value} (hi2 : os[i2]? = some (q2, (v, .inr (1, vs)))) {x : Int32} (hin : vp_in x len) {os' : xO} (ho : os.set i (q, (a, cQ Y len (va_up f x.toNatClampNeg (some v)))) = os') (kk : X G Y k n (pc + 1) lv st (ovl ws os')) : X G Y k n pc lv (.ref v :: .int x :: .ref a :: st) (ovl ws os) := by
  obtain ⟨p, l, e, R, s, m, args, below, meth, c, A, nL, Q⟩ := G
  obtain ⟨hx, hb, hml, rfl, hown, hts, hnw, hK, hA, hlocks, hnm, hret, hZ, rfl, hok⟩ := C
  intro H locs ls hl hP hD hS
  subst ho
  rw [← ovl_set (c := (a, cQ Y len f)) _ i N.1 (keys_at hi)] at kk
  exact va_astq hx hb hK hP hD hS q 4 q2 1 (ovl_at i N hi) rfl (ovl_at i2 N hi2) rfl hin (xat hok hT) (fun H1 locs1 hP hD hS => kk H1 locs1 ls hl hP hD hS)
theorem x_rast {G : xG} {Y : xD} {M : xM} {T : xL} {R0 : Room} {k n pc : Nat} {lv : List (Nat × Value)} {st : List Value} {ws : va_W} {os : xO} (C : xC G Y M T R0) (j : Nat) (hT : T[j]? = some (pc, .aastore, 1)) (N : xN ws.length (keys os)) (i : Nat) {q a len : Nat} {f : Nat → Option Nat} (hi : os[i]? = some (q, (a, cR Y len f))) (i2 : Nat) {q2 v : Nat} {vs : List Value} (hi2 : os[i2]? = some (q2, (v, .inr (3, vs)))) {x : Int32} (hin : vp_in x len) {os' : xO} (ho : os.set i (q, (a, cR Y len (va_up f x.toNatClampNeg (some v)))) = os') (kk : X G Y k n (pc + 1) lv st (ovl ws os')) : X G Y k n pc lv (.ref v :: .int x :: .ref a :: st) (ovl ws os) := by
  obtain ⟨p, l, e, R, s, m, args, below, meth, c, A, nL, Q⟩ := G
  obtain ⟨hx, hb, hml, rfl, hown, hts, hnw, hK, hA, hlocks, hnm, hret, hZ, rfl, hok⟩ := C
  intro H locs ls hl hP hD hS
  subst ho
  rw [← ovl_set (c := (a, cR Y len f)) _ i N.1 (keys_at hi)] at kk
  exact va_astq hx hb hK hP hD hS q 5 q2 3 (ovl_at i N hi) rfl (ovl_at i2 N hi2) rfl hin (xat hok hT) (fun H1 locs1 hP hD hS => kk H1 locs1 ls hl hP hD hS)
theorem x_gets {G : xG} {Y : xD} {M : xM} {T : xL} {R0 : Room} {k n pc : Nat} {lv : List (Nat × Value)} {st : List Value} {w : va_W} (C : xC G Y M T R0) (j : Nat) {idx : Nat} (hT : T[j]? = some (pc, .getstatic idx, 3)) (hl0 : Cond.fieldLink M.1.cls idx RX0 "COLUMN_OF" "[I" ∈ xtbl) (kk : X G Y k n (pc + 3) lv (.ref Y.2.2 :: st) w) : X G Y k n pc lv st w := by
  obtain ⟨p, l, e, R, s, m, args, below, meth, c, A, nL, Q⟩ := G
  obtain ⟨hx, hb, hml, rfl, hown, hts, hnw, hK, hA, hlocks, hnm, hret, hZ, rfl, hok⟩ := C
  intro H locs ls hl hP hD hS
  exact va_gets hx hb hZ.1 hS hown (hts _ hl0) (fun _ h9 => h9) (xat hok hT) (kk H locs ls hl hP hD hS)
theorem x_col {G : xG} {Y : xD} {M : xM} {T : xL} {R0 : Room} {k n pc : Nat} {lv : List (Nat × Value)} {st : List Value} {w : va_W} (C : xC G Y M T R0) (j : Nat) (hT : T[j]? = some (pc, .iaload, 1)) {x : Int32} (hin : vp_in x 256) (kk : X G Y k n (pc + 1) lv (.int (xcol x.toNatClampNeg) :: st) w) : X G Y k n pc lv (.int x :: .ref Y.2.2 :: st) w := by
  obtain ⟨p, l, e, R, s, m, args, below, meth, c, A, nL, Q⟩ := G
  obtain ⟨hx, hb, hml, rfl, hown, hts, hnw, hK, hA, hlocks, hnm, hret, hZ, rfl, hok⟩ := C
  intro H locs ls hl hP hD hS
  obtain ⟨cell, h1, h2, h3, h4, h5, h6, h7⟩ := hZ.2
  have hlt : x.toNatClampNeg < 256 := Nat.not_le.mp fun q => hin (Or.inr q)
  refine W.iald (v := .int (xcol x.toNatClampNeg)) hx hb (by rw [hS.2.1 _ (Array.getElem?_eq_some_iff.mp h1).1 h7]; exact h1) h2 h3 (fun z => hin (z.elim Or.inl (fun z => Or.inr (Nat.le_trans h4 z)))) (h6 _ hlt) rfl rfl (xat hok hT) (kk H locs ls hl hP hD hS)
/-! ===== calls ===== -/
theorem xGood {ws : List Cond} (h : ∀ w ∈ ws, w ∈ xtbl) : GoodIn xtbl ws := fun w hw => ⟨h w hw, good_of_word (List.mem_filter.mp (h w hw)).2⟩
def xU (M2 : xM) : Prop := Cond.code M2.1 M2.2.1 M2.2.2.1 M2.2.2.2 ∈ xtbl
theorem xU.ws {M2 : xM} (h : xU M2) : ∀ w ∈ xwg M2, w ∈ xtbl := fun w hw => (List.mem_cons.mp hw).elim (fun e => e ▸ h) id
def xV (own : String) (idx : Nat) (M2 : xM) (na : Nat) : Prop := xU M2 ∧ Cond.methodLink own idx M2.1 ∈ xtbl ∧ Cond.instanceMethod M2.1 ∈ xtbl ∧ Cond.selects M2.1.cls M2.1 M2.1 ∈ xtbl ∧ Cond.initialized M2.1.cls ∈ xtbl ∧ (M2.1.cls ≠ "java/lang/invoke/MethodHandle" ∧ M2.1.cls ≠ "java/lang/invoke/VarHandle" ∧ (parseMethodDescriptor M2.1.desc).map (fun d => d.parameters.length) = some na)
def xVS (own : String) (idx : Nat) (M2 : xM) (na : Nat) : Prop := xU M2 ∧ Cond.methodLink own idx M2.1 ∈ xtbl ∧ Cond.static M2.1 ∈ xtbl ∧ Cond.initialized M2.1.cls ∈ xtbl ∧ (M2.1.cls ≠ "java/lang/invoke/MethodHandle" ∧ M2.1.cls ≠ "java/lang/invoke/VarHandle" ∧ (parseMethodDescriptor M2.1.desc).map (fun d => d.parameters.length) = some na)
def xVI (own : String) (idx : Nat) (M2 : xM) (na : Nat) : Prop := xU M2 ∧ (Cond.methodLink own idx M2.1 ∈ xtbl ∨ ∃ host, Cond.methodLinkNest own idx M2.1 host ∈ xnw) ∧ Cond.instanceMethod M2.1 ∈ xtbl ∧ Cond.initialized M2.1.cls ∈ xtbl ∧ M2.1.name = "<init>" ∧ M2.2.2.2 = none ∧ (M2.1.cls ≠ "java/lang/invoke/MethodHandle" ∧ M2.1.cls ≠ "java/lang/invoke/VarHandle" ∧ (parseMethodDescriptor M2.1.desc).map (fun d => d.parameters.length) = some na)
theorem xnw_same {u U : State} (h : u.vm = U.vm) {x : Cond} (hx : x ∈ xnw) (hb : x.before #[] u = true) : x.before #[] U = true := by
  have hi := (List.mem_filter.mp hx).2
  unfold xisn at hi
  split at hi
  · exact va_tabs rfl h hb
  · exact va_tabs rfl h hb
  · exact va_AO.moved (by rw [h]; exact Vm.Alike.refl U.vm) hb
  · cases hi
theorem xnw_warm {s U : State} (hW : s.WarmedH U.vm) {x : Cond} (hx : x ∈ xnw) (hb : x.before #[] s = true) : x.before #[] U = true := by
  have hi := (List.mem_filter.mp hx).2
  unfold xisn at hi
  split at hi
  · exact va_Nw.warmF hW hb
  · exact va_Nw.warmM hW hb
  · exact va_AO.moved hW.alike hb
  · cases hi
theorem xPre_blind {Y : xD} {w : va_W} {sz : Nat} {av : List Value} : FrameBlind (va_Pc av (xPre Y w sz)) := fun a U g mk q => by
  obtain ⟨q0, q1, qP, qK, qD, qZ, qN⟩ := q
  exact ⟨q0, q1, qP, va_K.moved (u := U) (U := U.calling g mk a) (Vm.Alike.refl U.vm) qK, qD, xZ.moved (u := U) (U := U.calling g mk a) (Vm.Alike.refl U.vm) qZ, fun x hx => xnw_same (u := U) (U := U.calling g mk a) rfl hx (qN x hx)⟩
theorem xfree {A0 : Nat → Prop} {w : va_W} {H0 H : Heap} {locs : List Loc} (hD : va_D A0 w) (hS : va_S A0 H0 H locs) (hA : ∀ q, H0.size ≤ q → A0 q) : ∀ q, va_A w H.size q → A0 q := by
  intro q h
  rcases h with ⟨k, e, h⟩ | h
  · exact hD.2 k (q, e) h
  · exact hA q (Nat.le_trans hS.1 h)
theorem xafter {p : Program} {l : Launch} {e : Env} {R : Room} {s : State} {m : MethodId} {args : Array Value} {below : List Frame} {meth : Method} {c : Code} {H : Heap} {locs : List Loc} {cells slots : Nat} {Q : State → Prop} {pc : Nat} {ls : Array Slot} {rest st0 : List Value} {a : Array Value} {A0 : Nat → Prop} {mc ms : Nat} {Y : xD} {w : va_W} {Post : Option Value → va_W → Prop}
    (hr : va_Run p l e R s m args below meth c H locs cells slots mc ms (F0 m pc ls st0) rest (xQ Y w H.size Post a) (va_A w H.size)) (hD : va_D A0 w) (hS : va_S A0 s.heap H locs) (hA : ∀ q, s.heap.size ≤ q → A0 q)
    (kk : ∀ (v : Option Value) (w' : va_W) (H1 : Heap) (locs1 : List Loc), Post v w' → va_P Y.1 vwCl w' H1 → va_D A0 w' → va_S A0 s.heap H1 locs1 → W p l e R s m args below meth c H1 locs1 (cells + mc) (slots + ms) Q (F0 m (pc + 3) ls (v.toList ++ rest))) : W p l e R s m args below meth c H locs cells slots Q (F0 m pc ls st0) := by
  intro T hT X
  have hf := xfree hD hS hA
  obtain ⟨v, st₀, t, T', L, h0, X', hL, e1, e2, ⟨⟨r, w', hv, hp, hPw, hDw⟩, hz, hk⟩, st⟩ := hr T hT X
  cases hv
  rw [h0] at hz hk
  rw [← e1] at hPw hz hk
  obtain ⟨t2, a1, b1⟩ := kk v w' T'.heap (locs ++ L) hp hPw (hDw.weaken (fun _ _ _ h => hf _ h))
    ⟨Nat.le_trans hS.1 hz, fun q h1 h2 => by rw [hk q (Nat.lt_of_lt_of_le h1 hS.1) (fun z => h2 (hf q z))]; exact hS.2.1 q h1 h2, fun q hq => by
      rcases List.mem_append.mp hq with h | h
      · exact hS.2.2 q h
      · exact hf _ (hL q h)⟩ T' rfl X'
  exact ⟨t2, st t2 a1, b1⟩
theorem x_callV {G : xG} {Y : xD} {M : xM} {T : xL} {R0 : Room} {k n pc : Nat} {lv : List (Nat × Value)} {st : List Value} {w : va_W} (C : xC G Y M T R0) (j : Nat) {idx na d mc ms : Nat} {M2 : xM} {As rest : List Value} {Post : Option Value → va_W → Prop} (hT : T[j]? = some (pc, .invokevirtual idx, 3)) (hV : xV M.1.cls idx M2 na) {b p0 ci : Nat} {fs : List Value} (hb0 : w[p0]? = some (b, .inr (ci, fs))) (hci : (vwCl[ci]?).map (fun q => q.1) = some M2.1.cls) (hct : Ct Y M2 d mc ms (.ref b :: As) w Post) (hst : st = As.reverse ++ .ref b :: rest) (hn : As.length = na) (hW : (rest.map fun v => v.category).sum ≤ 8) (hR : d + 1 ≤ R0.frames ∧ 8 + (M2.2.2.1 + 11) + 38 * d ≤ R0.locals) (hf : k + mc ≤ R0.cells ∧ n + ms ≤ R0.slots) (kk : ∀ (v : Option Value) (w' : va_W), Post v w' → X G Y (k + mc) (n + ms) (pc + 3) lv (v.toList ++ rest) w') : X G Y k n pc lv st w := by
  obtain ⟨p, l, e, R, s, m, args, below, meth, c, A, nL, Q⟩ := G
  obtain ⟨hx, hb, hml, rfl, hown, hts, hnw, hK, hA, hlocks, hnm, hret, hZ, rfl, hok⟩ := C
  intro H locs ls hl hP hD hS
  subst hst
  have hF := xfree hD hS hA
  have hpre : ∀ U : State, U.heap = H → s.WarmedH U.vm → va_Pc (.ref b :: As) (xPre Y w H.size) (.ref b :: As).toArray U := fun U hU hW => ⟨rfl, by rw [hU], by rw [hU]; exact hP, va_K.moved hW.alike hK, hD.weaken (fun _ _ _ _ => trivial), by
    rw [hU]
    exact xZ.moved hW.alike ((hZ.kept (fun a h1 h2 => hS.2.1 a h1 h2)).narrow hF), fun x hx => xnw_warm hW hx (hnw x hx)⟩
  obtain ⟨hu, h1, h2, h3, h4, h5⟩ := hV
  obtain ⟨q, hq⟩ : ∃ q, vwCl[ci]? = some q := by
    cases hq : vwCl[ci]? with
    | none => rw [hq] at hci; cases hci
    | some q => exact ⟨q, rfl⟩
  have hqc : q.1 = M2.1.cls := by rw [hq] at hci; exact Option.some.inj hci
  have hrecv := va_recv hK hP hq hb0
  rw [hqc] at hrecv
  refine xafter (va_runV (As := As) (rest := rest) ⟨hx, hb, hml, hown, hts⟩ (hct l H.size) (cwV na hts (xGood (fun x hx => ?_)) rfl rfl rfl ⟨rfl, h5⟩ hR) ⟨xPre_blind, hrecv, hpre⟩ rfl hn hl.1 rfl (lv_room hW) (xat hok hT) hf) hD hS hA (fun v w' H1 locs1 hp hP hD hS => kk v w' hp H1 locs1 ls hl hP hD hS)
  unfold wsV at hx
  rcases List.mem_append.mp hx with hx | hx
  · simp only [List.mem_cons, List.not_mem_nil, or_false] at hx
    rcases hx with rfl | rfl | rfl | rfl
    · exact h1
    · exact h2
    · exact h3
    · exact h4
  · exact hu.ws x hx
theorem x_callS {G : xG} {Y : xD} {M : xM} {T : xL} {R0 : Room} {k n pc : Nat} {lv : List (Nat × Value)} {st : List Value} {w : va_W} (C : xC G Y M T R0) (j : Nat) {idx na d mc ms : Nat} {M2 : xM} {As rest : List Value} {Post : Option Value → va_W → Prop} (hT : T[j]? = some (pc, .invokestatic idx, 3)) (hV : xVS M.1.cls idx M2 na) (hct : Ct Y M2 d mc ms (As) w Post) (hst : st = As.reverse ++ rest) (hn : As.length = na) (hW : (rest.map fun v => v.category).sum ≤ 8) (hR : d + 1 ≤ R0.frames ∧ 8 + (M2.2.2.1 + 11) + 38 * d ≤ R0.locals) (hf : k + mc ≤ R0.cells ∧ n + ms ≤ R0.slots) (kk : ∀ (v : Option Value) (w' : va_W), Post v w' → X G Y (k + mc) (n + ms) (pc + 3) lv (v.toList ++ rest) w') : X G Y k n pc lv st w := by
  obtain ⟨p, l, e, R, s, m, args, below, meth, c, A, nL, Q⟩ := G
  obtain ⟨hx, hb, hml, rfl, hown, hts, hnw, hK, hA, hlocks, hnm, hret, hZ, rfl, hok⟩ := C
  intro H locs ls hl hP hD hS
  subst hst
  have hF := xfree hD hS hA
  have hpre : ∀ U : State, U.heap = H → s.WarmedH U.vm → va_Pc (As) (xPre Y w H.size) (As).toArray U := fun U hU hW => ⟨rfl, by rw [hU], by rw [hU]; exact hP, va_K.moved hW.alike hK, hD.weaken (fun _ _ _ _ => trivial), by
    rw [hU]
    exact xZ.moved hW.alike ((hZ.kept (fun a h1 h2 => hS.2.1 a h1 h2)).narrow hF), fun x hx => xnw_warm hW hx (hnw x hx)⟩
  obtain ⟨hu, h1, h2, h4, h5⟩ := hV
  refine xafter (va_runS (As := As) (rest := rest) ⟨hx, hb, hml, hown, hts⟩ (hct l H.size) (va_cwS na hts (xGood (fun x hx => ?_)) rfl rfl rfl h5 hR) ⟨xPre_blind, hpre⟩ rfl hn hl.1 rfl (lv_room hW) (xat hok hT) hf) hD hS hA (fun v w' H1 locs1 hp hP hD hS => kk v w' hp H1 locs1 ls hl hP hD hS)
  unfold va_wsS at hx
  rcases List.mem_append.mp hx with hx | hx
  · simp only [List.mem_cons, List.not_mem_nil, or_false] at hx
    rcases hx with rfl | rfl | rfl
    · exact h1
    · exact h2
    · exact h4
  · exact hu.ws x hx
theorem x_callI {G : xG} {Y : xD} {M : xM} {T : xL} {R0 : Room} {k n pc : Nat} {lv : List (Nat × Value)} {st : List Value} {w : va_W} (C : xC G Y M T R0) (j : Nat) {idx na d mc ms : Nat} {M2 : xM} {As rest : List Value} {Post : Option Value → va_W → Prop} (hT : T[j]? = some (pc, .invokespecial idx, 3)) (hV : xVI M.1.cls idx M2 na) {b : Nat} (hct : Ct Y M2 d mc ms (.ref b :: As) w Post) (hst : st = As.reverse ++ .ref b :: rest) (hn : As.length = na) (hW : (rest.map fun v => v.category).sum ≤ 8) (hR : d + 1 ≤ R0.frames ∧ 8 + (M2.2.2.1 + 11) + 38 * d ≤ R0.locals) (hf : k + mc ≤ R0.cells ∧ n + ms ≤ R0.slots) (kk : ∀ (v : Option Value) (w' : va_W), Post v w' → X G Y (k + mc) (n + ms) (pc + 3) lv (v.toList ++ rest) w') : X G Y k n pc lv st w := by
  obtain ⟨p, l, e, R, s, m, args, below, meth, c, A, nL, Q⟩ := G
  obtain ⟨hx, hb, hml, rfl, hown, hts, hnw, hK, hA, hlocks, hnm, hret, hZ, rfl, hok⟩ := C
  intro H locs ls hl hP hD hS
  subst hst
  have hF := xfree hD hS hA
  have hpre : ∀ U : State, U.heap = H → s.WarmedH U.vm → va_Pc (.ref b :: As) (xPre Y w H.size) (.ref b :: As).toArray U := fun U hU hW => ⟨rfl, by rw [hU], by rw [hU]; exact hP, va_K.moved hW.alike hK, hD.weaken (fun _ _ _ _ => trivial), by
    rw [hU]
    exact xZ.moved hW.alike ((hZ.kept (fun a h1 h2 => hS.2.1 a h1 h2)).narrow hF), fun x hx => xnw_warm hW hx (hnw x hx)⟩
  obtain ⟨hu, h1, h2, h4, h6, h7, h5⟩ := hV
  have hws : xwg M2 = Cond.code M2.1 M2.2.1 M2.2.2.1 none :: xtbl := by rw [xwg, h7]
  rcases h1 with h1 | ⟨host, h1⟩
  · exact xafter (va_runI (As := As) (rest := rest) ⟨hx, hb, hml, hown, hts⟩ (hct l H.size) (cwI na hts (xGood hu.ws) hws rfl rfl (hts _ h4) (hts _ h1) (hts _ h2) h6 h5 hR) ⟨xPre_blind, hpre⟩ rfl hn hl.1 rfl (lv_room hW) (xat hok hT) hf) hD hS hA (fun v w' H1 locs1 hp hP hD hS => kk v w' hp H1 locs1 ls hl hP hD hS)
  · exact xafter (va_runIN (As := As) (rest := rest) ⟨hx, hb, hml, hown, hts⟩ (hct l H.size) ⟨va_cnB na hts (xGood hu.ws) hws rfl rfl (hnw _ h1) (hts _ h4) h5 hR, h6, hts _ h2⟩ ⟨xPre_blind, hpre⟩ rfl hn hl.1 rfl (lv_room hW) (xat hok hT) hf) hD hS hA (fun v w' H1 locs1 hp hP hD hS => kk v w' hp H1 locs1 ls hl hP hD hS)
/-- a contract whose answer and whose new cells are told -/
def Cf (Y : xD) (M : xM) (d : Nat) (av : List Value) (w : va_W) (r : Option Value) (oc : xO) : Prop := Ct Y M d 0 0 av w (fun v w' => v = r ∧ w' = ovl w oc)
theorem x_cv {G : xG} {Y : xD} {M : xM} {T : xL} {R0 : Room} {k n pc : Nat} {lv : List (Nat × Value)} {st : List Value} {ws : va_W} {os : xO} (C : xC G Y M T R0) (j : Nat) {idx na d : Nat} {M2 : xM} {As rest st' : List Value} {r : Option Value} {oc os' : xO} (hT : T[j]? = some (pc, .invokevirtual idx, 3)) (hV : xV M.1.cls idx M2 na) (N : xN ws.length (keys os)) (i : Nat) {q b ci : Nat} {fs : List Value} (hi : os[i]? = some (q, (b, .inr (ci, fs)))) (hci : (vwCl[ci]?).map (fun q => q.1) = some M2.1.cls) (hct : Cf Y M2 d (.ref b :: As) (ovl ws os) r oc) (hst : st = As.reverse ++ .ref b :: rest) (hn : As.length = na) (hW : (rest.map fun v => v.category).sum ≤ 8) (hR : d + 1 ≤ R0.frames ∧ 8 + (M2.2.2.1 + 11) + 38 * d ≤ R0.locals) (hf : k ≤ R0.cells ∧ n ≤ R0.slots) (is : List Nat) (hm : xmk (keys os) is oc) (ho : xmer os is oc = os') (hs : r.toList ++ rest = st') (kk : X G Y k n (pc + 3) lv st' (ovl ws os')) : X G Y k n pc lv st (ovl ws os) := by
  refine x_callV C j hT hV (ovl_at i N hi) hci hct hst hn hW hR hf (fun v w' hp => ?_)
  obtain ⟨rfl, rfl⟩ := hp
  subst ho
  subst hs
  rw [ovl_mer N.1 hm]
  exact kk
theorem x_cs {G : xG} {Y : xD} {M : xM} {T : xL} {R0 : Room} {k n pc : Nat} {lv : List (Nat × Value)} {st : List Value} {ws : va_W} {os : xO} (C : xC G Y M T R0) (j : Nat) {idx na d : Nat} {M2 : xM} {As rest st' : List Value} {r : Option Value} {oc os' : xO} (hT : T[j]? = some (pc, .invokestatic idx, 3)) (hV : xVS M.1.cls idx M2 na) (N : xN ws.length (keys os)) (hct : Cf Y M2 d (As) (ovl ws os) r oc) (hst : st = As.reverse ++ rest) (hn : As.length = na) (hW : (rest.map fun v => v.category).sum ≤ 8) (hR : d + 1 ≤ R0.frames ∧ 8 + (M2.2.2.1 + 11) + 38 * d ≤ R0.locals) (hf : k ≤ R0.cells ∧ n ≤ R0.slots) (is : List Nat) (hm : xmk (keys os) is oc) (ho : xmer os is oc = os') (hs : r.toList ++ rest = st') (kk : X G Y k n (pc + 3) lv st' (ovl ws os')) : X G Y k n pc lv st (ovl ws os) := by
  refine x_callS C j hT hV hct hst hn hW hR hf (fun v w' hp => ?_)
  obtain ⟨rfl, rfl⟩ := hp
  subst ho
  subst hs
  rw [ovl_mer N.1 hm]
  exact kk
theorem x_ci {G : xG} {Y : xD} {M : xM} {T : xL} {R0 : Room} {k n pc : Nat} {lv : List (Nat × Value)} {st : List Value} {ws : va_W} {os : xO} (C : xC G Y M T R0) (j : Nat) {idx na d : Nat} {M2 : xM} {As rest st' : List Value} {r : Option Value} {oc os' : xO} (hT : T[j]? = some (pc, .invokespecial idx, 3)) (hV : xVI M.1.cls idx M2 na) (N : xN ws.length (keys os)) {b : Nat} (hct : Cf Y M2 d (.ref b :: As) (ovl ws os) r oc) (hst : st = As.reverse ++ .ref b :: rest) (hn : As.length = na) (hW : (rest.map fun v => v.category).sum ≤ 8) (hR : d + 1 ≤ R0.frames ∧ 8 + (M2.2.2.1 + 11) + 38 * d ≤ R0.locals) (hf : k ≤ R0.cells ∧ n ≤ R0.slots) (is : List Nat) (hm : xmk (keys os) is oc) (ho : xmer os is oc = os') (hs : r.toList ++ rest = st') (kk : X G Y k n (pc + 3) lv st' (ovl ws os')) : X G Y k n pc lv st (ovl ws os) := by
  refine x_callI C j hT hV hct hst hn hW hR hf (fun v w' hp => ?_)
  obtain ⟨rfl, rfl⟩ := hp
  subst ho
  subst hs
  rw [ovl_mer N.1 hm]
  exact kk
