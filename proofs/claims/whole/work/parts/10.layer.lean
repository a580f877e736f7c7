/-! ===== words for Java's operators; rows by numbers ===== -/
abbrev jshl (x y : Int32) : Int32 := x <<< (y &&& 31)
abbrev jshr (x y : Int32) : Int32 := x >>> (y &&& 31)
abbrev jushr (x y : Int32) : Int32 := (x.toUInt32 >>> (y.toUInt32 &&& Int32.toUInt32 31)).toInt32
abbrev jlshl (x : Int64) (y : Int32) : Int64 := x <<< (y.toInt64 &&& 63)
abbrev jlshr (x : Int64) (y : Int32) : Int64 := x >>> (y.toInt64 &&& 63)
abbrev jlushr (x : Int64) (y : Int32) : Int64 := (x.toUInt64 >>> (y.toInt64.toUInt64 &&& Int64.toUInt64 63)).toInt64
theorem nlit (k : Nat) : (OfNat.ofNat k : Int32) = nI k := rfl
abbrev jrem (x y : Int32) : Int32 := x - x / y * y
theorem x_st {G : xG} {Y : xD} {k n pc : Nat} {lv : List (Nat × Value)} {st : List Value} {w : va_W} {st' : List Value} (h : st = st') (kk : X G Y k n pc lv st' w) : X G Y k n pc lv st w := h ▸ kk
theorem x_ov {G : xG} {Y : xD} {k n pc : Nat} {lv : List (Nat × Value)} {st : List Value} {ws : va_W} {os : xO} {os' : xO} (h : os = os') (kk : X G Y k n pc lv st (ovl ws os')) : X G Y k n pc lv st (ovl ws os) := h ▸ kk
theorem x_loc {G : xG} {Y : xD} {k n pc : Nat} {lv : List (Nat × Value)} {st : List Value} {w : va_W} {lv' : List (Nat × Value)} (h : lv = lv') (kk : X G Y k n pc lv' st w) : X G Y k n pc lv st w := h ▸ kk
theorem x_sub {G : xG} {Y : xD} {k n pc : Nat} {lv : List (Nat × Value)} {st : List Value} {w : va_W} {lv' : List (Nat × Value)} (ks : List Nat) (h : lv_pick lv ks = lv') (kk : X G Y k n pc lv' st w) : X G Y k n pc lv st w := by
  obtain ⟨p, l, e, R, s, m, args, below, meth, c, A, nL, Q⟩ := G
  intro H locs ls hl hP hD hS
  exact kk H locs ls (lv_sub hl ks h) hP hD hS
theorem x_wid {G : xG} {Y : xD} {k n pc : Nat} {lv : List (Nat × Value)} {st : List Value} {w : va_W} {k' n' : Nat} (h1 : k ≤ k') (h2 : n ≤ n') (kk : X G Y k' n' pc lv st w) : X G Y k n pc lv st w := by
  obtain ⟨p, l, e, R, s, m, args, below, meth, c, A, nL, Q⟩ := G
  intro H locs ls hl hP hD hS
  exact W.widen h1 h2 (kk H locs ls hl hP hD hS)
theorem x_lay {G : xG} {Y : xD} {k n pc : Nat} {lv : List (Nat × Value)} {st : List Value} {w : va_W} (os : xO) (E : ∀ (i : Nat) (o : Nat × (Nat × va_E)), os[i]? = some o → w[o.1]? = some o.2) (kk : X G Y k n pc lv st (ovl w os)) : X G Y k n pc lv st w := by
  rw [ovl_id E] at kk
  exact kk
theorem xN.ov {ws : va_W} {os : xO} {l' : List Nat} (h : xN ws.length (keys os)) (is : List Nat) (hn : va_nd is = true) (hs : is.map (fun i => (keys os)[i]?) = l'.map some) : xN (ovl ws os).length l' := by
  rw [ovl_len]
  exact h.sub is hn hs
theorem lay_nil {w : va_W} : ∀ (i : Nat) (o : Nat × (Nat × va_E)), ([] : xO)[i]? = some o → w[o.1]? = some o.2 := fun i o h => by simp at h
theorem lay_cons {w : va_W} {q : Nat} {c : Nat × va_E} {os : xO} (h : w[q]? = some c) (hr : ∀ (i : Nat) (o : Nat × (Nat × va_E)), os[i]? = some o → w[o.1]? = some o.2) : ∀ (i : Nat) (o : Nat × (Nat × va_E)), ((q, c) :: os)[i]? = some o → w[o.1]? = some o.2 := fun i o ho => by
  cases i with
  | zero => cases ho; exact h
  | succ i => exact hr i o ho
theorem xN_nil (m : Nat) : xN m [] := ⟨fun i j x h => by simp at h, fun i x h => by simp at h⟩
theorem xN_one {w : va_W} {q : Nat} {c : Nat × va_E} (h : w[q]? = some c) : xN w.length [q] := ⟨fun i j x h1 h2 => by
  cases i with
  | zero => cases j with
    | zero => rfl
    | succ j => simp at h2
  | succ i => simp at h1, fun i x hx => by
  cases i with
  | zero => cases hx; exact (List.getElem?_eq_some_iff.mp h).1
  | succ i => simp at hx⟩
/-- up from i to e -/
theorem x_up (P : Nat → Prop) (e : Nat) (he : P e) (hs : ∀ i, i < e → P (i + 1) → P i) : ∀ i, i ≤ e → P i := by
  intro i hi
  induction h : e - i generalizing i with
  | zero => rw [show i = e by omega]; exact he
  | succ d ih => exact hs i (by omega) (ih (i + 1) (by omega) (by omega))
theorem x_ialdN {G : xG} {Y : xD} {M : xM} {T : xL} {R0 : Room} {k n pc : Nat} {lv : List (Nat × Value)} {st : List Value} {ws : va_W} {os : xO} (C : xC G Y M T R0) (j : Nat) (hT : T[j]? = some (pc, .iaload, 1)) (N : xN ws.length (keys os)) (i : Nat) {q a len x : Nat} {f : Nat → Int32} (hi : os[i]? = some (q, (a, cI Y len f))) (hin : x < len) (hl : len < 2 ^ 31) (kk : X G Y k n (pc + 1) lv (.int (f x) :: st) (ovl ws os)) : X G Y k n pc lv (.int (nI x) :: .ref a :: st) (ovl ws os) := by
  refine x_iald C j hT N i hi (vp_in_nI hin hl) ?_
  rw [nI_clamp (Nat.lt_trans hin hl)]
  exact kk
theorem x_laldN {G : xG} {Y : xD} {M : xM} {T : xL} {R0 : Room} {k n pc : Nat} {lv : List (Nat × Value)} {st : List Value} {ws : va_W} {os : xO} (C : xC G Y M T R0) (j : Nat) (hT : T[j]? = some (pc, .laload, 1)) (N : xN ws.length (keys os)) (i : Nat) {q a len x : Nat} {f : Nat → Int64} (hi : os[i]? = some (q, (a, cJ Y len f))) (hin : x < len) (hl : len < 2 ^ 31) (kk : X G Y k n (pc + 1) lv (.long (f x) :: st) (ovl ws os)) : X G Y k n pc lv (.int (nI x) :: .ref a :: st) (ovl ws os) := by
  refine x_lald C j hT N i hi (vp_in_nI hin hl) ?_
  rw [nI_clamp (Nat.lt_trans hin hl)]
  exact kk
theorem x_baldN {G : xG} {Y : xD} {M : xM} {T : xL} {R0 : Room} {k n pc : Nat} {lv : List (Nat × Value)} {st : List Value} {ws : va_W} {os : xO} (C : xC G Y M T R0) (j : Nat) (hT : T[j]? = some (pc, .baload, 1)) (N : xN ws.length (keys os)) (i : Nat) {q a len x : Nat} {f : Nat → Int32} (hi : os[i]? = some (q, (a, cB Y len f))) (hin : x < len) (hl : len < 2 ^ 31) (kk : X G Y k n (pc + 1) lv (.int (f x) :: st) (ovl ws os)) : X G Y k n pc lv (.int (nI x) :: .ref a :: st) (ovl ws os) := by
  refine x_bald C j hT N i hi (vp_in_nI hin hl) ?_
  rw [nI_clamp (Nat.lt_trans hin hl)]
  exact kk
theorem x_zaldN {G : xG} {Y : xD} {M : xM} {T : xL} {R0 : Room} {k n pc : Nat} {lv : List (Nat × Value)} {st : List Value} {ws : va_W} {os : xO} (C : xC G Y M T R0) (j : Nat) (hT : T[j]? = some (pc, .baload, 1)) (N : xN ws.length (keys os)) (i : Nat) {q a len x : Nat} {f : Nat → Int32} (hi : os[i]? = some (q, (a, cZ Y len f))) (hin : x < len) (hl : len < 2 ^ 31) (kk : X G Y k n (pc + 1) lv (.int (f x) :: st) (ovl ws os)) : X G Y k n pc lv (.int (nI x) :: .ref a :: st) (ovl ws os) := by
  refine x_zald C j hT N i hi (vp_in_nI hin hl) ?_
  rw [nI_clamp (Nat.lt_trans hin hl)]
  exact kk
theorem x_qaldN {G : xG} {Y : xD} {M : xM} {T : xL} {R0 : Room} {k n pc : Nat} {lv : List (Nat × Value)} {st : List Value} {ws : va_W} {os : xO} (C : xC G Y M T R0) (j : Nat) (hT : T[j]? = some (pc, .aaload, 1)) (N : xN ws.length (keys os)) (i : Nat) {q a len x : Nat} {f : Nat → Option Nat} (hi : os[i]? = some (q, (a, cQ Y len f))) (hin : x < len) (hl : len < 2 ^ 31) (kk : X G Y k n (pc + 1) lv (va_rf (f x) :: st) (ovl ws os)) : X G Y k n pc lv (.int (nI x) :: .ref a :: st) (ovl ws os) := by
  refine x_qald C j hT N i hi (vp_in_nI hin hl) ?_
  rw [nI_clamp (Nat.lt_trans hin hl)]
  exact kk
theorem x_raldN {G : xG} {Y : xD} {M : xM} {T : xL} {R0 : Room} {k n pc : Nat} {lv : List (Nat × Value)} {st : List Value} {ws : va_W} {os : xO} (C : xC G Y M T R0) (j : Nat) (hT : T[j]? = some (pc, .aaload, 1)) (N : xN ws.length (keys os)) (i : Nat) {q a len x : Nat} {f : Nat → Option Nat} (hi : os[i]? = some (q, (a, cR Y len f))) (hin : x < len) (hl : len < 2 ^ 31) (kk : X G Y k n (pc + 1) lv (va_rf (f x) :: st) (ovl ws os)) : X G Y k n pc lv (.int (nI x) :: .ref a :: st) (ovl ws os) := by
  refine x_rald C j hT N i hi (vp_in_nI hin hl) ?_
  rw [nI_clamp (Nat.lt_trans hin hl)]
  exact kk
theorem x_iastN {G : xG} {Y : xD} {M : xM} {T : xL} {R0 : Room} {k n pc : Nat} {lv : List (Nat × Value)} {st : List Value} {ws : va_W} {os : xO} (C : xC G Y M T R0) (j : Nat) (hT : T[j]? = some (pc, .iastore, 1)) (N : xN ws.length (keys os)) (i : Nat) {q a len x : Nat} {f : Nat → Int32} (hi : os[i]? = some (q, (a, cI Y len f))) {v : Int32} (hin : x < len) (hl : len < 2 ^ 31) {os' : xO} (ho : os.set i (q, (a, cI Y len (upd f x v))) = os') (kk : X G Y k n (pc + 1) lv st (ovl ws os')) : X G Y k n pc lv (.int v :: .int (nI x) :: .ref a :: st) (ovl ws os) := by
  refine x_iast C j hT N i hi (vp_in_nI hin hl) ?_ kk
  rw [nI_clamp (Nat.lt_trans hin hl)]
  exact ho
theorem x_lastN {G : xG} {Y : xD} {M : xM} {T : xL} {R0 : Room} {k n pc : Nat} {lv : List (Nat × Value)} {st : List Value} {ws : va_W} {os : xO} (C : xC G Y M T R0) (j : Nat) (hT : T[j]? = some (pc, .lastore, 1)) (N : xN ws.length (keys os)) (i : Nat) {q a len x : Nat} {f : Nat → Int64} (hi : os[i]? = some (q, (a, cJ Y len f))) {v : Int64} (hin : x < len) (hl : len < 2 ^ 31) {os' : xO} (ho : os.set i (q, (a, cJ Y len (vp_updL f x v))) = os') (kk : X G Y k n (pc + 1) lv st (ovl ws os')) : X G Y k n pc lv (.long v :: .int (nI x) :: .ref a :: st) (ovl ws os) := by
  refine x_last C j hT N i hi (vp_in_nI hin hl) ?_ kk
  rw [nI_clamp (Nat.lt_trans hin hl)]
  exact ho
theorem x_bastN {G : xG} {Y : xD} {M : xM} {T : xL} {R0 : Room} {k n pc : Nat} {lv : List (Nat × Value)} {st : List Value} {ws : va_W} {os : xO} (C : xC G Y M T R0) (j : Nat) (hT : T[j]? = some (pc, .bastore, 1)) (N : xN ws.length (keys os)) (i : Nat) {q a len x : Nat} {f : Nat → Int32} (hi : os[i]? = some (q, (a, cB Y len f))) {v : Int32} (hin : x < len) (hl : len < 2 ^ 31) {os' : xO} (ho : os.set i (q, (a, cB Y len (upd f x (vp_nar .byte v)))) = os') (kk : X G Y k n (pc + 1) lv st (ovl ws os')) : X G Y k n pc lv (.int v :: .int (nI x) :: .ref a :: st) (ovl ws os) := by
  refine x_bast C j hT N i hi (vp_in_nI hin hl) ?_ kk
  rw [nI_clamp (Nat.lt_trans hin hl)]
  exact ho
theorem x_zastN {G : xG} {Y : xD} {M : xM} {T : xL} {R0 : Room} {k n pc : Nat} {lv : List (Nat × Value)} {st : List Value} {ws : va_W} {os : xO} (C : xC G Y M T R0) (j : Nat) (hT : T[j]? = some (pc, .bastore, 1)) (N : xN ws.length (keys os)) (i : Nat) {q a len x : Nat} {f : Nat → Int32} (hi : os[i]? = some (q, (a, cZ Y len f))) {v : Int32} (hin : x < len) (hl : len < 2 ^ 31) {os' : xO} (ho : os.set i (q, (a, cZ Y len (upd f x (vp_nar .boolean v)))) = os') (kk : X G Y k n (pc + 1) lv st (ovl ws os')) : X G Y k n pc lv (.int v :: .int (nI x) :: .ref a :: st) (ovl ws os) := by
  refine x_zast C j hT N i hi (vp_in_nI hin hl) ?_ kk
  rw [nI_clamp (Nat.lt_trans hin hl)]
  exact ho
theorem x_icmpN_eq {G : xG} {Y : xD} {M : xM} {T : xL} {R0 : Room} {k n pc : Nat} {lv : List (Nat × Value)} {st : List Value} {w : va_W} (C : xC G Y M T R0) (j : Nat) {off : Int} {tgt a b : Nat} (ha : a < 2 ^ 31) (hb : b < 2 ^ 31) (hT : T[j]? = some (pc, .if_icmp .eq off, 3)) (ht : (pc : Int) + off = (tgt : Int)) (kt : a = b → X G Y k n tgt lv st w) (kf : ¬ a = b → X G Y k n (pc + 3) lv st w) : X G Y k n pc lv (.int (nI b) :: .int (nI a) :: st) w := x_icmp_eq C j hT ht (fun h => kt ((nI_eq ha hb).mp h)) (fun h => kf (fun z => h ((nI_eq ha hb).mpr z)))
theorem x_icmpN_ne {G : xG} {Y : xD} {M : xM} {T : xL} {R0 : Room} {k n pc : Nat} {lv : List (Nat × Value)} {st : List Value} {w : va_W} (C : xC G Y M T R0) (j : Nat) {off : Int} {tgt a b : Nat} (ha : a < 2 ^ 31) (hb : b < 2 ^ 31) (hT : T[j]? = some (pc, .if_icmp .ne off, 3)) (ht : (pc : Int) + off = (tgt : Int)) (kt : ¬ a = b → X G Y k n tgt lv st w) (kf : a = b → X G Y k n (pc + 3) lv st w) : X G Y k n pc lv (.int (nI b) :: .int (nI a) :: st) w := x_icmp_ne C j hT ht (fun h => kt (fun z => h ((nI_eq ha hb).mpr z))) (fun h => kf ((nI_eq ha hb).mp h))
theorem x_icmpN_lt {G : xG} {Y : xD} {M : xM} {T : xL} {R0 : Room} {k n pc : Nat} {lv : List (Nat × Value)} {st : List Value} {w : va_W} (C : xC G Y M T R0) (j : Nat) {off : Int} {tgt a b : Nat} (ha : a < 2 ^ 31) (hb : b < 2 ^ 31) (hT : T[j]? = some (pc, .if_icmp .lt off, 3)) (ht : (pc : Int) + off = (tgt : Int)) (kt : a < b → X G Y k n tgt lv st w) (kf : b ≤ a → X G Y k n (pc + 3) lv st w) : X G Y k n pc lv (.int (nI b) :: .int (nI a) :: st) w := x_icmp_lt C j hT ht (fun h => kt ((nI_ltI ha hb).mp h)) (fun h => kf (Nat.not_lt.mp fun z => h ((nI_ltI ha hb).mpr z)))
theorem x_icmpN_ge {G : xG} {Y : xD} {M : xM} {T : xL} {R0 : Room} {k n pc : Nat} {lv : List (Nat × Value)} {st : List Value} {w : va_W} (C : xC G Y M T R0) (j : Nat) {off : Int} {tgt a b : Nat} (ha : a < 2 ^ 31) (hb : b < 2 ^ 31) (hT : T[j]? = some (pc, .if_icmp .ge off, 3)) (ht : (pc : Int) + off = (tgt : Int)) (kt : b ≤ a → X G Y k n tgt lv st w) (kf : a < b → X G Y k n (pc + 3) lv st w) : X G Y k n pc lv (.int (nI b) :: .int (nI a) :: st) w := x_icmp_ge C j hT ht (fun h => kt ((nI_leI hb ha).mp h)) (fun h => kf (Nat.not_le.mp fun z => h ((nI_leI hb ha).mpr z)))
theorem x_icmpN_gt {G : xG} {Y : xD} {M : xM} {T : xL} {R0 : Room} {k n pc : Nat} {lv : List (Nat × Value)} {st : List Value} {w : va_W} (C : xC G Y M T R0) (j : Nat) {off : Int} {tgt a b : Nat} (ha : a < 2 ^ 31) (hb : b < 2 ^ 31) (hT : T[j]? = some (pc, .if_icmp .gt off, 3)) (ht : (pc : Int) + off = (tgt : Int)) (kt : b < a → X G Y k n tgt lv st w) (kf : a ≤ b → X G Y k n (pc + 3) lv st w) : X G Y k n pc lv (.int (nI b) :: .int (nI a) :: st) w := x_icmp_gt C j hT ht (fun h => kt ((nI_ltI hb ha).mp h)) (fun h => kf (Nat.not_lt.mp fun z => h ((nI_ltI hb ha).mpr z)))
theorem x_icmpN_le {G : xG} {Y : xD} {M : xM} {T : xL} {R0 : Room} {k n pc : Nat} {lv : List (Nat × Value)} {st : List Value} {w : va_W} (C : xC G Y M T R0) (j : Nat) {off : Int} {tgt a b : Nat} (ha : a < 2 ^ 31) (hb : b < 2 ^ 31) (hT : T[j]? = some (pc, .if_icmp .le off, 3)) (ht : (pc : Int) + off = (tgt : Int)) (kt : a ≤ b → X G Y k n tgt lv st w) (kf : b < a → X G Y k n (pc + 3) lv st w) : X G Y k n pc lv (.int (nI b) :: .int (nI a) :: st) w := x_icmp_le C j hT ht (fun h => kt ((nI_leI ha hb).mp h)) (fun h => kf (Nat.not_le.mp fun z => h ((nI_leI ha hb).mpr z)))
theorem x_ifN_eq {G : xG} {Y : xD} {M : xM} {T : xL} {R0 : Room} {k n pc : Nat} {lv : List (Nat × Value)} {st : List Value} {w : va_W} (C : xC G Y M T R0) (j : Nat) {off : Int} {tgt a : Nat} (ha : a < 2 ^ 31) (hT : T[j]? = some (pc, .ifCond .eq off, 3)) (ht : (pc : Int) + off = (tgt : Int)) (kt : a = 0 → X G Y k n tgt lv st w) (kf : ¬ a = 0 → X G Y k n (pc + 3) lv st w) : X G Y k n pc lv (.int (nI a) :: st) w := x_if_eq C j hT ht (fun h => kt ((nI_eq ha (by decide)).mp h)) (fun h => kf (fun z => h ((nI_eq ha (by decide)).mpr z)))
theorem x_ifN_ne {G : xG} {Y : xD} {M : xM} {T : xL} {R0 : Room} {k n pc : Nat} {lv : List (Nat × Value)} {st : List Value} {w : va_W} (C : xC G Y M T R0) (j : Nat) {off : Int} {tgt a : Nat} (ha : a < 2 ^ 31) (hT : T[j]? = some (pc, .ifCond .ne off, 3)) (ht : (pc : Int) + off = (tgt : Int)) (kt : ¬ a = 0 → X G Y k n tgt lv st w) (kf : a = 0 → X G Y k n (pc + 3) lv st w) : X G Y k n pc lv (.int (nI a) :: st) w := x_if_ne C j hT ht (fun h => kt (fun z => h ((nI_eq ha (by decide)).mpr z))) (fun h => kf ((nI_eq ha (by decide)).mp h))
theorem x_ifN_gt {G : xG} {Y : xD} {M : xM} {T : xL} {R0 : Room} {k n pc : Nat} {lv : List (Nat × Value)} {st : List Value} {w : va_W} (C : xC G Y M T R0) (j : Nat) {off : Int} {tgt a : Nat} (ha : a < 2 ^ 31) (hT : T[j]? = some (pc, .ifCond .gt off, 3)) (ht : (pc : Int) + off = (tgt : Int)) (kt : 0 < a → X G Y k n tgt lv st w) (kf : a = 0 → X G Y k n (pc + 3) lv st w) : X G Y k n pc lv (.int (nI a) :: st) w := x_if_gt C j hT ht (fun h => kt ((nI_ltI (by decide) ha).mp h)) (fun h => kf (Nat.eq_zero_of_not_pos fun z => h ((nI_ltI (by decide) ha).mpr z)))
theorem x_ifN_le {G : xG} {Y : xD} {M : xM} {T : xL} {R0 : Room} {k n pc : Nat} {lv : List (Nat × Value)} {st : List Value} {w : va_W} (C : xC G Y M T R0) (j : Nat) {off : Int} {tgt a : Nat} (ha : a < 2 ^ 31) (hT : T[j]? = some (pc, .ifCond .le off, 3)) (ht : (pc : Int) + off = (tgt : Int)) (kt : a = 0 → X G Y k n tgt lv st w) (kf : 0 < a → X G Y k n (pc + 3) lv st w) : X G Y k n pc lv (.int (nI a) :: st) w := x_if_le C j hT ht (fun h => kt (Nat.le_zero.mp ((nI_leI ha (by decide)).mp h))) (fun h => kf (Nat.pos_of_ne_zero fun z => h ((nI_leI ha (by decide)).mpr (Nat.le_of_eq z))))
