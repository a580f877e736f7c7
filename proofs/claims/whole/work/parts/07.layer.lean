/-! ===== worlds with some cells laid over: by places ===== -/
def ndp (l : List Nat) : Prop := ∀ (i j x : Nat), l[i]? = some x → l[j]? = some x → i = j
abbrev xO : Type := List (Nat × (Nat × va_E))
def ovl (ws : va_W) : xO → va_W
  | [] => ws
  | o :: r => (ovl ws r).set o.1 o.2
def keys : xO → List Nat
  | [] => []
  | o :: r => o.1 :: keys r
def xN (n : Nat) (ks : List Nat) : Prop := ndp ks ∧ ∀ (i x : Nat), ks[i]? = some x → x < n
theorem ndp_tl {a : Nat} {l : List Nat} (h : ndp (a :: l)) : ndp l := fun i j x h1 h2 => Nat.succ.inj (h (i + 1) (j + 1) x h1 h2)
theorem ndp_hd {a : Nat} {l : List Nat} (h : ndp (a :: l)) {i x : Nat} (hx : l[i]? = some x) : a ≠ x := fun e => by
  have := h 0 (i + 1) x (by rw [← e]; rfl) hx
  omega
theorem xN.tl {n a : Nat} {l : List Nat} (h : xN n (a :: l)) : xN n l := ⟨ndp_tl h.1, fun i x hx => h.2 (i + 1) x hx⟩
theorem xN.sub {n : Nat} {l l' : List Nat} (h : xN n l) (is : List Nat) (hn : va_nd is = true) (hs : is.map (fun i => l[i]?) = l'.map some) : xN n l' := by
  have key : ∀ (k x : Nat), l'[k]? = some x → ∃ i, is[k]? = some i ∧ l[i]? = some x := by
    intro k x hk
    have h1 : (is.map (fun i => l[i]?))[k]? = some (some x) := by rw [hs, List.getElem?_map, hk]; rfl
    rw [List.getElem?_map] at h1
    cases hi : is[k]? with
    | none => rw [hi] at h1; cases h1
    | some i => rw [hi] at h1; exact ⟨i, rfl, Option.some.inj h1⟩
  refine ⟨fun i j x hi hj => ?_, fun k x hk => ?_⟩
  · obtain ⟨a, a1, a2⟩ := key i x hi
    obtain ⟨b, b1, b2⟩ := key j x hj
    have hab := h.1 a b x a2 b2
    subst hab
    exact va_nd_inj is hn i j a a1 b1
  · obtain ⟨a, -, a2⟩ := key k x hk
    exact h.2 a x a2
theorem keys_at {os : xO} {i : Nat} {o : Nat × (Nat × va_E)} (h : os[i]? = some o) : (keys os)[i]? = some o.1 := by
  induction os generalizing i with
  | nil => simp at h
  | cons a r ih =>
    cases i with
    | zero => cases h; rfl
    | succ i => exact ih (i := i) h
theorem keys_of {os : xO} {i x : Nat} (h : (keys os)[i]? = some x) : ∃ c, os[i]? = some (x, c) := by
  induction os generalizing i with
  | nil => simp [keys] at h
  | cons a r ih =>
    cases i with
    | zero => cases h; exact ⟨a.2, rfl⟩
    | succ i => exact ih (i := i) h
theorem keys_set {os : xO} {i : Nat} {o : Nat × (Nat × va_E)} (h : (keys os)[i]? = some o.1) : keys (os.set i o) = keys os := by
  induction os generalizing i with
  | nil => rfl
  | cons a r ih =>
    cases i with
    | zero =>
      have h : a.1 = o.1 := Option.some.inj h
      show o.1 :: keys r = a.1 :: keys r
      rw [h]
    | succ i => exact congrArg (a.1 :: ·) (ih (i := i) h)
theorem ovl_len (ws : va_W) : ∀ os : xO, (ovl ws os).length = ws.length
  | [] => rfl
  | o :: r => by rw [ovl, List.length_set]; exact ovl_len ws r
theorem ovl_ne {ws : va_W} {p : Nat} : ∀ {os : xO}, (∀ (i x : Nat), (keys os)[i]? = some x → x ≠ p) → (ovl ws os)[p]? = ws[p]?
  | [], _ => rfl
  | o :: r, h => by
    rw [ovl, List.getElem?_set_ne (h 0 o.1 rfl)]
    exact ovl_ne (fun i x hx => h (i + 1) x hx)
theorem ovl_at {ws : va_W} {p : Nat} {c : Nat × va_E} : ∀ {os : xO} (i : Nat), xN ws.length (keys os) → os[i]? = some (p, c) → (ovl ws os)[p]? = some c
  | [], i, _, h => by simp at h
  | o :: r, 0, N, h => by
    cases h
    rw [ovl, List.getElem?_set_self]
    rw [ovl_len]
    exact N.2 0 p rfl
  | o :: r, i + 1, N, h => by
    rw [ovl, List.getElem?_set_ne (ndp_hd N.1 (keys_at (os := r) (i := i) h))]
    exact ovl_at i N.tl h
theorem ovl_set {ws : va_W} {p : Nat} {c : Nat × va_E} (c' : Nat × va_E) : ∀ {os : xO} (i : Nat), ndp (keys os) → (keys os)[i]? = some p → (ovl ws os).set p c' = ovl ws (os.set i (p, c'))
  | [], i, _, h => by simp [keys] at h
  | o :: r, 0, N, h => by
    cases h
    show ((ovl ws r).set o.1 o.2).set o.1 c' = (ovl ws r).set o.1 c'
    rw [List.set_set]
  | o :: r, i + 1, N, h => by
    show ((ovl ws r).set o.1 o.2).set p c' = (ovl ws (r.set i (p, c'))).set o.1 o.2
    rw [List.set_comm _ _ (ndp_hd N h), ovl_set (c := c) c' i (ndp_tl N) h]
theorem ovl_id {ws : va_W} : ∀ {os : xO}, (∀ (i : Nat) (o : Nat × (Nat × va_E)), os[i]? = some o → ws[o.1]? = some o.2) → ovl ws os = ws
  | [], _ => rfl
  | o :: r, h => by
    rw [ovl, ovl_id (fun i o ho => h (i + 1) o ho)]
    have h0 := h 0 o rfl
    obtain ⟨hl, he⟩ := List.getElem?_eq_some_iff.mp h0
    rw [← he]
    exact List.set_getElem_self hl
def xmk (ks : List Nat) : List Nat → xO → Prop
  | [], [] => True
  | i :: is, o :: r => ks[i]? = some o.1 ∧ xmk ks is r
  | _, _ => False
def xmer (os : xO) : List Nat → xO → xO
  | i :: is, o :: r => (xmer os is r).set i o
  | _, _ => os
theorem xmer_keys {os : xO} : ∀ {is : List Nat} {oc : xO}, xmk (keys os) is oc → keys (xmer os is oc) = keys os
  | [], [], _ => rfl
  | i :: is, o :: r, h => by
    rw [xmer, keys_set (by rw [xmer_keys h.2]; exact h.1)]
    exact xmer_keys h.2
  | [], _ :: _, h => h.elim
  | _ :: _, [], h => h.elim
theorem ovl_mer {ws : va_W} {os : xO} (N : ndp (keys os)) : ∀ {is : List Nat} {oc : xO}, xmk (keys os) is oc → ovl (ovl ws os) oc = ovl ws (xmer os is oc)
  | [], [], _ => rfl
  | i :: is, o :: r, h => by
    show (ovl (ovl ws os) r).set o.1 o.2 = ovl ws ((xmer os is r).set i o)
    rw [ovl_mer N h.2, ovl_set (c := o.2) o.2 i (by rw [xmer_keys h.2]; exact N) (by rw [xmer_keys h.2]; exact h.1)]
  | [], _ :: _, h => h.elim
  | _ :: _, [], h => h.elim
/-! ===== contracts ===== -/
def xrm (d mc ms : Nat) : Room := { frames := d, cells := mc, slots := ms, locals := 38 * d }
def xPre (Y : xD) (w : va_W) (sz : Nat) (U : State) : Prop := U.heap.size = sz ∧ va_P Y.1 vwCl w U.heap ∧ va_K Y.1 vwCl (xtys Y) U ∧ va_D (fun _ => True) w ∧ xZ Y (va_A w sz) U U.heap ∧ ∀ x ∈ xnw, x.before #[] U = true
def xQ (Y : xD) (w : va_W) (sz : Nat) (Post : Option Value → va_W → Prop) : Array Value → State → Outcome → State → Prop := fun _ st oc t => (∃ (v : Option Value) (w' : va_W), oc = .returned v ∧ Post v w' ∧ va_P Y.1 vwCl w' t.heap ∧ va_D (va_A w sz) w') ∧ va_F (va_A w sz) st t
def Ct (Y : xD) (M : xM) (d mc ms : Nat) (av : List Value) (w : va_W) (Post : Option Value → va_W → Prop) : Prop := ∀ (l : Launch) (sz : Nat), Met l M.1 (xwg M) (xrm d mc ms) (va_Pc av (xPre Y w sz)) (xQ Y w sz Post) mc ms (va_A w sz)
/-- what a body's end is -/
def xB (G : xG) (Y : xD) (Post : Option Value → va_W → Prop) (mc ms : Nat) : Prop := match G with
  | (p, l, e, R, s, m, args, below, meth, c, A, nL, Q) => ∃ w sz, A = va_A w sz ∧ Q = MQ below (xQ Y w sz Post) args s mc ms (va_A w sz)
theorem xZ.moved {Y : xD} {A : Nat → Prop} {u U : State} {H : Heap} (hvm : u.vm.Alike U.vm) (h : xZ Y A u H) : xZ Y A U H := ⟨va_Z.moved hvm h.1, va_T.moved hvm h.2⟩
theorem xZ.kept {Y : xD} {A : Nat → Prop} {U : State} {H H1 : Heap} (h : xZ Y A U H) (hq : ∀ a : Nat, a < H.size → ¬ A a → H1[a]? = H[a]?) : xZ Y A U H1 := ⟨va_Z.kept h.1 hq, va_T.kept h.2 hq⟩
theorem xZ.narrow {Y : xD} {A B : Nat → Prop} {U : State} {H : Heap} (h : xZ Y A U H) (hAB : ∀ q, B q → A q) : xZ Y B U H := ⟨va_Z.narrow h.1 hAB, va_T.narrow h.2 hAB⟩
theorem Ct.intro {Y : xD} {M : xM} {T : xL} {d mc ms : Nat} {av : List Value} {w : va_W} {Post : Option Value → va_W → Prop} (hy : plainName M.1.cls = true) (hT : okT M.2.1 T = true) (hlen : (lg_sl av).length ≤ M.2.2.1) (body : ∀ G : xG, xC G Y M T (xrm d mc ms) → xB G Y Post mc ms → X G Y 0 0 0 (lv_args 0 av) [] w) : Ct Y M d mc ms av w Post := by
  intro l sz
  refine Met.ofW (cc := M.2.1) (maxL := M.2.2.1) (ret := M.2.2.2) hy rfl ?_
  intro p e s m args below meth c s₁ B hml hv
  obtain ⟨rfl, hsz, hP, hK, hD0, hZ, hnw⟩ := hv
  have hts := atoms_spec (ws := xwg M) B.pre
  have hown : s.vm.findClass M.1.cls = some m.cls := findClass_of_methodNamed B.named
  subst hsz
  have hb := body (p, l, e, (headSpec (xwg M) (xrm d mc ms)).room, s, m, av.toArray, below, meth, c, va_A w s.heap.size, M.2.2.1, MQ below (xQ Y w s.heap.size Post) av.toArray s mc ms (va_A w s.heap.size)) ⟨B.exec, B.bytes, hml, rfl, hown, fun x hx => hts x (List.mem_cons_of_mem _ hx), hnw, hK, fun q h => Or.inr h, B.notSynchronized, (name_of_methodNamed B.named B.method).1, B.returns, hZ, rfl, hT⟩ ⟨w, s.heap.size, rfl, rfl⟩
  have hl := lv_entry av (n := M.2.2.1) hlen
  rw [lg_entry_eq]
  exact hb s.heap [] _ hl hP hD0.self va_S.rf
theorem x_iret {G : xG} {Y : xD} {M : xM} {T : xL} {R0 : Room} {k n pc : Nat} {lv : List (Nat × Value)} {w : va_W} {Post : Option Value → va_W → Prop} {mc ms : Nat} (C : xC G Y M T R0) (B : xB G Y Post mc ms) (hr : M.2.2.2 = some .int) (j : Nat) (hT : T[j]? = some (pc, .ireturn, 1)) {v : Int32} (h1 : k ≤ mc) (h2 : n ≤ ms) (hp : Post (some (.int v)) w) : X G Y k n pc lv [.int v] w := by
  obtain ⟨p, l, e, R, s, m, args, below, meth, c, A, nL, Q⟩ := G
  obtain ⟨hx, hb, hml, rfl, hown, hts, hnw, hK, hA, hlocks, hnm, hret, hZ, rfl, hok⟩ := C
  obtain ⟨w0, sz, rfl, rfl⟩ := B
  intro H locs ls hl hP hD hS
  refine W.widen h1 h2 ?_
  exact W.iret hx hb (hret.trans hr) (fun t ht hW => ⟨⟨_, w, rfl, hp, by rw [ht]; exact hP, hD⟩, hS.F ht⟩) hS.2.2 (xat hok hT) hlocks
theorem x_zret {G : xG} {Y : xD} {M : xM} {T : xL} {R0 : Room} {k n pc : Nat} {lv : List (Nat × Value)} {w : va_W} {Post : Option Value → va_W → Prop} {mc ms : Nat} (C : xC G Y M T R0) (B : xB G Y Post mc ms) (hr : M.2.2.2 = some .boolean) (j : Nat) (hT : T[j]? = some (pc, .ireturn, 1)) {v : Int32} (hv : v = 0 ∨ v = 1) (h1 : k ≤ mc) (h2 : n ≤ ms) (hp : Post (some (.int v)) w) : X G Y k n pc lv [.int v] w := by
  obtain ⟨p, l, e, R, s, m, args, below, meth, c, A, nL, Q⟩ := G
  obtain ⟨hx, hb, hml, rfl, hown, hts, hnw, hK, hA, hlocks, hnm, hret, hZ, rfl, hok⟩ := C
  obtain ⟨w0, sz, rfl, rfl⟩ := B
  intro H locs ls hl hP hD hS
  refine W.widen h1 h2 ?_
  exact W.zret hx hb (hret.trans hr) (by rcases hv with rfl | rfl <;> rfl) (fun t ht hW => ⟨⟨_, w, rfl, hp, by rw [ht]; exact hP, hD⟩, hS.F ht⟩) hS.2.2 (xat hok hT) hlocks
theorem x_lret {G : xG} {Y : xD} {M : xM} {T : xL} {R0 : Room} {k n pc : Nat} {lv : List (Nat × Value)} {w : va_W} {Post : Option Value → va_W → Prop} {mc ms : Nat} (C : xC G Y M T R0) (B : xB G Y Post mc ms) (hr : M.2.2.2 = some .long) (j : Nat) (hT : T[j]? = some (pc, .lreturn, 1)) {v : Int64} (h1 : k ≤ mc) (h2 : n ≤ ms) (hp : Post (some (.long v)) w) : X G Y k n pc lv [.long v] w := by
  obtain ⟨p, l, e, R, s, m, args, below, meth, c, A, nL, Q⟩ := G
  obtain ⟨hx, hb, hml, rfl, hown, hts, hnw, hK, hA, hlocks, hnm, hret, hZ, rfl, hok⟩ := C
  obtain ⟨w0, sz, rfl, rfl⟩ := B
  intro H locs ls hl hP hD hS
  refine W.widen h1 h2 ?_
  exact W.lret hx hb (hret.trans hr) (fun t ht hW => ⟨⟨_, w, rfl, hp, by rw [ht]; exact hP, hD⟩, hS.F ht⟩) hS.2.2 (xat hok hT) hlocks
theorem x_vret {G : xG} {Y : xD} {M : xM} {T : xL} {R0 : Room} {k n pc : Nat} {lv : List (Nat × Value)} {w : va_W} {Post : Option Value → va_W → Prop} {mc ms : Nat} (C : xC G Y M T R0) (B : xB G Y Post mc ms) (hr : M.2.2.2 = none) (j : Nat) (hT : T[j]? = some (pc, .return_, 1)) (h1 : k ≤ mc) (h2 : n ≤ ms) (hp : Post none w) : X G Y k n pc lv [] w := by
  obtain ⟨p, l, e, R, s, m, args, below, meth, c, A, nL, Q⟩ := G
  obtain ⟨hx, hb, hml, rfl, hown, hts, hnw, hK, hA, hlocks, hnm, hret, hZ, rfl, hok⟩ := C
  obtain ⟨w0, sz, rfl, rfl⟩ := B
  intro H locs ls hl hP hD hS
  refine W.widen h1 h2 ?_
  exact W.vret hx hb (hret.trans hr) (fun t ht hW => ⟨⟨_, w, rfl, hp, by rw [ht]; exact hP, hD⟩, hS.F ht⟩) hS.2.2 (xat hok hT) hlocks
theorem x_aret {G : xG} {Y : xD} {M : xM} {T : xL} {R0 : Room} {k n pc : Nat} {lv : List (Nat × Value)} {w : va_W} {Post : Option Value → va_W → Prop} {mc ms : Nat} (C : xC G Y M T R0) (B : xB G Y Post mc ms) {cn : String} (hr : M.2.2.2 = some (.object cn)) (j : Nat) (hT : T[j]? = some (pc, .areturn, 1)) {v : Value} (hv : v = .null ∨ ∃ a, v = .ref a) (h1 : k ≤ mc) (h2 : n ≤ ms) (hp : Post (some v) w) : X G Y k n pc lv [v] w := by
  obtain ⟨p, l, e, R, s, m, args, below, meth, c, A, nL, Q⟩ := G
  obtain ⟨hx, hb, hml, rfl, hown, hts, hnw, hK, hA, hlocks, hnm, hret, hZ, rfl, hok⟩ := C
  obtain ⟨w0, sz, rfl, rfl⟩ := B
  intro H locs ls hl hP hD hS
  refine W.widen h1 h2 ?_
  exact W.aret hx hb (hret.trans hr) (Or.inl ⟨_, rfl⟩) hv (fun t ht hW => ⟨⟨_, w, rfl, hp, by rw [ht]; exact hP, hD⟩, hS.F ht⟩) hS.2.2 (xat hok hT) hlocks
/-! ===== branches ===== -/
theorem x_if_eq {G : xG} {Y : xD} {M : xM} {T : xL} {R0 : Room} {k n pc : Nat} {lv : List (Nat × Value)} {st : List Value} {w : va_W} (C : xC G Y M T R0) (j : Nat) {off : Int} {tgt : Nat} {x : Int32} (hT : T[j]? = some (pc, .ifCond .eq off, 3)) (ht : (pc : Int) + off = (tgt : Int)) (kt : x = 0 → X G Y k n tgt lv st w) (kf : ¬ x = 0 → X G Y k n (pc + 3) lv st w) : X G Y k n pc lv (.int x :: st) w := by
  obtain ⟨p, l, e, R, s, m, args, below, meth, c, A, nL, Q⟩ := G
  obtain ⟨hx, hb, hml, rfl, hown, hts, hnw, hK, hA, hlocks, hnm, hret, hZ, rfl, hok⟩ := C
  intro H locs ls hl hP hD hS
  exact lv_if_eq hx hb (xat hok hT) ht (fun h => kt h H locs ls hl hP hD hS) (fun h => kf h H locs ls hl hP hD hS)
theorem x_icmp_eq {G : xG} {Y : xD} {M : xM} {T : xL} {R0 : Room} {k n pc : Nat} {lv : List (Nat × Value)} {st : List Value} {w : va_W} (C : xC G Y M T R0) (j : Nat) {off : Int} {tgt : Nat} {x y : Int32} (hT : T[j]? = some (pc, .if_icmp .eq off, 3)) (ht : (pc : Int) + off = (tgt : Int)) (kt : x = y → X G Y k n tgt lv st w) (kf : ¬ x = y → X G Y k n (pc + 3) lv st w) : X G Y k n pc lv (.int y :: .int x :: st) w := by
  obtain ⟨p, l, e, R, s, m, args, below, meth, c, A, nL, Q⟩ := G
  obtain ⟨hx, hb, hml, rfl, hown, hts, hnw, hK, hA, hlocks, hnm, hret, hZ, rfl, hok⟩ := C
  intro H locs ls hl hP hD hS
  exact lv_icmp_eq hx hb (xat hok hT) ht (fun h => kt h H locs ls hl hP hD hS) (fun h => kf h H locs ls hl hP hD hS)
theorem x_if_ne {G : xG} {Y : xD} {M : xM} {T : xL} {R0 : Room} {k n pc : Nat} {lv : List (Nat × Value)} {st : List Value} {w : va_W} (C : xC G Y M T R0) (j : Nat) {off : Int} {tgt : Nat} {x : Int32} (hT : T[j]? = some (pc, .ifCond .ne off, 3)) (ht : (pc : Int) + off = (tgt : Int)) (kt : ¬ x = 0 → X G Y k n tgt lv st w) (kf : x = 0 → X G Y k n (pc + 3) lv st w) : X G Y k n pc lv (.int x :: st) w := by
  obtain ⟨p, l, e, R, s, m, args, below, meth, c, A, nL, Q⟩ := G
  obtain ⟨hx, hb, hml, rfl, hown, hts, hnw, hK, hA, hlocks, hnm, hret, hZ, rfl, hok⟩ := C
  intro H locs ls hl hP hD hS
  exact lv_if_ne hx hb (xat hok hT) ht (fun h => kt h H locs ls hl hP hD hS) (fun h => kf h H locs ls hl hP hD hS)
theorem x_icmp_ne {G : xG} {Y : xD} {M : xM} {T : xL} {R0 : Room} {k n pc : Nat} {lv : List (Nat × Value)} {st : List Value} {w : va_W} (C : xC G Y M T R0) (j : Nat) {off : Int} {tgt : Nat} {x y : Int32} (hT : T[j]? = some (pc, .if_icmp .ne off, 3)) (ht : (pc : Int) + off = (tgt : Int)) (kt : ¬ x = y → X G Y k n tgt lv st w) (kf : x = y → X G Y k n (pc + 3) lv st w) : X G Y k n pc lv (.int y :: .int x :: st) w := by
  obtain ⟨p, l, e, R, s, m, args, below, meth, c, A, nL, Q⟩ := G
  obtain ⟨hx, hb, hml, rfl, hown, hts, hnw, hK, hA, hlocks, hnm, hret, hZ, rfl, hok⟩ := C
  intro H locs ls hl hP hD hS
  exact lv_icmp_ne hx hb (xat hok hT) ht (fun h => kt h H locs ls hl hP hD hS) (fun h => kf h H locs ls hl hP hD hS)
theorem x_if_lt {G : xG} {Y : xD} {M : xM} {T : xL} {R0 : Room} {k n pc : Nat} {lv : List (Nat × Value)} {st : List Value} {w : va_W} (C : xC G Y M T R0) (j : Nat) {off : Int} {tgt : Nat} {x : Int32} (hT : T[j]? = some (pc, .ifCond .lt off, 3)) (ht : (pc : Int) + off = (tgt : Int)) (kt : x < 0 → X G Y k n tgt lv st w) (kf : ¬ x < 0 → X G Y k n (pc + 3) lv st w) : X G Y k n pc lv (.int x :: st) w := by
  obtain ⟨p, l, e, R, s, m, args, below, meth, c, A, nL, Q⟩ := G
  obtain ⟨hx, hb, hml, rfl, hown, hts, hnw, hK, hA, hlocks, hnm, hret, hZ, rfl, hok⟩ := C
  intro H locs ls hl hP hD hS
  exact lv_if_lt hx hb (xat hok hT) ht (fun h => kt h H locs ls hl hP hD hS) (fun h => kf h H locs ls hl hP hD hS)
theorem x_icmp_lt {G : xG} {Y : xD} {M : xM} {T : xL} {R0 : Room} {k n pc : Nat} {lv : List (Nat × Value)} {st : List Value} {w : va_W} (C : xC G Y M T R0) (j : Nat) {off : Int} {tgt : Nat} {x y : Int32} (hT : T[j]? = some (pc, .if_icmp .lt off, 3)) (ht : (pc : Int) + off = (tgt : Int)) (kt : x < y → X G Y k n tgt lv st w) (kf : ¬ x < y → X G Y k n (pc + 3) lv st w) : X G Y k n pc lv (.int y :: .int x :: st) w := by
  obtain ⟨p, l, e, R, s, m, args, below, meth, c, A, nL, Q⟩ := G
  obtain ⟨hx, hb, hml, rfl, hown, hts, hnw, hK, hA, hlocks, hnm, hret, hZ, rfl, hok⟩ := C
  intro H locs ls hl hP hD hS
  exact lv_icmp_lt hx hb (xat hok hT) ht (fun h => kt h H locs ls hl hP hD hS) (fun h => kf h H locs ls hl hP hD hS)
theorem x_if_ge {G : xG} {Y : xD} {M : xM} {T : xL} {R0 : Room} {k n pc : Nat} {lv : List (Nat × Value)} {st : List Value} {w : va_W} (C : xC G Y M T R0) (j : Nat) {off : Int} {tgt : Nat} {x : Int32} (hT : T[j]? = some (pc, .ifCond .ge off, 3)) (ht : (pc : Int) + off = (tgt : Int)) (kt : 0 ≤ x → X G Y k n tgt lv st w) (kf : ¬ 0 ≤ x → X G Y k n (pc + 3) lv st w) : X G Y k n pc lv (.int x :: st) w := by
  obtain ⟨p, l, e, R, s, m, args, below, meth, c, A, nL, Q⟩ := G
  obtain ⟨hx, hb, hml, rfl, hown, hts, hnw, hK, hA, hlocks, hnm, hret, hZ, rfl, hok⟩ := C
  intro H locs ls hl hP hD hS
  exact lv_if_ge hx hb (xat hok hT) ht (fun h => kt h H locs ls hl hP hD hS) (fun h => kf h H locs ls hl hP hD hS)
theorem x_icmp_ge {G : xG} {Y : xD} {M : xM} {T : xL} {R0 : Room} {k n pc : Nat} {lv : List (Nat × Value)} {st : List Value} {w : va_W} (C : xC G Y M T R0) (j : Nat) {off : Int} {tgt : Nat} {x y : Int32} (hT : T[j]? = some (pc, .if_icmp .ge off, 3)) (ht : (pc : Int) + off = (tgt : Int)) (kt : y ≤ x → X G Y k n tgt lv st w) (kf : ¬ y ≤ x → X G Y k n (pc + 3) lv st w) : X G Y k n pc lv (.int y :: .int x :: st) w := by
  obtain ⟨p, l, e, R, s, m, args, below, meth, c, A, nL, Q⟩ := G
  obtain ⟨hx, hb, hml, rfl, hown, hts, hnw, hK, hA, hlocks, hnm, hret, hZ, rfl, hok⟩ := C
  intro H locs ls hl hP hD hS
  exact lv_icmp_ge hx hb (xat hok hT) ht (fun h => kt h H locs ls hl hP hD hS) (fun h => kf h H locs ls hl hP hD hS)
theorem x_if_gt {G : xG} {Y : xD} {M : xM} {T : xL} {R0 : Room} {k n pc : Nat} {lv : List (Nat × Value)} {st : List Value} {w : va_W} (C : xC G Y M T R0) (j : Nat) {off : Int} {tgt : Nat} {x : Int32} (hT : T[j]? = some (pc, .ifCond .gt off, 3)) (ht : (pc : Int) + off = (tgt : Int)) (kt : 0 < x → X G Y k n tgt lv st w) (kf : ¬ 0 < x → X G Y k n (pc + 3) lv st w) : X G Y k n pc lv (.int x :: st) w := by
  obtain ⟨p, l, e, R, s, m, args, below, meth, c, A, nL, Q⟩ := G
  obtain ⟨hx, hb, hml, rfl, hown, hts, hnw, hK, hA, hlocks, hnm, hret, hZ, rfl, hok⟩ := C
  intro H locs ls hl hP hD hS
  exact lv_if_gt hx hb (xat hok hT) ht (fun h => kt h H locs ls hl hP hD hS) (fun h => kf h H locs ls hl hP hD hS)
theorem x_icmp_gt {G : xG} {Y : xD} {M : xM} {T : xL} {R0 : Room} {k n pc : Nat} {lv : List (Nat × Value)} {st : List Value} {w : va_W} (C : xC G Y M T R0) (j : Nat) {off : Int} {tgt : Nat} {x y : Int32} (hT : T[j]? = some (pc, .if_icmp .gt off, 3)) (ht : (pc : Int) + off = (tgt : Int)) (kt : y < x → X G Y k n tgt lv st w) (kf : ¬ y < x → X G Y k n (pc + 3) lv st w) : X G Y k n pc lv (.int y :: .int x :: st) w := by
  obtain ⟨p, l, e, R, s, m, args, below, meth, c, A, nL, Q⟩ := G
  obtain ⟨hx, hb, hml, rfl, hown, hts, hnw, hK, hA, hlocks, hnm, hret, hZ, rfl, hok⟩ := C
  intro H locs ls hl hP hD hS
  exact lv_icmp_gt hx hb (xat hok hT) ht (fun h => kt h H locs ls hl hP hD hS) (fun h => kf h H locs ls hl hP hD hS)
theorem x_if_le {G : xG} {Y : xD} {M : xM} {T : xL} {R0 : Room} {k n pc : Nat} {lv : List (Nat × Value)} {st : List Value} {w : va_W} (C : xC G Y M T R0) (j : Nat) {off : Int} {tgt : Nat} {x : Int32} (hT : T[j]? = some (pc, .ifCond .le off, 3)) (ht : (pc : Int) + off = (tgt : Int)) (kt : x ≤ 0 → X G Y k n tgt lv st w) (kf : ¬ x ≤ 0 → X G Y k n (pc + 3) lv st w) : X G Y k n pc lv (.int x :: st) w := by
  obtain ⟨p, l, e, R, s, m, args, below, meth, c, A, nL, Q⟩ := G
  obtain ⟨hx, hb, hml, rfl, hown, hts, hnw, hK, hA, hlocks, hnm, hret, hZ, rfl, hok⟩ := C
  intro H locs ls hl hP hD hS
  exact lv_if_le hx hb (xat hok hT) ht (fun h => kt h H locs ls hl hP hD hS) (fun h => kf h H locs ls hl hP hD hS)
theorem x_icmp_le {G : xG} {Y : xD} {M : xM} {T : xL} {R0 : Room} {k n pc : Nat} {lv : List (Nat × Value)} {st : List Value} {w : va_W} (C : xC G Y M T R0) (j : Nat) {off : Int} {tgt : Nat} {x y : Int32} (hT : T[j]? = some (pc, .if_icmp .le off, 3)) (ht : (pc : Int) + off = (tgt : Int)) (kt : x ≤ y → X G Y k n tgt lv st w) (kf : ¬ x ≤ y → X G Y k n (pc + 3) lv st w) : X G Y k n pc lv (.int y :: .int x :: st) w := by
  obtain ⟨p, l, e, R, s, m, args, below, meth, c, A, nL, Q⟩ := G
  obtain ⟨hx, hb, hml, rfl, hown, hts, hnw, hK, hA, hlocks, hnm, hret, hZ, rfl, hok⟩ := C
  intro H locs ls hl hP hD hS
  exact lv_icmp_le hx hb (xat hok hT) ht (fun h => kt h H locs ls hl hP hD hS) (fun h => kf h H locs ls hl hP hD hS)
theorem x_ifnull {G : xG} {Y : xD} {M : xM} {T : xL} {R0 : Room} {k n pc : Nat} {lv : List (Nat × Value)} {st : List Value} {w : va_W} (C : xC G Y M T R0) (j : Nat) {off : Int} {x : Nat} (hT : T[j]? = some (pc, .ifnull off, 3)) (kf : X G Y k n (pc + 3) lv st w) : X G Y k n pc lv (.ref x :: st) w := by
  obtain ⟨p, l, e, R, s, m, args, below, meth, c, A, nL, Q⟩ := G
  obtain ⟨hx, hb, hml, rfl, hown, hts, hnw, hK, hA, hlocks, hnm, hret, hZ, rfl, hok⟩ := C
  intro H locs ls hl hP hD hS
  exact lv_ifnull hx hb (xat hok hT) (kf H locs ls hl hP hD hS)
theorem x_ifnonnullN {G : xG} {Y : xD} {M : xM} {T : xL} {R0 : Room} {k n pc : Nat} {lv : List (Nat × Value)} {st : List Value} {w : va_W} (C : xC G Y M T R0) (j : Nat) {off : Int} (hT : T[j]? = some (pc, .ifnonnull off, 3)) (kf : X G Y k n (pc + 3) lv st w) : X G Y k n pc lv (.null :: st) w := by
  obtain ⟨p, l, e, R, s, m, args, below, meth, c, A, nL, Q⟩ := G
  obtain ⟨hx, hb, hml, rfl, hown, hts, hnw, hK, hA, hlocks, hnm, hret, hZ, rfl, hok⟩ := C
  intro H locs ls hl hP hD hS
  exact lv_ifnonnullN hx hb (xat hok hT) (kf H locs ls hl hP hD hS)
theorem x_ifnullN {G : xG} {Y : xD} {M : xM} {T : xL} {R0 : Room} {k n pc : Nat} {lv : List (Nat × Value)} {st : List Value} {w : va_W} (C : xC G Y M T R0) (j : Nat) {off : Int} {tgt : Nat} (hT : T[j]? = some (pc, .ifnull off, 3)) (ht : (pc : Int) + off = (tgt : Int)) (kf : X G Y k n tgt lv st w) : X G Y k n pc lv (.null :: st) w := by
  obtain ⟨p, l, e, R, s, m, args, below, meth, c, A, nL, Q⟩ := G
  obtain ⟨hx, hb, hml, rfl, hown, hts, hnw, hK, hA, hlocks, hnm, hret, hZ, rfl, hok⟩ := C
  intro H locs ls hl hP hD hS
  exact lv_ifnullN hx hb (xat hok hT) ht (kf H locs ls hl hP hD hS)
theorem x_ifnonnull {G : xG} {Y : xD} {M : xM} {T : xL} {R0 : Room} {k n pc : Nat} {lv : List (Nat × Value)} {st : List Value} {w : va_W} (C : xC G Y M T R0) (j : Nat) {off : Int} {tgt : Nat} {x : Nat} (hT : T[j]? = some (pc, .ifnonnull off, 3)) (ht : (pc : Int) + off = (tgt : Int)) (kf : X G Y k n tgt lv st w) : X G Y k n pc lv (.ref x :: st) w := by
  obtain ⟨p, l, e, R, s, m, args, below, meth, c, A, nL, Q⟩ := G
  obtain ⟨hx, hb, hml, rfl, hown, hts, hnw, hK, hA, hlocks, hnm, hret, hZ, rfl, hok⟩ := C
  intro H locs ls hl hP hD hS
  exact lv_ifnonnull hx hb (xat hok hT) ht (kf H locs ls hl hP hD hS)
theorem x_tin {G : xG} {Y : xD} {M : xM} {T : xL} {R0 : Room} {k n pc : Nat} {lv : List (Nat × Value)} {st : List Value} {w : va_W} (C : xC G Y M T R0) (j : Nat) {dflt lo hi off : Int} {offs : Array Int} {len tgt : Nat} {x : Int32} (hT : T[j]? = some (pc, .tableswitch dflt lo hi offs, len)) (h1 : ¬ x.toInt < lo) (h2 : ¬ hi < x.toInt) (ho : offs[(x.toInt - lo).toNat]? = some off) (ht : (pc : Int) + off = (tgt : Int)) (kf : X G Y k n tgt lv st w) : X G Y k n pc lv (.int x :: st) w := by
  obtain ⟨p, l, e, R, s, m, args, below, meth, c, A, nL, Q⟩ := G
  obtain ⟨hx, hb, hml, rfl, hown, hts, hnw, hK, hA, hlocks, hnm, hret, hZ, rfl, hok⟩ := C
  intro H locs ls hl hP hD hS
  exact lv_tableIn hx hb (xat hok hT) h1 h2 ho ht (kf H locs ls hl hP hD hS)
theorem x_tout {G : xG} {Y : xD} {M : xM} {T : xL} {R0 : Room} {k n pc : Nat} {lv : List (Nat × Value)} {st : List Value} {w : va_W} (C : xC G Y M T R0) (j : Nat) {dflt lo hi : Int} {offs : Array Int} {len tgt : Nat} {x : Int32} (hT : T[j]? = some (pc, .tableswitch dflt lo hi offs, len)) (h : x.toInt < lo ∨ hi < x.toInt) (ht : (pc : Int) + dflt = (tgt : Int)) (kf : X G Y k n tgt lv st w) : X G Y k n pc lv (.int x :: st) w := by
  obtain ⟨p, l, e, R, s, m, args, below, meth, c, A, nL, Q⟩ := G
  obtain ⟨hx, hb, hml, rfl, hown, hts, hnw, hK, hA, hlocks, hnm, hret, hZ, rfl, hok⟩ := C
  intro H locs ls hl hP hD hS
  exact lv_tableOut hx hb (xat hok hT) h ht (kf H locs ls hl hP hD hS)
theorem x_lsw {G : xG} {Y : xD} {M : xM} {T : xL} {R0 : Room} {k n pc : Nat} {lv : List (Nat × Value)} {st : List Value} {w : va_W} (C : xC G Y M T R0) (j : Nat) {dflt off : Int} {ps : Array (Int × Int)} {len tgt : Nat} {x : Int32} (hT : T[j]? = some (pc, .lookupswitch dflt ps, len)) (hp : (ps.toList.zip (ps.toList.drop 1)).all (fun (a, next) => a.1 < next.1) = true) (ho : Op.lookupswitch.offset ps.toList dflt x.toInt = off) (ht : (pc : Int) + off = (tgt : Int)) (kf : X G Y k n tgt lv st w) : X G Y k n pc lv (.int x :: st) w := by
  obtain ⟨p, l, e, R, s, m, args, below, meth, c, A, nL, Q⟩ := G
  obtain ⟨hx, hb, hml, rfl, hown, hts, hnw, hK, hA, hlocks, hnm, hret, hZ, rfl, hok⟩ := C
  intro H locs ls hl hP hD hS
  exact lv_lookup hx hb (xat hok hT) hp ho ht (kf H locs ls hl hP hD hS)
theorem x_ldc {G : xG} {Y : xD} {M : xM} {T : xL} {R0 : Room} {k n pc : Nat} {lv : List (Nat × Value)} {st : List Value} {w : va_W} (C : xC G Y M T R0) (j : Nat) {idx : Nat} {v : Int32} (hT : T[j]? = some (pc, .ldc idx, 2)) (hc : Cond.constant M.1.cls idx v ∈ xtbl) (kf : X G Y k n (pc + 2) lv (.int v :: st) w) : X G Y k n pc lv st w := by
  obtain ⟨p, l, e, R, s, m, args, below, meth, c, A, nL, Q⟩ := G
  obtain ⟨hx, hb, hml, rfl, hown, hts, hnw, hK, hA, hlocks, hnm, hret, hZ, rfl, hok⟩ := C
  intro H locs ls hl hP hD hS
  exact lv_ldc hx hb hown (hts _ hc) (xat hok hT) (kf H locs ls hl hP hD hS)
theorem x_ldcw {G : xG} {Y : xD} {M : xM} {T : xL} {R0 : Room} {k n pc : Nat} {lv : List (Nat × Value)} {st : List Value} {w : va_W} (C : xC G Y M T R0) (j : Nat) {idx : Nat} {v : Int32} (hT : T[j]? = some (pc, .ldc_w idx, 3)) (hc : Cond.constant M.1.cls idx v ∈ xtbl) (kf : X G Y k n (pc + 3) lv (.int v :: st) w) : X G Y k n pc lv st w := by
  obtain ⟨p, l, e, R, s, m, args, below, meth, c, A, nL, Q⟩ := G
  obtain ⟨hx, hb, hml, rfl, hown, hts, hnw, hK, hA, hlocks, hnm, hret, hZ, rfl, hok⟩ := C
  intro H locs ls hl hP hD hS
  exact lv_ldcw hx hb hown (hts _ hc) (xat hok hT) (kf H locs ls hl hP hD hS)
theorem x_ldc2 {G : xG} {Y : xD} {M : xM} {T : xL} {R0 : Room} {k n pc : Nat} {lv : List (Nat × Value)} {st : List Value} {w : va_W} (C : xC G Y M T R0) (j : Nat) {idx : Nat} {v : Int64} (hT : T[j]? = some (pc, .ldc2_w idx, 3)) (hc : Cond.constantLong M.1.cls idx v ∈ xtbl) (kf : X G Y k n (pc + 3) lv (.long v :: st) w) : X G Y k n pc lv st w := by
  obtain ⟨p, l, e, R, s, m, args, below, meth, c, A, nL, Q⟩ := G
  obtain ⟨hx, hb, hml, rfl, hown, hts, hnw, hK, hA, hlocks, hnm, hret, hZ, rfl, hok⟩ := C
  intro H locs ls hl hP hD hS
  exact lv_ldc2 hx hb hown (hts _ hc) (xat hok hT) (kf H locs ls hl hP hD hS)
