def xtbl : List Cond := lw_tbl.filter goodWord
def xisn : Cond → Bool
  | .fieldLinkNest .. => true
  | .methodLinkNest .. => true
  | .arrayOver (.object _) => true
  | _ => false
def xnw : List Cond := lw_tbl.filter xisn
def xwg (M : xM) : List Cond := .code M.1 M.2.1 M.2.2.1 M.2.2.2 :: xtbl
/-! ===== the layer: a frame of a method over a world; rules that take several instructions at once ===== -/
abbrev xD : Type := va_G × (Nat → ClassId) × Nat
abbrev xG : Type := Program × Launch × Env × Room × State × MethodId × Array Value × List Frame × Method × Code × (Nat → Prop) × Nat × (State → Prop)
def xtys (Y : xD) : List (ClassId × FieldType) := [(Y.2.1 0, .int), (Y.2.1 1, .long), (Y.2.1 2, .byte), (Y.2.1 3, .boolean), (Y.2.1 4, .object RX1), (Y.2.1 5, .object RX3)]
abbrev cI (Y : xD) (n : Nat) (f : Nat → Int32) : va_E := .inl (Y.2.1 0, n, .inl f)
abbrev cJ (Y : xD) (n : Nat) (f : Nat → Int64) : va_E := .inl (Y.2.1 1, n, .inr (.inl f))
abbrev cB (Y : xD) (n : Nat) (f : Nat → Int32) : va_E := .inl (Y.2.1 2, n, .inl f)
abbrev cZ (Y : xD) (n : Nat) (f : Nat → Int32) : va_E := .inl (Y.2.1 3, n, .inl f)
abbrev cQ (Y : xD) (n : Nat) (f : Nat → Option Nat) : va_E := .inl (Y.2.1 4, n, .inr (.inr (.inr (.inr f))))
abbrev cR (Y : xD) (n : Nat) (f : Nat → Option Nat) : va_E := .inl (Y.2.1 5, n, .inr (.inr (.inr (.inr f))))
abbrev cO (ci : Nat) (fs : List Value) : va_E := .inr (ci, fs)
def xcolL : List Int32 := [-966564955, -126059388, -294160487, -159679603, -855539, -697603139, -563122255, -1849309868, 1613770832, 33620227, -832084055, 1445669757, -402719207, -1244145822, 1303096294, -327780710, -1882535355, 528646813, -1983264448, -92439161, -268764651, -1302767125, -1907931191, -68095989, 1101901292, -1277897625, 1604494077, 1169141738, 597466303, 1403299063, -462261610, -1681866661, 1974974402, -503448292, 1033081774, 1277568618, 1815492186, 2118074177, -168298750, -2083730353, 1748251740, 1369810420, -773462732, -101584632, -495881837, -1411852173, 1647391059, 706024767, 134480908, -1782069422, 1176707941, -1648114850, 806885416, 932615841, 168101135, 798661301, 235341577, 605164086, 461406363, -538779075, -840176858, 1311188841, 2142417613, -361400929, 302582043, 495158174, 1479289972, 874125870, 907746093, -596742478, -1269146898, 1537253627, -1538108682, 1983593293, -1210657183, 2108928974, 1378429307, -572267714, 1580150641, 327451799, -1504488459, -1177431704, 0, -1041371860, 1075847264, -469959649, 2041688520, -1235526675, -731223362, -1916023994, 1740553945, 1916352843, -1807070498, -1739830060, -1336387352, -2049978550, -1143943061, -974131414, 1336584933, -302253290, -2042412091, -1706209833, 1714631509, 293963156, -1975171633, -369493744, 67240454, -25198719, -1605349136, 2017213508, 631218106, 1269344483, -1571728909, 1571005438, -2143272768, 93294474, 1066570413, 563977660, 1882732616, -235539196, 1673313503, 2008463041, -1344611723, 1109467491, 537923632, -436207846, -34344178, -1076702611, -2117218996, 403442708, 638784309, -1007883217, -1101045791, 899127202, -2008791860, 773265209, -1815821225, 1437050866, -58818942, 2050833735, -932944724, -1168286233, 840505643, -428641387, -1067425632, 427917720, -1638969391, -1545806721, 1143087718, 1412049534, 999329963, 193497219, -1941551414, -940642775, 1807268051, 672404540, -1478566279, -1134666014, 369822493, -1378100362, -606019525, 1681011286, 1949973070, 336202270, -1840690725, 201721354, 1210328172, -1201906460, -1614626211, -1110191250, 1135389935, -1000185178, 965841320, 831886756, -739974089, -226920053, -706222286, -1949775805, 1849112409, -630362697, 26054028, -1311386268, -1672589614, 1235855840, -663982924, -1403627782, -202050553, -806688219, -899324497, -193299826, 1202630377, 268961816, 1874508501, -260540280, 1243948399, 1546530418, 941366308, 1470539505, 1941222599, -1748580783, -873928669, -1579295364, -395021156, 1042226977, -1773450275, 1639824860, 227249030, 260737669, -529502064, 2084453954, 1907733956, -865704278, -1874310952, 100860677, -134810111, 470683154, -1033805405, 1781871967, -1370007559, 1773779408, 394692241, -1715355304, 974986535, 664706745, -639508168, -336005101, 731420851, 571543859, -764843589, -1445340816, 126783113, 865375399, 765172662, 1008606754, 361203602, -907417312, -2016489911, -1437248001, 1344809080, -1512054918, 59542671, 1503764984, 160008576, 437062935, 1707065306, -672733647, -2076032314, -798463816, -2109652541, 697932208, 1512910199, 504303377, 2075177163, -1470868228, 1841019862, 739644986]
def xcol (j : Nat) : Int32 := xcolL.getD j 0
def xZ (Y : xD) (A : Nat → Prop) (U : State) (H : Heap) : Prop := va_Z RX0 "COLUMN_OF" "[I" (.ref Y.2.2) A U H ∧ va_T .int Y.2.2 256 (fun j => .int (xcol j)) A U H
def X (G : xG) (Y : xD) (k n pc : Nat) (lv : List (Nat × Value)) (st : List Value) (w : va_W) : Prop := match G with
  | (p, l, e, R, s, m, args, below, meth, c, A, nL, Q) => ∀ (H : Heap) (locs : List Loc) (ls : Array Slot), lv_has ls nL lv → va_P Y.1 vwCl w H → va_D A w → va_S A s.heap H locs → W p l e R s m args below meth c H locs k n Q (F0 m pc ls st)
def xC (G : xG) (Y : xD) (M : xM) (T : xL) (R0 : Room) : Prop := match G with
  | (p, l, e, R, s, m, args, below, meth, c, A, nL, Q) => p.tables.exec = Jvm.exec ∧ c.code = M.2.1 ∧ c.maxLocals = M.2.2.1 ∧ nL = M.2.2.1 ∧ s.vm.findClass M.1.cls = some m.cls ∧ (∀ w ∈ xtbl, w.before args s = true) ∧ (∀ w ∈ xnw, w.before #[] s = true) ∧ va_K Y.1 vwCl (xtys Y) s ∧ (∀ q, s.heap.size ≤ q → A q) ∧ meth.locks = false ∧ meth.name = M.1.name ∧ meth.sig.returnType = M.2.2.2 ∧ xZ Y A s s.heap ∧ R = R0 ∧ okT M.2.1 T = true
theorem xdec {cc : ByteArray} {T : xL} (h : okT cc T = true) {x : Nat × Instr × Nat} (hx : x ∈ T) : decode cc x.1 = .ok (x.2.1, x.2.2) := of_decide_eq_true (List.all_eq_true.mp h x hx)
theorem xat {cc : ByteArray} {T : xL} (h : okT cc T = true) {j pc len : Nat} {i : Instr} (hx : T[j]? = some (pc, i, len)) : decode cc pc = .ok (i, len) := xdec h (x := (pc, i, len)) (List.mem_of_getElem? hx)
-- locals
def xget : List (Nat × Value) → Nat → Option Value
  | [], _ => none
  | q :: r, i => bif Nat.beq q.1 i then some q.2 else xget r i
theorem xget_pos {i : Nat} {v : Value} : ∀ {lv : List (Nat × Value)}, xget lv i = some v → ∃ k : Nat, lv[k]? = some (i, v)
  | [], h => by simp [xget] at h
  | q :: r, h => by
    unfold xget at h
    cases hb : Nat.beq q.1 i with
    | true =>
      rw [hb] at h
      have e1 : q.1 = i := Nat.eq_of_beq_eq_true hb
      have e2 : q.2 = v := Option.some.inj h
      exact ⟨0, by rw [← e1, ← e2]; rfl⟩
    | false =>
      rw [hb] at h
      obtain ⟨k, hk⟩ := xget_pos (lv := r) h
      exact ⟨k + 1, hk⟩
theorem xget_has {ls : Array Slot} {nL i : Nat} {lv : List (Nat × Value)} {v : Value} (h : lv_has ls nL lv) (hg : xget lv i = some v) : ls[i]? = some (.val v) := by
  obtain ⟨k, hk⟩ := xget_pos hg
  exact lv_at h k hk
def xput (lv : List (Nat × Value)) (i : Nat) (v : Value) : List (Nat × Value) := (i, v) :: lv.filter (fun q => !(q.1 == i) && !(q.1 + 1 == i && q.2.category == 2))
def xputL (lv : List (Nat × Value)) (i : Nat) (v : Value) : List (Nat × Value) := (i, v) :: lv.filter (fun q => !(q.1 == i) && (!(q.1 == i + 1) && !(q.1 + 1 == i && q.2.category == 2)))
abbrev xS : Type := Nat × List (Nat × Value) × List Value
def xbI (f : Int32 → Int32 → Int32) (pc : Nat) (lv : List (Nat × Value)) : List Value → Option xS
  | .int y :: .int x :: r => some (pc + 1, lv, .int (f x y) :: r)
  | _ => none
def xbJ (f : Int64 → Int64 → Int64) (pc : Nat) (lv : List (Nat × Value)) : List Value → Option xS
  | .long y :: .long x :: r => some (pc + 1, lv, .long (f x y) :: r)
  | _ => none
def xsJ (f : Int64 → Int32 → Int64) (pc : Nat) (lv : List (Nat × Value)) : List Value → Option xS
  | .int y :: .long x :: r => some (pc + 1, lv, .long (f x y) :: r)
  | _ => none
def xuI (f : Int32 → Int32) (pc : Nat) (lv : List (Nat × Value)) : List Value → Option xS
  | .int x :: r => some (pc + 1, lv, .int (f x) :: r)
  | _ => none
theorem xbI_i {f : Int32 → Int32 → Int32} {pc : Nat} {lv : List (Nat × Value)} {st : List Value} {q : xS} (h : xbI f pc lv st = some q) : ∃ y x r, st = .int y :: .int x :: r ∧ q = (pc + 1, lv, .int (f x y) :: r) := by
  unfold xbI at h
  split at h
  · exact ⟨_, _, _, rfl, (Option.some.inj h).symm⟩
  · cases h
theorem xbJ_i {f : Int64 → Int64 → Int64} {pc : Nat} {lv : List (Nat × Value)} {st : List Value} {q : xS} (h : xbJ f pc lv st = some q) : ∃ y x r, st = .long y :: .long x :: r ∧ q = (pc + 1, lv, .long (f x y) :: r) := by
  unfold xbJ at h
  split at h
  · exact ⟨_, _, _, rfl, (Option.some.inj h).symm⟩
  · cases h
theorem xsJ_i {f : Int64 → Int32 → Int64} {pc : Nat} {lv : List (Nat × Value)} {st : List Value} {q : xS} (h : xsJ f pc lv st = some q) : ∃ y x r, st = .int y :: .long x :: r ∧ q = (pc + 1, lv, .long (f x y) :: r) := by
  unfold xsJ at h
  split at h
  · exact ⟨_, _, _, rfl, (Option.some.inj h).symm⟩
  · cases h
theorem xuI_i {f : Int32 → Int32} {pc : Nat} {lv : List (Nat × Value)} {st : List Value} {q : xS} (h : xuI f pc lv st = some q) : ∃ x r, st = .int x :: r ∧ q = (pc + 1, lv, .int (f x) :: r) := by
  unfold xuI at h
  split at h
  · exact ⟨_, _, rfl, (Option.some.inj h).symm⟩
  · cases h
def xldI (pc : Nat) (lv : List (Nat × Value)) (st : List Value) : Option Value → Option xS
  | some (.int x) => some (pc, lv, .int x :: st)
  | _ => none
def xldJ (pc : Nat) (lv : List (Nat × Value)) (st : List Value) : Option Value → Option xS
  | some (.long x) => some (pc, lv, .long x :: st)
  | _ => none
def xldA (pc : Nat) (lv : List (Nat × Value)) (st : List Value) : Option Value → Option xS
  | some (.ref x) => some (pc, lv, .ref x :: st)
  | some .null => some (pc, lv, .null :: st)
  | _ => none
theorem xldI_i {pc : Nat} {lv : List (Nat × Value)} {st : List Value} {o : Option Value} {q : xS} (h : xldI pc lv st o = some q) : ∃ x, o = some (.int x) ∧ q = (pc, lv, .int x :: st) := by
  unfold xldI at h
  split at h
  · exact ⟨_, rfl, (Option.some.inj h).symm⟩
  · cases h
theorem xldJ_i {pc : Nat} {lv : List (Nat × Value)} {st : List Value} {o : Option Value} {q : xS} (h : xldJ pc lv st o = some q) : ∃ x, o = some (.long x) ∧ q = (pc, lv, .long x :: st) := by
  unfold xldJ at h
  split at h
  · exact ⟨_, rfl, (Option.some.inj h).symm⟩
  · cases h
theorem xldA_i {pc : Nat} {lv : List (Nat × Value)} {st : List Value} {o : Option Value} {q : xS} (h : xldA pc lv st o = some q) : (∃ x, o = some (.ref x) ∧ q = (pc, lv, .ref x :: st)) ∨ (o = some .null ∧ q = (pc, lv, .null :: st)) := by
  unfold xldA at h
  split at h
  · exact Or.inl ⟨_, rfl, (Option.some.inj h).symm⟩
  · exact Or.inr ⟨rfl, (Option.some.inj h).symm⟩
  · cases h
def xstI (nL pc i : Nat) (lv : List (Nat × Value)) : List Value → Option xS
  | .int x :: r => bif Nat.blt i nL then some (pc, xput lv i (.int x), r) else none
  | _ => none
def xstJ (nL pc i : Nat) (lv : List (Nat × Value)) : List Value → Option xS
  | .long x :: r => bif Nat.blt (i + 1) nL then some (pc, xputL lv i (.long x), r) else none
  | _ => none
def xstA (nL pc i : Nat) (lv : List (Nat × Value)) : List Value → Option xS
  | .ref x :: r => bif Nat.blt i nL then some (pc, xput lv i (.ref x), r) else none
  | .null :: r => bif Nat.blt i nL then some (pc, xput lv i .null, r) else none
  | _ => none
theorem xbif {a b : Nat} {α : Type} {q z : α} (h : (bif Nat.blt a b then some q else none) = some z) : a < b ∧ z = q := by
  cases hb : Nat.blt a b with
  | true => rw [hb] at h; exact ⟨Nat.lt_of_lt_of_le (Nat.lt_succ_self a) (Nat.le_of_ble_eq_true hb), (Option.some.inj h).symm⟩
  | false => rw [hb] at h; cases h
theorem xstI_i {nL pc i : Nat} {lv : List (Nat × Value)} {st : List Value} {q : xS} (h : xstI nL pc i lv st = some q) : ∃ x r, st = .int x :: r ∧ i < nL ∧ q = (pc, xput lv i (.int x), r) := by
  unfold xstI at h
  split at h
  · exact ⟨_, _, rfl, (xbif h).1, (xbif h).2⟩
  · cases h
theorem xstJ_i {nL pc i : Nat} {lv : List (Nat × Value)} {st : List Value} {q : xS} (h : xstJ nL pc i lv st = some q) : ∃ x r, st = .long x :: r ∧ i + 1 < nL ∧ q = (pc, xputL lv i (.long x), r) := by
  unfold xstJ at h
  split at h
  · exact ⟨_, _, rfl, (xbif h).1, (xbif h).2⟩
  · cases h
theorem xstA_i {nL pc i : Nat} {lv : List (Nat × Value)} {st : List Value} {q : xS} (h : xstA nL pc i lv st = some q) : (∃ x r, st = .ref x :: r ∧ i < nL ∧ q = (pc, xput lv i (.ref x), r)) ∨ (∃ r, st = .null :: r ∧ i < nL ∧ q = (pc, xput lv i .null, r)) := by
  unfold xstA at h
  split at h
  · exact Or.inl ⟨_, _, rfl, (xbif h).1, (xbif h).2⟩
  · exact Or.inr ⟨_, rfl, (xbif h).1, (xbif h).2⟩
  · cases h
def xinc (nL pc i : Nat) (v : Int) (lv : List (Nat × Value)) (st : List Value) : Option Value → Option xS
  | some (.int x) => bif Nat.blt i nL then some (pc, xput lv i (.int (x + Int32.ofInt v)), st) else none
  | _ => none
theorem xinc_i {nL pc i : Nat} {v : Int} {lv : List (Nat × Value)} {st : List Value} {o : Option Value} {q : xS} (h : xinc nL pc i v lv st o = some q) : ∃ x, o = some (.int x) ∧ i < nL ∧ q = (pc, xput lv i (.int (x + Int32.ofInt v)), st) := by
  unfold xinc at h
  split at h
  · exact ⟨_, rfl, (xbif h).1, (xbif h).2⟩
  · cases h
def xdup (pc : Nat) (lv : List (Nat × Value)) : List Value → Option xS
  | a :: r => bif Nat.beq a.category 1 then some (pc + 1, lv, a :: a :: r) else none
  | _ => none
def xdup2 (pc : Nat) (lv : List (Nat × Value)) : List Value → Option xS
  | a :: b :: r => bif Nat.beq a.category 1 && Nat.beq b.category 1 then some (pc + 1, lv, a :: b :: a :: b :: r) else none
  | _ => none
theorem xdup_i {pc : Nat} {lv : List (Nat × Value)} {st : List Value} {q : xS} (h : xdup pc lv st = some q) : ∃ a r, st = a :: r ∧ a.category = 1 ∧ q = (pc + 1, lv, a :: a :: r) := by
  unfold xdup at h
  split at h
  · rename_i a r
    cases hb : Nat.beq a.category 1 with
    | true => rw [hb] at h; exact ⟨_, _, rfl, Nat.eq_of_beq_eq_true hb, (Option.some.inj h).symm⟩
    | false => rw [hb] at h; cases h
  · cases h
theorem xdup2_i {pc : Nat} {lv : List (Nat × Value)} {st : List Value} {q : xS} (h : xdup2 pc lv st = some q) : ∃ a b r, st = a :: b :: r ∧ a.category = 1 ∧ b.category = 1 ∧ q = (pc + 1, lv, a :: b :: a :: b :: r) := by
  unfold xdup2 at h
  split at h
  · rename_i a b r
    cases hb : Nat.beq a.category 1 <;> cases hc : Nat.beq b.category 1 <;> rw [hb, hc] at h
    · cases h
    · cases h
    · cases h
    · exact ⟨_, _, _, rfl, Nat.eq_of_beq_eq_true hb, Nat.eq_of_beq_eq_true hc, (Option.some.inj h).symm⟩
  · cases h
def xdvI (f : Int32 → Int32 → Int32) (pc : Nat) (lv : List (Nat × Value)) : List Value → Option xS
  | .int y :: .int x :: r => if y = 0 then none else some (pc + 1, lv, .int (f x y) :: r)
  | _ => none
theorem xdvI_i {f : Int32 → Int32 → Int32} {pc : Nat} {lv : List (Nat × Value)} {st : List Value} {q : xS} (h : xdvI f pc lv st = some q) : ∃ y x r, st = .int y :: .int x :: r ∧ ¬ y = 0 ∧ q = (pc + 1, lv, .int (f x y) :: r) := by
  unfold xdvI at h
  split at h
  · split at h
    · cases h
    · rename_i hz
      exact ⟨_, _, _, rfl, hz, (Option.some.inj h).symm⟩
  · cases h
def xcmpJ (pc : Nat) (lv : List (Nat × Value)) : List Value → Option xS
  | .long y :: .long x :: r => some (pc + 1, lv, .int (lg_cmp x y) :: r)
  | _ => none
theorem xcmpJ_i {pc : Nat} {lv : List (Nat × Value)} {st : List Value} {q : xS} (h : xcmpJ pc lv st = some q) : ∃ y x r, st = .long y :: .long x :: r ∧ q = (pc + 1, lv, .int (lg_cmp x y) :: r) := by
  unfold xcmpJ at h
  split at h
  · exact ⟨_, _, _, rfl, (Option.some.inj h).symm⟩
  · cases h
def xi2l (pc : Nat) (lv : List (Nat × Value)) : List Value → Option xS
  | .int x :: r => some (pc + 1, lv, .long x.toInt64 :: r)
  | _ => none
def xl2i (pc : Nat) (lv : List (Nat × Value)) : List Value → Option xS
  | .long x :: r => some (pc + 1, lv, .int x.toInt32 :: r)
  | _ => none
theorem xi2l_i {pc : Nat} {lv : List (Nat × Value)} {st : List Value} {q : xS} (h : xi2l pc lv st = some q) : ∃ x r, st = .int x :: r ∧ q = (pc + 1, lv, .long x.toInt64 :: r) := by
  unfold xi2l at h
  split at h
  · exact ⟨_, _, rfl, (Option.some.inj h).symm⟩
  · cases h
theorem xl2i_i {pc : Nat} {lv : List (Nat × Value)} {st : List Value} {q : xS} (h : xl2i pc lv st = some q) : ∃ x r, st = .long x :: r ∧ q = (pc + 1, lv, .int x.toInt32 :: r) := by
  unfold xl2i at h
  split at h
  · exact ⟨_, _, rfl, (Option.some.inj h).symm⟩
  · cases h
def xgo (lv : List (Nat × Value)) (st : List Value) : Int → Option xS
  | .ofNat t => some (t, lv, st)
  | _ => none
theorem xgo_i {lv : List (Nat × Value)} {st : List Value} {z : Int} {q : xS} (h : xgo lv st z = some q) : ∃ t : Nat, z = (t : Int) ∧ q = (t, lv, st) := by
  unfold xgo at h
  split at h
  · exact ⟨_, rfl, (Option.some.inj h).symm⟩
  · cases h
def xlen : Instr → Nat
  | .bipush _ => 2
  | .sipush _ => 3
  | .iload _ => 2
  | .lload _ => 2
  | .aload _ => 2
  | .istore _ => 2
  | .lstore _ => 2
  | .astore _ => 2
  | .iinc _ _ => 3
  | .goto _ => 3
  | _ => 1
def xp1 (nL : Nat) (i : Instr) (pc : Nat) (lv : List (Nat × Value)) (st : List Value) : Option xS := match i with
  | .iconst v => some (pc + 1, lv, .int (Int32.ofInt v) :: st)
  | .bipush v => some (pc + 2, lv, .int (Int8.ofInt v).toInt32 :: st)
  | .sipush v => some (pc + 3, lv, .int (Int16.ofInt v).toInt32 :: st)
  | .lconst v => some (pc + 1, lv, .long (Int64.ofNat (v : Nat)) :: st)
  | .aconst_null => some (pc + 1, lv, .null :: st)
  | .iload_n q => xldI (pc + 1) lv st (xget lv (q : Nat))
  | .iload q => xldI (pc + 2) lv st (xget lv q)
  | .lload_n q => xldJ (pc + 1) lv st (xget lv (q : Nat))
  | .lload q => xldJ (pc + 2) lv st (xget lv q)
  | .aload_n q => xldA (pc + 1) lv st (xget lv (q : Nat))
  | .aload q => xldA (pc + 2) lv st (xget lv q)
  | .istore_n q => xstI nL (pc + 1) (q : Nat) lv st
  | .istore q => xstI nL (pc + 2) q lv st
  | .lstore_n q => xstJ nL (pc + 1) (q : Nat) lv st
  | .lstore q => xstJ nL (pc + 2) q lv st
  | .astore_n q => xstA nL (pc + 1) (q : Nat) lv st
  | .astore q => xstA nL (pc + 2) q lv st
  | .iinc q v => xinc nL (pc + 3) q v lv st (xget lv q)
  | .iadd => xbI (fun x y => x + y) pc lv st
  | .isub => xbI (fun x y => x - y) pc lv st
  | .imul => xbI (fun x y => x * y) pc lv st
  | .iand => xbI (fun x y => x &&& y) pc lv st
  | .ior => xbI (fun x y => x ||| y) pc lv st
  | .ixor => xbI (fun x y => x ^^^ y) pc lv st
  | .ishl => xbI (fun x y => x <<< (y &&& 31)) pc lv st
  | .ishr => xbI (fun x y => x >>> (y &&& 31)) pc lv st
  | .iushr => xbI (fun x y => (x.toUInt32 >>> (y.toUInt32 &&& Int32.toUInt32 31)).toInt32) pc lv st
  | .lsub => xbJ (fun x y => x - y) pc lv st
  | .ladd => xbJ (fun x y => x + y) pc lv st
  | .land => xbJ (fun x y => x &&& y) pc lv st
  | .lor => xbJ (fun x y => x ||| y) pc lv st
  | .lxor => xbJ (fun x y => x ^^^ y) pc lv st
  | .lshl => xsJ (fun x y => x <<< (y.toInt64 &&& 63)) pc lv st
  | .lshr => xsJ (fun x y => x >>> (y.toInt64 &&& 63)) pc lv st
  | .lushr => xsJ (fun x y => (x.toUInt64 >>> (y.toInt64.toUInt64 &&& Int64.toUInt64 63)).toInt64) pc lv st
  | .idiv => xdvI (fun x y => x / y) pc lv st
  | .irem => xdvI (fun x y => x - x / y * y) pc lv st
  | .i2b => xuI (fun x => x.toInt8.toInt32) pc lv st
  | .i2s => xuI (fun x => x.toInt16.toInt32) pc lv st
  | .i2c => xuI (fun x => (x.toUInt32 % 65536).toInt32) pc lv st
  | .i2l => xi2l pc lv st
  | .l2i => xl2i pc lv st
  | .lcmp => xcmpJ pc lv st
  | .dup => xdup pc lv st
  | .dup2 => xdup2 pc lv st
  | .goto off => xgo lv st ((pc : Int) + off)
  | _ => none
set_option maxHeartbeats 8000000 in
theorem xp1_ok {G : xG} {Y : xD} {M : xM} {T : xL} {R0 : Room} {k n pc : Nat} {lv : List (Nat × Value)} {st : List Value} {w : va_W} {i : Instr} {q : xS} (C : xC G Y M T R0) (hd : decode M.2.1 pc = .ok (i, xlen i)) (h : xp1 M.2.2.1 i pc lv st = some q) (kk : X G Y k n q.1 q.2.1 q.2.2 w) : X G Y k n pc lv st w := by
  obtain ⟨p, l, e, R, s, m, args, below, meth, c, A, nL, Q⟩ := G
  obtain ⟨hx, hb, hml, rfl, -⟩ := C
  intro H locs ls hl hP hD hS
  have kk : ∀ ls : Array Slot, lv_has ls M.2.2.1 q.2.1 → W p l e R s m args below meth c H locs k n Q (F0 m q.1 ls q.2.2) := fun ls hl => kk H locs ls hl hP hD hS
  unfold xp1 at h
  split at h
  · cases h
    exact lv_iconst hx hb hd rfl (kk ls hl)
  · cases h
    exact lv_bipush hx hb hd rfl (kk ls hl)
  · cases h
    exact lv_sipush hx hb hd rfl (kk ls hl)
  · cases h
    exact lv_lconst hx hb hd rfl (kk ls hl)
  · cases h
    exact lv_null hx hb hd (kk ls hl)
  · obtain ⟨x, hg, rfl⟩ := xldI_i h
    exact lv_iload_n hx hb hd rfl (xget_has hl hg) (kk ls hl)
  · obtain ⟨x, hg, rfl⟩ := xldI_i h
    exact lv_iload hx hb hd (xget_has hl hg) (kk ls hl)
  · obtain ⟨x, hg, rfl⟩ := xldJ_i h
    exact lv_lload_n hx hb hd rfl (xget_has hl hg) (kk ls hl)
  · obtain ⟨x, hg, rfl⟩ := xldJ_i h
    exact lv_lload hx hb hd (xget_has hl hg) (kk ls hl)
  · rcases xldA_i h with ⟨x, hg, rfl⟩ | ⟨hg, rfl⟩
    · exact lv_aload_n hx hb hd rfl (xget_has hl hg) (kk ls hl)
    · exact lv_aload_nN hx hb hd rfl (xget_has hl hg) (kk ls hl)
  · rcases xldA_i h with ⟨x, hg, rfl⟩ | ⟨hg, rfl⟩
    · exact lv_aload hx hb hd (xget_has hl hg) (kk ls hl)
    · exact lv_aloadN hx hb hd (xget_has hl hg) (kk ls hl)
  · obtain ⟨x, r, rfl, hn, rfl⟩ := xstI_i h
    exact lv_istore_n hx hb hd rfl hl hn rfl (fun ls hl => kk ls hl)
  · obtain ⟨x, r, rfl, hn, rfl⟩ := xstI_i h
    exact lv_istore hx hb hd hl hn rfl (fun ls hl => kk ls hl)
  · obtain ⟨x, r, rfl, hn, rfl⟩ := xstJ_i h
    exact lv_lstore_n hx hb hd rfl hl hn rfl (fun ls hl => kk ls hl)
  · obtain ⟨x, r, rfl, hn, rfl⟩ := xstJ_i h
    exact lv_lstore hx hb hd hl hn rfl (fun ls hl => kk ls hl)
  · rcases xstA_i h with ⟨x, r, rfl, hn, rfl⟩ | ⟨r, rfl, hn, rfl⟩
    · exact lv_astore_n hx hb hd rfl hl hn rfl (fun ls hl => kk ls hl)
    · exact lv_astore_nN hx hb hd rfl hl hn rfl (fun ls hl => kk ls hl)
  · rcases xstA_i h with ⟨x, r, rfl, hn, rfl⟩ | ⟨r, rfl, hn, rfl⟩
    · exact lv_astore hx hb hd hl hn rfl (fun ls hl => kk ls hl)
    · exact lv_astoreN hx hb hd hl hn rfl (fun ls hl => kk ls hl)
  · obtain ⟨x, hg, hn, rfl⟩ := xinc_i h
    obtain ⟨j, hj⟩ := xget_pos hg
    exact lv_iinc hx hb hd hl hj rfl hn rfl (fun ls hl => kk ls hl)
  · obtain ⟨y, x, r, rfl, rfl⟩ := xbI_i h
    exact lv_iadd hx hb hd (kk ls hl)
  · obtain ⟨y, x, r, rfl, rfl⟩ := xbI_i h
    exact lv_isub hx hb hd (kk ls hl)
  · obtain ⟨y, x, r, rfl, rfl⟩ := xbI_i h
    exact lv_imul hx hb hd (kk ls hl)
  · obtain ⟨y, x, r, rfl, rfl⟩ := xbI_i h
    exact lv_iand hx hb hd (kk ls hl)
  · obtain ⟨y, x, r, rfl, rfl⟩ := xbI_i h
    exact lv_ior hx hb hd (kk ls hl)
  · obtain ⟨y, x, r, rfl, rfl⟩ := xbI_i h
    exact lv_ixor hx hb hd (kk ls hl)
  · obtain ⟨y, x, r, rfl, rfl⟩ := xbI_i h
    exact lv_ishl hx hb hd (kk ls hl)
  · obtain ⟨y, x, r, rfl, rfl⟩ := xbI_i h
    exact lv_ishr hx hb hd (kk ls hl)
  · obtain ⟨y, x, r, rfl, rfl⟩ := xbI_i h
    exact lv_iushr hx hb hd rfl (kk ls hl)
  · obtain ⟨y, x, r, rfl, rfl⟩ := xbJ_i h
    exact lv_lsub hx hb hd (kk ls hl)
  · obtain ⟨y, x, r, rfl, rfl⟩ := xbJ_i h
    exact lv_ladd hx hb hd (kk ls hl)
  · obtain ⟨y, x, r, rfl, rfl⟩ := xbJ_i h
    exact lv_land hx hb hd (kk ls hl)
  · obtain ⟨y, x, r, rfl, rfl⟩ := xbJ_i h
    exact lv_lor hx hb hd (kk ls hl)
  · obtain ⟨y, x, r, rfl, rfl⟩ := xbJ_i h
    exact lv_lxor hx hb hd (kk ls hl)
  · obtain ⟨y, x, r, rfl, rfl⟩ := xsJ_i h
    exact lv_lshl hx hb hd rfl (kk ls hl)
  · obtain ⟨y, x, r, rfl, rfl⟩ := xsJ_i h
    exact lv_lshr hx hb hd rfl (kk ls hl)
  · obtain ⟨y, x, r, rfl, rfl⟩ := xsJ_i h
    exact lv_lushr hx hb hd rfl (kk ls hl)
  · obtain ⟨y, x, r, rfl, hz, rfl⟩ := xdvI_i h
    exact lv_idiv hx hb hd hz (kk ls hl)
  · obtain ⟨y, x, r, rfl, hz, rfl⟩ := xdvI_i h
    exact lv_irem hx hb hd hz (kk ls hl)
  · obtain ⟨x, r, rfl, rfl⟩ := xuI_i h
    exact lv_i2b hx hb hd rfl (kk ls hl)
  · obtain ⟨x, r, rfl, rfl⟩ := xuI_i h
    exact lv_i2s hx hb hd rfl (kk ls hl)
  · obtain ⟨x, r, rfl, rfl⟩ := xuI_i h
    exact lv_i2c hx hb hd rfl (kk ls hl)
  · obtain ⟨x, r, rfl, rfl⟩ := xi2l_i h
    exact lv_i2l hx hb hd rfl (kk ls hl)
  · obtain ⟨x, r, rfl, rfl⟩ := xl2i_i h
    exact lv_l2i hx hb hd rfl (kk ls hl)
  · obtain ⟨y, x, r, rfl, rfl⟩ := xcmpJ_i h
    exact W.lcmp hx hb hd (kk ls hl)
  · obtain ⟨a, r, rfl, ha, rfl⟩ := xdup_i h
    exact lv_dup hx hb hd ha (kk ls hl)
  · obtain ⟨a, b, r, rfl, ha, hb2, rfl⟩ := xdup2_i h
    exact lv_dup2_11 hx hb hd ha hb2 (kk ls hl)
  · obtain ⟨t, ht, rfl⟩ := xgo_i h
    exact lv_goto hx hb hd ht (kk ls hl)
  · cases h
def xrun (nL : Nat) : xL → Nat → Nat → List (Nat × Value) → List Value → Option xS
  | _, 0, pc, lv, st => some (pc, lv, st)
  | [], _ + 1, _, _, _ => none
  | x :: r, n + 1, pc, lv, st => bif Nat.beq x.1 pc && Nat.beq x.2.2 (xlen x.2.1) then (match xp1 nL x.2.1 pc lv st with | some q => xrun nL r n q.1 q.2.1 q.2.2 | none => none) else none
theorem xrun_ok {G : xG} {Y : xD} {M : xM} {T : xL} {R0 : Room} {k n : Nat} {w : va_W} (C : xC G Y M T R0) {q : xS} (kk : X G Y k n q.1 q.2.1 q.2.2 w) : ∀ (N : Nat) (L : xL) (pc : Nat) (lv : List (Nat × Value)) (st : List Value), (∀ x ∈ L, decode M.2.1 x.1 = .ok (x.2.1, x.2.2)) → xrun M.2.2.1 L N pc lv st = some q → X G Y k n pc lv st w
  | 0, L, pc, lv, st, _, h => by
    have h : some (pc, lv, st) = some q := by cases L <;> exact h
    cases h
    exact kk
  | N + 1, [], pc, lv, st, _, h => by cases h
  | N + 1, x :: L, pc, lv, st, hL, h => by
    unfold xrun at h
    cases hb : (Nat.beq x.1 pc && Nat.beq x.2.2 (xlen x.2.1)) with
    | false => rw [hb] at h; cases h
    | true =>
      rw [hb] at h
      simp only [cond_true] at h
      have h1 : x.1 = pc := Nat.eq_of_beq_eq_true (by revert hb; cases Nat.beq x.1 pc <;> simp)
      have h2 : x.2.2 = xlen x.2.1 := Nat.eq_of_beq_eq_true (by revert hb; cases Nat.beq x.2.2 (xlen x.2.1) <;> simp)
      have hd := hL x List.mem_cons_self
      rw [h1, h2] at hd
      cases hp : xp1 M.2.2.1 x.2.1 pc lv st with
      | none => rw [hp] at h; cases h
      | some z =>
        rw [hp] at h
        exact xp1_ok C hd hp (xrun_ok C kk N L z.1 z.2.1 z.2.2 (fun x hx => hL x (List.mem_cons_of_mem _ hx)) h)
/-- N pure instructions from the j-th on -/
theorem x_run {G : xG} {Y : xD} {M : xM} {T : xL} {R0 : Room} {k n pc pc' : Nat} {lv lv' : List (Nat × Value)} {st st' : List Value} {w : va_W} (C : xC G Y M T R0) (j N : Nat) (h : xrun M.2.2.1 (T.drop j) N pc lv st = some (pc', lv', st')) (kk : X G Y k n pc' lv' st' w) : X G Y k n pc lv st w := by
  have hT : okT M.2.1 T = true := by
    obtain ⟨p, l, e, R, s, m, args, below, meth, c, A, nL, Q⟩ := G
    exact C.2.2.2.2.2.2.2.2.2.2.2.2.2.2
  exact xrun_ok C (q := (pc', lv', st')) kk N (T.drop j) pc lv st (fun x hx => xdec hT (List.mem_of_mem_drop hx)) h
