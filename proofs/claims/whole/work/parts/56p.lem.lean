/-! ===== lemmas: what a text without a fault gives ===== -/
theorem tcn_c {f h : Nat → Int32} : ∀ {m : Nat}, (∀ k, k < m → f k = h k) → tcn f m = tcn h m
  | 0, _ => rfl
  | m + 1, H => by
    have ih := tcn_c (m := m) (fun k hk => H k (by omega))
    have e := H m (by omega)
    by_cases a : f m = 33
    · rw [tcn_a a, tcn_a (e ▸ a), ih]
    · by_cases b : f m = 94
      · rw [tcn_b b, tcn_b (e ▸ b), ih]
      · rw [tcn_t a b, tcn_t (e ▸ a) (e ▸ b), ih]
/-- the rows of the gates that have been read -/
abbrev qW (n g b : Nat) (sg lf rt tn : Nat → Int32) : Prop := b = tcn sg g ∧ (∀ k, k < g → lf k = nI (tN lf k) ∧ tN lf k < n + k) ∧ (∀ k, k < g → ¬ sg k = 33 → rt k = nI (tN rt k) ∧ tN rt k < n + k) ∧ (∀ k, k < g → sg k = 33 → rt k = -9) ∧ (∀ k, k < g → ¬ sg k = 33 → ¬ sg k = 94 → tn k = nI (tcn sg k)) ∧ (∀ k, k < g → (sg k = 33 ∨ sg k = 94) → tn k = -9)
theorem qW_s {n g b : Nat} {sg lf rt tn : Nat → Int32} {s vl vr : Int32} (W : qW n g b sg lf rt tn) (hl : vl = nI vl.toNatClampNeg ∧ vl.toNatClampNeg < n + g) (hr : ¬ s = 33 → vr = nI vr.toNatClampNeg ∧ vr.toNatClampNeg < n + g) (hr9 : s = 33 → vr = -9) : qW n (g + 1) (b + tnI s) (upd sg g s) (upd lf g vl) (upd rt g vr) (upd tn g (tnV s b)) := by
  obtain ⟨w1, w2, w3, w4, w5, w6⟩ := W
  have cg : ∀ k, k ≤ g → tcn (upd sg g s) k = tcn sg k := fun k hk => tcn_c (fun q hq => upd_ne _ _ (by omega))
  refine ⟨?_, fun k hk => ?_, fun k hk => ?_, fun k hk => ?_, fun k hk => ?_, fun k hk => ?_⟩
  · by_cases a : s = 33
    · rw [tcn_a (by rw [upd_at]; exact a), cg g (Nat.le_refl _), w1]
      subst a
      rfl
    · by_cases c : s = 94
      · rw [tcn_b (by rw [upd_at]; exact c), cg g (Nat.le_refl _), w1]
        subst c
        rfl
      · rw [tcn_t (by rw [upd_at]; exact a) (by rw [upd_at]; exact c), cg g (Nat.le_refl _), w1, show tnI s = 1 by unfold tnI; rw [if_neg c, if_neg a]]
  · by_cases e : k = g
    · subst e
      show upd lf k vl k = nI (upd lf k vl k).toNatClampNeg ∧ (upd lf k vl k).toNatClampNeg < n + k
      rw [upd_at]
      exact hl
    · show upd lf g vl k = nI (upd lf g vl k).toNatClampNeg ∧ (upd lf g vl k).toNatClampNeg < n + k
      rw [upd_ne _ _ e]
      exact w2 k (by omega)
  · by_cases e : k = g
    · subst e
      show ¬ upd sg k s k = 33 → upd rt k vr k = nI (upd rt k vr k).toNatClampNeg ∧ (upd rt k vr k).toNatClampNeg < n + k
      rw [upd_at, upd_at]
      exact hr
    · show ¬ upd sg g s k = 33 → upd rt g vr k = nI (upd rt g vr k).toNatClampNeg ∧ (upd rt g vr k).toNatClampNeg < n + k
      rw [upd_ne _ _ e, upd_ne _ _ e]
      exact w3 k (by omega)
  · by_cases e : k = g
    · subst e
      rw [upd_at, upd_at]
      exact hr9
    · rw [upd_ne _ _ e, upd_ne _ _ e]
      exact w4 k (by omega)
  · by_cases e : k = g
    · subst e
      rw [upd_at, upd_at, cg k (Nat.le_refl _)]
      intro h1 h2
      unfold tnV
      rw [if_neg h2, if_neg h1, w1]
    · rw [upd_ne _ _ e, upd_ne _ _ e, cg k (by omega)]
      exact w5 k (by omega)
  · by_cases e : k = g
    · subst e
      rw [upd_at, upd_at]
      intro h
      unfold tnV
      rcases h with h | h
      · rw [if_neg (by rw [h]; decide), if_pos h]
      · rw [if_pos h]
    · rw [upd_ne _ _ e, upd_ne _ _ e]
      exact w6 k (by omega)
abbrev qV (n : Nat) (Q : rQ) : Prop := qW n Q.2.2.1 Q.2.2.2.1 Q.2.2.2.2.1 Q.2.2.2.2.2.1 Q.2.2.2.2.2.2.1 Q.2.2.2.2.2.2.2
theorem stQ_p (tp : Nat → Nat) {e : Nat} (he : e ≤ 4000) (n : Nat) (Q : rQ) (i : Nat) (hp : Q.1 ≤ 5000 + 20 * i) : (stQ tp e n Q).1 ≤ 5000 + 20 * (i + 1) := by
  show (rmG tp e 59 (gtA tp e n Q).2.2.1 (gtA tp e n Q).2.2.2).1 ≤ _
  have h1 := rmG_le tp he 59 (gtA tp e n Q).2.2.1 (gtA tp e n Q).2.2.2
  have h2 := rgA_le tp he (lkC tp e (skB tp e Q.1)) (n + Q.2.2.1 - 1) (skB tp e Q.1 + 1)
  have h3 := skB_spec tp e Q.1
  unfold gtA at h1 ⊢
  omega
theorem stQ_W {tp : Nat → Nat} {e n : Nat} (he : e ≤ 4000) (hn : 1 ≤ n) (hn6 : n ≤ 16) {Q : rQ} (hp : Q.1 ≤ 6000) (hg : Q.2.2.1 ≤ 40) (W : qV n Q) (F : (stQ tp e n Q).2.1 = -1) : qV n (stQ tp e n Q) ∧ (stQ tp e n Q).2.2.1 = Q.2.2.1 + 1 := by
  have f1 : (gtA tp e n Q).2.2.2 = -1 := rmG_f (show (rmG tp e 59 (gtA tp e n Q).2.2.1 (gtA tp e n Q).2.2.2).2 = -1 from F)
  have eq : stQ tp e n Q = ((rmG tp e 59 (gtA tp e n Q).2.2.1 (gtA tp e n Q).2.2.2).1, (rmG tp e 59 (gtA tp e n Q).2.2.1 (gtA tp e n Q).2.2.2).2, Q.2.2.1 + 1, Q.2.2.2.1 + tnI (lkC tp e (skB tp e Q.1)), upd Q.2.2.2.2.1 Q.2.2.1 (lkC tp e (skB tp e Q.1)), upd Q.2.2.2.2.2.1 Q.2.2.1 (gtA tp e n Q).1, upd Q.2.2.2.2.2.2.1 Q.2.2.1 (gtA tp e n Q).2.1, upd Q.2.2.2.2.2.2.2 Q.2.2.1 (tnV (lkC tp e (skB tp e Q.1)) Q.2.2.2.1)) := by
    unfold stQ
    simp only [if_pos f1]
  have h9 := skB_spec tp e Q.1
  have r1 := rn_nat tp he 0 (n + Q.2.2.1 - 1) (p := skB tp e Q.1 + 1) (by omega) (-1) (by omega) (by decide)
  have hle := rnG_le tp he 0 (nI (n + Q.2.2.1 - 1)) (skB tp e Q.1 + 1) (-1)
  have r2 := rn_nat tp he 0 (n + Q.2.2.1 - 1) (p := (rnG tp e 0 (nI (n + Q.2.2.1 - 1)) (skB tp e Q.1 + 1) (-1)).2.1) (by omega) (rnG tp e 0 (nI (n + Q.2.2.1 - 1)) (skB tp e Q.1 + 1) (-1)).2.2 (by omega) (by decide)
  have a1 : (gtA tp e n Q).1 = (rnG tp e 0 (nI (n + Q.2.2.1 - 1)) (skB tp e Q.1 + 1) (-1)).1 := by
    unfold gtA rgA
    split <;> rfl
  rw [eq]
  refine ⟨qW_s W ?_ (fun h => ?_) (fun h => ?_), rfl⟩
  · rw [a1]
    exact ⟨r1.1, Nat.lt_of_le_of_lt r1.2.1 (by omega)⟩
  · have a2 : (gtA tp e n Q).2.1 = (rnG tp e 0 (nI (n + Q.2.2.1 - 1)) (rnG tp e 0 (nI (n + Q.2.2.1 - 1)) (skB tp e Q.1 + 1) (-1)).2.1 (rnG tp e 0 (nI (n + Q.2.2.1 - 1)) (skB tp e Q.1 + 1) (-1)).2.2).1 := by
      unfold gtA rgA
      rw [if_neg h]
    rw [a2]
    exact ⟨r2.1, Nat.lt_of_le_of_lt r2.2.1 (by omega)⟩
  · unfold gtA rgA
    rw [if_pos h]
theorem rgN_q {tp : Nat → Nat} {e n : Nat} {Q : rQ} (h : ¬ Q.2.1 = -1) : ∀ m i, rgN tp e n m i Q = Q
  | 0, _ => rfl
  | _ + 1, _ => if_neg h
theorem rgN_W {tp : Nat → Nat} {e n : Nat} (he : e ≤ 4000) (hn : 1 ≤ n) (hn6 : n ≤ 16) : ∀ (m i : Nat) (Q : rQ), i + m = 41 → i ≤ 40 → qV n Q → Q.2.2.1 = i → Q.1 ≤ 5000 + 20 * i → (rgN tp e n m i Q).2.1 = -1 → qV n (rgN tp e n m i Q) ∧ (rgN tp e n m i Q).2.2.1 ≤ 40 ∧ (rgN tp e n m i Q).1 ≤ 10000
  | 0, i, Q, h1, h2, _, _, _, _ => absurd h1 (by omega)
  | m + 1, i, Q, h1, h2, W, hg, hp, F => by
    have h9 := skB_spec tp e Q.1
    have un : rgN tp e n (m + 1) i Q = if Q.2.1 = -1 then (if lkC tp e (skB tp e Q.1) = 62 then (skB tp e Q.1 + 1, -1, Q.2.2) else if i = 40 then (skB tp e Q.1, nI (skB tp e Q.1), Q.2.2) else if isS (lkC tp e (skB tp e Q.1)) = 0 then (skB tp e Q.1, nI (skB tp e Q.1), Q.2.2) else rgN tp e n m (i + 1) (stQ tp e n Q)) else Q := rfl
    rw [un] at F ⊢
    by_cases c1 : Q.2.1 = -1
    · rw [if_pos c1] at F ⊢
      by_cases c2 : lkC tp e (skB tp e Q.1) = 62
      · rw [if_pos c2]
        exact ⟨W, (show Q.2.2.1 ≤ 40 by omega), (show skB tp e Q.1 + 1 ≤ 10000 by omega)⟩
      · rw [if_neg c2] at F ⊢
        by_cases c3 : i = 40
        · rw [if_pos c3] at F
          exact absurd (show nI (skB tp e Q.1) = -1 from F) (nI_n1 (by omega))
        · rw [if_neg c3] at F ⊢
          by_cases c4 : isS (lkC tp e (skB tp e Q.1)) = 0
          · rw [if_pos c4] at F
            exact absurd (show nI (skB tp e Q.1) = -1 from F) (nI_n1 (by omega))
          · rw [if_neg c4] at F ⊢
            have c5 : (stQ tp e n Q).2.1 = -1 := by
              by_cases z : (stQ tp e n Q).2.1 = -1
              · exact z
              · rw [rgN_q z] at F
                exact F
            obtain ⟨V, g'⟩ := stQ_W he hn hn6 (by omega) (by omega) W c5
            exact rgN_W he hn hn6 m (i + 1) (stQ tp e n Q) (by omega) (by omega) V (by omega) (stQ_p tp he n Q i hp) F
    · rw [if_neg c1] at F
      exact absurd F c1
/-- the row of the outputs that have been read -/
abbrev oV (v : Nat) (Q : oQ) : Prop := ∀ k, k < Q.2.2.1 → Q.2.2.2 k = nI (tN Q.2.2.2 k) ∧ tN Q.2.2.2 k < v
theorem roN_g {tp : Nat → Nat} {e v : Nat} {Q : oQ} (h : ¬ Q.2.1 = -1) : ∀ m i, roN tp e v m i Q = Q
  | 0, _ => rfl
  | _ + 1, _ => if_neg h
theorem roN_W {tp : Nat → Nat} {e v : Nat} (he : e ≤ 4000) (hv : 1 ≤ v) (hv6 : v ≤ 60) : ∀ (m i : Nat) (Q : oQ), i + m = 9 → i ≤ 8 → oV v Q → Q.2.2.1 = i → Q.1 ≤ 10000 + 20 * i → (roN tp e v m i Q).2.1 = -1 → oV v (roN tp e v m i Q) ∧ (roN tp e v m i Q).2.2.1 ≤ 8
  | 0, i, Q, h1, h2, _, _, _, _ => absurd h1 (by omega)
  | m + 1, i, Q, h1, h2, W, hg, hp, F => by
    have h9 := skB_spec tp e Q.1
    have un : roN tp e v (m + 1) i Q = if Q.2.1 = -1 then (if 0 < i ∧ lkC tp e (skB tp e Q.1) = -1 then (skB tp e Q.1, -1, Q.2.2) else if i = 8 then (skB tp e Q.1, nI (skB tp e Q.1), Q.2.2) else roN tp e v m (i + 1) (sOQ tp e v Q)) else Q := rfl
    rw [un] at F ⊢
    by_cases c1 : Q.2.1 = -1
    · rw [if_pos c1] at F ⊢
      by_cases c2 : 0 < i ∧ lkC tp e (skB tp e Q.1) = -1
      · rw [if_pos c2]
        exact ⟨W, (show Q.2.2.1 ≤ 8 by omega)⟩
      · rw [if_neg c2] at F ⊢
        by_cases c3 : i = 8
        · rw [if_pos c3] at F
          exact absurd (show nI (skB tp e Q.1) = -1 from F) (nI_n1 (by omega))
        · rw [if_neg c3] at F ⊢
          have c5 : (onA tp e v Q).2.2 = -1 := by
            by_cases z : (sOQ tp e v Q).2.1 = -1
            · exact z
            · rw [roN_g z] at F
              exact F
          have r1 := rn_nat tp he 0 (v - 1) (p := skB tp e Q.1) (by omega) (-1) (by omega) (by decide)
          have hle := rnG_le tp he 0 (nI (v - 1)) (skB tp e Q.1) (-1)
          have hp' : (onA tp e v Q).2.1 ≤ 10000 + 20 * (i + 1) := by
            unfold onA
            omega
          have e1 := sOQ_t c5
          rw [e1] at F ⊢
          refine roN_W he hv hv6 m (i + 1) ((onA tp e v Q).2.1, -1, Q.2.2.1 + 1, upd Q.2.2.2 Q.2.2.1 (onA tp e v Q).1) (by omega) (by omega) ?_ (show Q.2.2.1 + 1 = i + 1 by omega) hp' F
          intro k hk
          have hk' : k < Q.2.2.1 + 1 := hk
          show upd Q.2.2.2 Q.2.2.1 (onA tp e v Q).1 k = nI (upd Q.2.2.2 Q.2.2.1 (onA tp e v Q).1 k).toNatClampNeg ∧ (upd Q.2.2.2 Q.2.2.1 (onA tp e v Q).1 k).toNatClampNeg < v
          by_cases z : k = Q.2.2.1
          · rw [z, upd_at]
            exact ⟨r1.1, Nat.lt_of_le_of_lt r1.2.1 (by omega)⟩
          · rw [upd_ne _ _ z]
            exact W k (by omega)
    · rw [if_neg c1] at F
      exact absurd F c1
theorem pq_W {tp : Nat → Nat} {e : Nat} {a b c d : Nat → Int32} (he : e ≤ 4000) (f2 : (pcM tp e).2 = -1) (Q : rQ) (hQ : Q = rgN tp e (pcN tp e) 41 0 ((pcM tp e).1, (pcM tp e).2, 0, 0, a, b, c, d)) (F : Q.2.1 = -1) : qV (pcN tp e) Q ∧ Q.2.2.1 ≤ 40 ∧ Q.1 ≤ 10000 := by
  obtain ⟨_, n1, n16, _, p5⟩ := pcM_1 he f2
  rw [hQ] at F ⊢
  exact rgN_W he n1 n16 41 0 ((pcM tp e).1, (pcM tp e).2, 0, 0, a, b, c, d) (by decide) (by decide) ⟨rfl, fun k hk => absurd hk (Nat.not_lt_zero k), fun k hk => absurd hk (Nat.not_lt_zero k), fun k hk => absurd hk (Nat.not_lt_zero k), fun k hk => absurd hk (Nat.not_lt_zero k), fun k hk => absurd hk (Nat.not_lt_zero k)⟩ rfl p5 F
theorem po_W {tp : Nat → Nat} {e v p0 : Nat} {f0 : Int32} {o : Nat → Int32} (he : e ≤ 4000) (hv : 1 ≤ v) (hv6 : v ≤ 60) (hp : p0 ≤ 10000) (Q : oQ) (hQ : Q = roN tp e v 9 0 (p0, f0, 0, o)) (F : Q.2.1 = -1) : oV v Q ∧ Q.2.2.1 ≤ 8 := by
  rw [hQ] at F ⊢
  exact roN_W he hv hv6 9 0 (p0, f0, 0, o) (by decide) (by decide) (fun k hk => absurd hk (Nat.not_lt_zero k)) rfl hp F
theorem pc_W {tp : Nat → Nat} {e : Nat} {a b c d o : Nat → Int32} (he : e ≤ 4000) (F : (pcO tp e a b c d o).2.1 = -1) : cWF (pcN tp e) (pcQ tp e a b c d).2.2.1 (pcQ tp e a b c d).2.2.2.1 (pcO tp e a b c d o).2.2.1 (pcQ tp e a b c d).2.2.2.2.1 (pcQ tp e a b c d).2.2.2.2.2.1 (pcQ tp e a b c d).2.2.2.2.2.2.1 (pcQ tp e a b c d).2.2.2.2.2.2.2 (pcO tp e a b c d o).2.2.2 := by
  have f1 : (pcQ tp e a b c d).2.1 = -1 := by
    by_cases z : (pcQ tp e a b c d).2.1 = -1
    · exact z
    · exact (F_Q (o := o) z).symm.trans F
  have f2 : (pcM tp e).2 = -1 := by
    by_cases z : (pcM tp e).2 = -1
    · exact z
    · exact (F_M (a := a) (b := b) (c := c) (d := d) (o := o) z).symm.trans F
  obtain ⟨_, n1, n16, _, _⟩ := pcM_1 he f2
  have q := pq_W he f2 (pcQ tp e a b c d) rfl f1
  have hO : pcO tp e a b c d o = roN tp e (pcN tp e + (pcQ tp e a b c d).2.2.1) 9 0 ((pcQ tp e a b c d).1, (pcQ tp e a b c d).2.1, 0, o) := rfl
  generalize pcO tp e a b c d o = O at F hO ⊢
  generalize pcQ tp e a b c d = Q at q hO ⊢
  obtain ⟨⟨w1, w2, w3, w4, w5, w6⟩, g4, p1⟩ := q
  obtain ⟨Vo, o8⟩ := po_W he (by omega) (by omega) p1 O hO F
  exact ⟨⟨n1, n16, g4, o8, w1⟩, w2, w3, w4, w5, w6, Vo⟩
theorem pc_R {tp : Nat → Nat} {e cc : Nat} {a b c d o i1 g1 o1 t1 s1 l1 r1 n1 p1 : Nat → Int32} (K : cOK tp e cc a b c d o i1 g1 o1 t1 s1 l1 r1 n1 p1) : cRL cc (pcN tp e) (pcQ tp e a b c d).2.2.1 (pcQ tp e a b c d).2.2.2.1 (pcO tp e a b c d o).2.2.1 (pcQ tp e a b c d).2.2.2.2.1 (pcQ tp e a b c d).2.2.2.2.2.1 (pcQ tp e a b c d).2.2.2.2.2.2.1 (pcQ tp e a b c d).2.2.2.2.2.2.2 (pcO tp e a b c d o).2.2.2 i1 g1 o1 t1 s1 l1 r1 n1 p1 := ⟨⟨K.g.hn, K.g.hg, K.o, K.g.ht⟩, K.g.s, K.p⟩
theorem cRL_k {c cc n g b o : Nat} {sg lf rt tn ou a0 a1 a2 a3 b0 b1 b2 b3 d0 i1 g1 o1 t1 s1 l1 r1 n1 p1 : Nat → Int32} (W : cWF n g b o sg lf rt tn ou) (R : cRL c n g b o sg lf rt tn ou a0 a1 a2 a3 b0 b1 b2 b3 d0) (K : kpM cc a0 a1 a2 a3 b0 b1 b2 b3 d0 i1 g1 o1 t1 s1 l1 r1 n1 p1) (h : c < cc) : cRL c n g b o sg lf rt tn ou i1 g1 o1 t1 s1 l1 r1 n1 p1 := by
  obtain ⟨⟨x1, x2, x3, x4⟩, y, z⟩ := R
  obtain ⟨k1, k2, k3, k4⟩ := K.1 c h
  have g40 := W.1.2.2.1
  have o8 := W.1.2.2.2.1
  refine ⟨⟨k1.trans x1, k2.trans x2, k3.trans x3, k4.trans x4⟩, fun k hk => ?_, fun k hk => ?_⟩
  · obtain ⟨j1, j2, j3, j4⟩ := K.2.1 (40 * c + k) (by omega)
    obtain ⟨y1, y2, y3, y4⟩ := y k hk
    exact ⟨j1.trans y1, j2.trans y2, j3.trans y3, j4.trans y4⟩
  · exact (K.2.2 (8 * c + k) (by omega)).trans (z k hk)
/-! the fault's place is no number below -1 -/
abbrev nnF (x : Int32) : Prop := x = -1 ∨ 0 ≤ x
theorem rnG_nn {tp : Nat → Nat} {e : Nat} (he : e ≤ 4000) {lo hi : Int32} {p : Nat} {fp : Int32} (hp : p ≤ 100000) (h : nnF fp) : nnF (rnG tp e lo hi p fp).2.2 := by
  have h9 := skB_spec tp e p
  have h8 := (ndg_spec tp e (skB tp e p)).1
  have k1 : nnF (nI (skB tp e p)) := Or.inr (nI_nn (by omega))
  have k2 : nnF (nI (skB tp e p + ndg tp e (skB tp e p))) := Or.inr (nI_nn (by omega))
  unfold rnG
  split
  · unfold rnA
    split
    · exact k1
    · split
      · exact k1
      · split
        · split
          · exact Or.inl rfl
          · exact k2
        · exact k1
  · exact h
theorem rmG_nn {tp : Nat → Nat} {e : Nat} (he : e ≤ 4000) {m : Int32} {p : Nat} {fp : Int32} (hp : p ≤ 100000) (h : nnF fp) : nnF (rmG tp e m p fp).2 := by
  have h9 := skB_spec tp e p
  have k1 : nnF (nI (skB tp e p)) := Or.inr (nI_nn (by omega))
  unfold rmG
  split
  · unfold rmA
    split
    · exact Or.inl rfl
    · exact k1
  · exact h
theorem stQ_nn {tp : Nat → Nat} {e n : Nat} (he : e ≤ 4000) {Q : rQ} (hp : Q.1 ≤ 6000) : nnF (stQ tp e n Q).2.1 := by
  have h9 := skB_spec tp e Q.1
  have h2 := rgA_le tp he (lkC tp e (skB tp e Q.1)) (n + Q.2.2.1 - 1) (skB tp e Q.1 + 1)
  have hle := rnG_le tp he 0 (nI (n + Q.2.2.1 - 1)) (skB tp e Q.1 + 1) (-1)
  have r1 := rnG_nn (tp := tp) he (lo := 0) (hi := nI (n + Q.2.2.1 - 1)) (p := skB tp e Q.1 + 1) (fp := -1) (by omega) (Or.inl rfl)
  have r2 := rnG_nn (tp := tp) he (lo := 0) (hi := nI (n + Q.2.2.1 - 1)) (p := (rnG tp e 0 (nI (n + Q.2.2.1 - 1)) (skB tp e Q.1 + 1) (-1)).2.1) (by omega) r1
  have g : nnF (gtA tp e n Q).2.2.2 := by
    unfold gtA rgA
    split
    · exact r1
    · exact r2
  exact rmG_nn (tp := tp) he (m := 59) (p := (gtA tp e n Q).2.2.1) (by unfold gtA; omega) g
theorem rgN_nn {tp : Nat → Nat} {e n : Nat} (he : e ≤ 4000) : ∀ (m i : Nat) (Q : rQ), i + m = 41 → Q.1 ≤ 5000 + 20 * i → nnF Q.2.1 → nnF (rgN tp e n m i Q).2.1 ∧ (rgN tp e n m i Q).1 ≤ 10000
  | 0, i, Q, h1, hp, h => ⟨h, by show Q.1 ≤ _; omega⟩
  | m + 1, i, Q, h1, hp, h => by
    have h9 := skB_spec tp e Q.1
    have k1 : nnF (nI (skB tp e Q.1)) := Or.inr (nI_nn (by omega))
    have un : rgN tp e n (m + 1) i Q = if Q.2.1 = -1 then (if lkC tp e (skB tp e Q.1) = 62 then (skB tp e Q.1 + 1, -1, Q.2.2) else if i = 40 then (skB tp e Q.1, nI (skB tp e Q.1), Q.2.2) else if isS (lkC tp e (skB tp e Q.1)) = 0 then (skB tp e Q.1, nI (skB tp e Q.1), Q.2.2) else rgN tp e n m (i + 1) (stQ tp e n Q)) else Q := rfl
    rw [un]
    split
    · split
      · exact ⟨Or.inl rfl, by show skB tp e Q.1 + 1 ≤ _; omega⟩
      · split
        · exact ⟨k1, by show skB tp e Q.1 ≤ _; omega⟩
        · split
          · exact ⟨k1, by show skB tp e Q.1 ≤ _; omega⟩
          · exact rgN_nn he m (i + 1) _ (by omega) (stQ_p tp he n Q i hp) (stQ_nn he (by omega))
    · exact ⟨h, by omega⟩
theorem roN_nn {tp : Nat → Nat} {e v : Nat} (he : e ≤ 4000) : ∀ (m i : Nat) (Q : oQ), i + m = 9 → Q.1 ≤ 10000 + 20 * i → nnF Q.2.1 → nnF (roN tp e v m i Q).2.1
  | 0, i, Q, h1, hp, h => h
  | m + 1, i, Q, h1, hp, h => by
    have h9 := skB_spec tp e Q.1
    have k1 : nnF (nI (skB tp e Q.1)) := Or.inr (nI_nn (by omega))
    have hle := rnG_le tp he 0 (nI (v - 1)) (skB tp e Q.1) (-1)
    have r1 := rnG_nn (tp := tp) he (lo := 0) (hi := nI (v - 1)) (p := skB tp e Q.1) (fp := -1) (by omega) (Or.inl rfl)
    have un : roN tp e v (m + 1) i Q = if Q.2.1 = -1 then (if 0 < i ∧ lkC tp e (skB tp e Q.1) = -1 then (skB tp e Q.1, -1, Q.2.2) else if i = 8 then (skB tp e Q.1, nI (skB tp e Q.1), Q.2.2) else roN tp e v m (i + 1) (sOQ tp e v Q)) else Q := rfl
    rw [un]
    split
    · split
      · exact Or.inl rfl
      · split
        · exact k1
        · exact roN_nn he m (i + 1) _ (by omega) (by show (onA tp e v Q).2.1 ≤ _; unfold onA; omega) r1
    · exact h
theorem pq_nn {tp : Nat → Nat} {e n p0 : Nat} {f0 : Int32} {a b c d : Nat → Int32} (he : e ≤ 4000) (hp : p0 ≤ 5000) (h : nnF f0) (Q : rQ) (hQ : Q = rgN tp e n 41 0 (p0, f0, 0, 0, a, b, c, d)) : nnF Q.2.1 ∧ Q.1 ≤ 10000 := by
  rw [hQ]
  exact rgN_nn he 41 0 (p0, f0, 0, 0, a, b, c, d) (by decide) hp h
theorem po_nn {tp : Nat → Nat} {e v p0 : Nat} {f0 : Int32} {o : Nat → Int32} (he : e ≤ 4000) (hp : p0 ≤ 10000) (h : nnF f0) (Q : oQ) (hQ : Q = roN tp e v 9 0 (p0, f0, 0, o)) : nnF Q.2.1 := by
  rw [hQ]
  exact roN_nn he 9 0 (p0, f0, 0, o) (by decide) hp h
theorem pc_nn {tp : Nat → Nat} {e : Nat} {a b c d o : Nat → Int32} (he : e ≤ 4000) : nnF (pcO tp e a b c d o).2.1 := by
  have h9 := skB_spec tp e 0
  have hle := rnG_le tp he 1 16 0 (-1)
  have r1 := rnG_nn (tp := tp) he (lo := 1) (hi := 16) (p := 0) (fp := -1) (by decide) (Or.inl rfl)
  have r2 : nnF (pcM tp e).2 := rmG_nn (tp := tp) he (m := 59) (p := (rnG tp e 1 16 0 (-1)).2.1) (by omega) r1
  have l2 := rmG_le tp he 59 (rnG tp e 1 16 0 (-1)).2.1 (rnG tp e 1 16 0 (-1)).2.2
  have l3 : (pcM tp e).1 ≤ 5000 := by
    unfold pcM
    omega
  have r3 := pq_nn he l3 r2 (pcQ tp e a b c d) rfl
  exact po_nn he r3.2 r3.1 (pcO tp e a b c d o) rfl
theorem pc_z {tp : Nat → Nat} {e : Nat} {a b c d o : Nat → Int32} (he : e ≤ 4000) : ¬ (-1000 - (pcO tp e a b c d o).2.1) = 0 := by
  intro h
  have k : (pcO tp e a b c d o).2.1 = -1000 := by
    generalize (pcO tp e a b c d o).2.1 = x at h
    have e1 := Int32.sub_add_cancel (-1000) x
    rw [h, Int32.zero_add] at e1
    exact e1
  have n := pc_nn (tp := tp) (a := a) (b := b) (c := c) (d := d) (o := o) he
  rw [k] at n
  revert n
  decide
/-! ===== lemmas: keys, words, garbling ===== -/
theorem key_B {ks : Nat → Int32} {tq tp : Nat → Nat} {sz : Nat} (htq : ∀ j, j < sz → tq j = tp j) (htp : ∀ j, tp j < 256) (h : 16 ≤ sz) : ∀ j, j < 16 → tq j = kb (upd (upd (upd (upd ks 0 (jlushr (w8 tp 0 8) 32).toInt32) 1 (w8 tp 0 8).toInt32) 2 (jlushr (w8 tp 8 8) 32).toInt32) 3 (w8 tp 8 8).toInt32) j := by
  intro j hj
  rw [htq j (by omega)]
  unfold kb
  have e : j / 4 = 0 ∨ j / 4 = 1 ∨ j / 4 = 2 ∨ j / 4 = 3 := by omega
  rcases e with e | e | e | e
  · rw [e, upd_ne _ _ (by decide), upd_ne _ _ (by decide), upd_ne _ _ (by decide), upd_at, i32_hi _ _ (by omega), w8_lt tp 0 htp 8 (by decide) _ (by omega)]
    congr 1
    omega
  · rw [e, upd_ne _ _ (by decide), upd_ne _ _ (by decide), upd_at, i32_lo _ _ (by omega), w8_lt tp 0 htp 8 (by decide) _ (by omega)]
    congr 1
    omega
  · rw [e, upd_ne _ _ (by decide), upd_at, i32_hi _ _ (by omega), w8_lt tp 8 htp 8 (by decide) _ (by omega)]
    congr 1
    omega
  · rw [e, upd_at, i32_lo _ _ (by omega), w8_lt tp 8 htp 8 (by decide) _ (by omega)]
    congr 1
    omega
theorem lb2 {F : Nat → Int64} {h l : Int64} {re : Nat → Nat} (H : ∀ b, b < 16 → re b = byW h l b) : ∀ b, b < 16 → re b = byW (lbP F 2 h l (2 * 2)) (lbP F 2 h l (2 * 2 + 1)) b := fun b hb => by
  rw [(lbP_s F 2 h l).1, (lbP_s F 2 h l).2]
  exact H b hb
theorem gRL_old {k G c n g b y kd m : Nat} {gi wo bg bw x1 x2 x3 x4 x5 : Int32} {Z R U : Nat → Int64} {co wy kn sp wk fh : Nat → Int32} {fd fz fz' fr fr' fn gf : Nat → Nat} (H : gRL k c n g b y kd gi wo bg bw Z R U co wy kn sp wk fh fd fz fr fn) (hk : k < G) (hng : n + g ≤ 56) (hb40 : b ≤ 40) (hz : ∀ p, p < 896 * G → fz' p = fz p) (hr : ∀ p, p < 2560 * G → fr' p = fr p) : gRL k c n g b y kd gi wo bg bw Z R U (upd co G x1) (upd wy G x2) (upd kn G x3) (upd sp G x4) (upd wk G x5) (filI fh (56 * G) m 0) (filN fd (16 * G) 16 gf) fz' fr' fn := by
  obtain ⟨⟨h1, h1a, h1b, h1c, h1d⟩, h2, h3, h4, h5, h6, h7, h8⟩ := H
  have ne : k ≠ G := by omega
  refine ⟨⟨?_, ?_, ?_, ?_, ?_⟩, h2, fun v hv q hq => ?_, fun q hq => ?_, fun t r ht hr' hy q hq => ?_, fun v hv => ?_, h7, h8⟩
  · rw [upd_ne _ _ ne]
    exact h1
  · rw [upd_ne _ _ ne]
    exact h1a
  · rw [upd_ne _ _ ne]
    exact h1b
  · rw [upd_ne _ _ ne]
    exact h1c
  · rw [upd_ne _ _ ne]
    exact h1d
  · rw [hz _ (by omega)]
    exact h3 v hv q hq
  · unfold filN
    rw [if_neg (by omega)]
    exact h4 q hq
  · rw [hr _ (by omega)]
    exact h5 t r ht hr' hy q hq
  · unfold filI
    rw [if_neg (by omega)]
    exact h6 v hv
theorem gbV_0 (v : Nat) : gbV 0 v = 0 := by
  unfold gbV
  rw [if_neg]
  intro h
  have e : jushr (0 : Int32) (nI v) = 0 := by
    apply Int32.toBitVec_inj.mp
    apply BitVec.eq_of_toNat_eq
    show ((0 : Int32).toUInt32 >>> ((nI v).toUInt32 &&& Int32.toUInt32 31)).toNat = 0
    rw [UInt32.toNat_shiftRight]
    show 0 >>> _ = 0
    exact Nat.zero_shiftRight _
  rw [e] at h
  exact absurd h (by decide)
theorem hLb_0 (n v : Nat) : hLb 0 0 n v = 0 := by
  unfold hLb
  split
  · exact gbV_0 v
  · rfl
theorem gRL_new {G c n g b y kd m : Nat} {bg : Int32} {S : gS} {U : Nat → Int64} {co wy kn sp wk fh : Nat → Int32} {fd fz fz' fr fr' fn tq tp : Nat → Nat} {T : Nat} (hy : y < 3) (hkd : kd < 5) (I : gI fz' fr' fz fr G y (n + g) T S) (hT : b = T) (htp : ∀ j, tp j < 256) (hq : ∀ q, q < 16 → tq q = tp q) (hS1 : S.1 (2 * 56) = w8 tp 0 8) (hS2 : S.1 (2 * 56 + 1) = (w8 tp (0 + 8) 8 ||| 1)) : gRL G c n g b y kd 0 0 bg 0 S.1 S.2.1 U (upd co G (nI c)) (upd wy G (nI y)) (upd kn G (nI kd)) (upd sp G bg) (upd wk G 0) (filI fh (56 * G) (n + g) 0) (filN fd (16 * G) 16 (fun i => tq i ||| (if i = 15 then 1 else 0))) fz' fr' fn := by
  subst hT
  refine ⟨⟨upd_at _ _ _, upd_at _ _ _, upd_at _ _ _, upd_at _ _ _, upd_at _ _ _⟩, ⟨hy, hkd, Or.inl rfl⟩, I.1, ?_, I.2.1, fun v hv => ?_, fun v hv h => absurd (hLb_0 n v) h, fun k _ _ => BitVec.getLsbD_zero⟩
  · rw [hS1, hS2]
    exact dl_B htp hq
  · unfold filI
    rw [if_pos (by omega), hLb_0]
theorem s56_a {ks sg : Nat → Int32} {y n g : Nat} {lf rg tn : Nat → Nat} {tp : Nat → Nat} {f2 fm : Nat → Int64} {h l : Int64} (hng : n + g ≤ 56) : (mtS ks sg y n lf rg tn ((tkI (tkD (fun _ => 0) tp) tp n), f2, fm, h, l) g).1 (2 * 56) = w8 tp 0 8 ∧ (mtS ks sg y n lf rg tn ((tkI (tkD (fun _ => 0) tp) tp n), f2, fm, h, l) g).1 (2 * 56 + 1) = (w8 tp (0 + 8) 8 ||| 1) := by
  have a := mtS_o (ks := ks) (sg := sg) (y := y) (n := n) (lf := lf) (rg := rg) (tn := tn) (S := ((tkI (tkD (fun _ => 0) tp) tp n), f2, fm, h, l)) (v := 56) g (Or.inr hng)
  have b := tkI_o (tkD (fun _ => 0) tp) tp (v := 56) n (by omega)
  rw [a.1, a.2]
  show tkI (tkD (fun _ => 0) tp) tp n (2 * 56) = _ ∧ tkI (tkD (fun _ => 0) tp) tp n (2 * 56 + 1) = _
  rw [b.1, b.2]
  exact lbP_s _ 56 _ _
theorem s56_b {ks sg tnA : Nat → Int32} {y n g : Nat} {lf rg tn : Nat → Nat} {tp : Nat → Nat} {f2 fm : Nat → Int64} {h l : Int64} (hng : n + g ≤ 56) : (mtS ks sg y n lf rg tn ((tkG (tkI (tkD (fun _ => 0) tp) tp n) tp n tnA g).1, f2, fm, h, l) g).1 (2 * 56) = w8 tp 0 8 ∧ (mtS ks sg y n lf rg tn ((tkG (tkI (tkD (fun _ => 0) tp) tp n) tp n tnA g).1, f2, fm, h, l) g).1 (2 * 56 + 1) = (w8 tp (0 + 8) 8 ||| 1) := by
  have a := mtS_o (ks := ks) (sg := sg) (y := y) (n := n) (lf := lf) (rg := rg) (tn := tn) (S := ((tkG (tkI (tkD (fun _ => 0) tp) tp n) tp n tnA g).1, f2, fm, h, l)) (v := 56) g (Or.inr hng)
  have c := tkG_o (tkI (tkD (fun _ => 0) tp) tp n) tp n (tnA := tnA) (v := 56) g (Or.inr hng)
  have b := tkI_o (tkD (fun _ => 0) tp) tp (v := 56) n (by omega)
  rw [a.1, a.2]
  show (tkG (tkI (tkD (fun _ => 0) tp) tp n) tp n tnA g).1 (2 * 56) = _ ∧ (tkG (tkI (tkD (fun _ => 0) tp) tp n) tp n tnA g).1 (2 * 56 + 1) = _
  rw [c.1, c.2, b.1, b.2]
  exact lbP_s _ 56 _ _
theorem nI_m9 {p : Nat} (h : p < 2 ^ 31) : ¬ nI p = -9 := fun z => (by decide : ¬ (0 : Int32) ≤ -9) (z ▸ nI_nn h)
theorem cl_A9 {n g b o : Nat} {sg lf rt tn ou : Nat → Int32} (W : cWF n g b o sg lf rt tn ou) : ∀ k, k < g → ¬ sg k = 33 → ¬ sg k = 94 → ¬ tn k = -9 := fun k hk h h2 => by
  rw [(cl_t W k hk h h2).1]
  exact nI_m9 (by
    have := (cl_t W k hk h h2).2
    omega)
