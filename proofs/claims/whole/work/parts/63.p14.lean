/-! the pure side, 14: two who stand or go -/
theorem SA_same (x : Int32) : SA x x := by
  intro p hp
  obtain ⟨j, hj, e⟩ := pk_andE (x >>> (nI p &&& 31)) (m := 1) 1 (by decide)
  rw [e]
  have : j = 0 ∨ j = 1 := by omega
  rcases this with rfl | rfl
  · decide
  · decide
/-- the set of who stands, by a code -/
def stw (a b c : Nat) : Int32 := ((1 - nI (c / 2)) <<< (nI a &&& 31)) ||| ((1 - nI (c % 2)) <<< (nI b &&& 31))
theorem stw_X1 : ∀ a, a < 4 → ∀ b, b < 4 → ∀ c, c < 4 → ((if nI c &&& 2 = 0 then (1 : Int32) <<< (nI a &&& 31) else 0) ||| (if nI c &&& 1 = 0 then (1 : Int32) <<< (nI b &&& 31) else 0)) = stw a b c := by decide
theorem two_core {N a b w n c : Nat} (hN : N < 5) (ha : a < N) (hb : b < N) (hw : w = a ∨ w = b) (hn : n ≤ 30) (hc : c < 4) {st : Int32} (G : Nat → Int32) (M : BT) (r : Nat → Int32) (h : RBN N M r) (h2 : r 2 = st) :
    Ok (fun x y => (w = a → ∃ z, x.2 = upd (upd G (2 * c) y.1) (2 * c + 1) z) ∧ (w = b → ∃ z, x.2 = upd (upd G (2 * c) z) (2 * c + 1) y.1)) (zl5 (zf_X1_reckonGains_b52 (nI c) (nI a) (nI b) (nI n) st G) zb_FU 0 0 0 0 M) (zl4 (zf_X2_hasBy_b39 (nI w) (nI a) (nI b) (nI n)) zb_FU 0 0 0 r) := by
  have hwN : w < N := by rcases hw with rfl | rfl <;> assumption
  refine lpg (n := n + 1) (F := fun fu i (x : Int32 × Int32 × Int32 × BT) => zl5 (zf_X1_reckonGains_b52 (nI c) (nI a) (nI b) (nI n) st G) fu x.1 x.2.1 x.2.2.1 (nI i) x.2.2.2) (G := fun fu i (y : Int32 × Int32 × (Nat → Int32)) => zl4 (zf_X2_hasBy_b39 (nI w) (nI a) (nI b) (nI n)) fu y.1 y.2.1 (nI i) y.2.2)
    (fun i x y => RBN N x.2.2.2 y.2.2 ∧ y.2.2 2 = st ∧ BS x.1 ∧ BS x.2.1 ∧ (w = a → y.1 = x.1) ∧ (w = b → y.1 = x.2.1) ∧ ((x.2.2.1 = 0 ∧ y.2.1 = 0) ∨ (x.2.2.1 = 2 ∧ y.2.1 = 1))) ?_ ?_ (n + 1) zb_FU zb_FU 0 (0, 0, 0, M) (0, 0, r) (by omega) (fu_lt (by omega)) (fu_lt (by omega)) ⟨h, h2, BS_0, BS_0, fun _ => rfl, fun _ => rfl, Or.inl ⟨rfl, rfl⟩⟩
  · rintro fu fu' ⟨v6, v7, v8, B⟩ ⟨w7, w8, q⟩ ⟨h, h2, b1, b2, b3, b4, b5⟩
    try dsimp only at h h2 b1 b2 b3 b4 b5 ⊢
    have hv : nI n < nI (n + 1) := nI_lt (by omega) (by omega)
    obtain ⟨k1, -, c1, d1⟩ := bits_eq b1
    obtain ⟨k2, -, c2, d2⟩ := bits_eq b2
    have p0 : ∀ x : Int32, zf_X1_putGain G (nI c) 0 x = some (upd G (2 * c) x) := by
      intro x
      have e0 : (2 : Int32) * nI c + 0 = nI (2 * c) := by rw [Int32.add_zero, l2, pk_mul]
      rw [zf_X1_putGain, e0, if_neg (nI_pos (by omega)), if_neg (show ¬ (8 : Int32) ≤ nI (2 * c) from lim (N := 8) (by omega) (by omega)), if_neg (nI_in (by omega) (by omega)), nI_clamp (by omega)]
    have p1 : ∀ (G' : Nat → Int32) (x : Int32), zf_X1_putGain G' (nI c) 1 x = some (upd G' (2 * c + 1) x) := by
      intro G' x
      rw [zf_X1_putGain, l2, l1, pk_mul, nI_add, if_neg (nI_pos (by omega)), if_neg (show ¬ (8 : Int32) ≤ nI (2 * c + 1) from lim (N := 8) (by omega) (by omega)), if_neg (nI_in (by omega) (by omega)), nI_clamp (by omega)]
    have E1 : zl5 (zf_X1_reckonGains_b52 (nI c) (nI a) (nI b) (nI n) st G) (fu + 1) v6 v7 v8 (nI (n + 1)) B = some (B, upd (upd G (2 * c) (nI k1 + v8)) (2 * c + 1) (nI k2 + v8)) := by
      rw [zl5_s, zf_X1_reckonGains_b52, if_pos hv, zf_X1_reckonGains_j132, c1, bd1_some, p0, bd1_some, c2, bd1_some, p1, bd1_some]
    have E2 : ∀ k, zf_X2_bits w7 = some (nI k) → zl4 (zf_X2_hasBy_b39 (nI w) (nI a) (nI b) (nI n)) (fu' + 1) w7 w8 (nI (n + 1)) q = some (nI k + v8, q) := by
      intro k hk
      rw [zl4_s, zf_X2_hasBy_b39, if_pos hv, zf_X2_hasBy_j115, hk, bd1_some]
      rcases b5 with ⟨e, e'⟩ | ⟨e, e'⟩
      · rw [e, e', if_pos rfl]
      · rw [e, e', if_neg (by decide)]
    rw [E1]
    by_cases wa : w = a
    · rw [b3 wa] at E2
      rw [b3 wa, E2 k1 d1]
      refine ok ⟨fun _ => ⟨_, rfl⟩, fun wb => ?_⟩
      have hh := b4 wb
      rw [b3 wa] at hh
      rw [hh] at d1
      have : nI k1 = nI k2 := Option.some.inj (d1.symm.trans d2)
      exact ⟨nI k1 + v8, by rw [this]⟩
    · have wb : w = b := hw.resolve_left wa
      rw [b4 wb] at E2
      rw [b4 wb, E2 k2 d2]
      exact ok ⟨fun z => absurd z wa, fun _ => ⟨_, rfl⟩⟩
  · rintro fu fu' i ⟨v6, v7, v8, B⟩ ⟨w7, w8, q⟩ hi ⟨h, h2, b1, b2, b3, b4, b5⟩ ih
    try dsimp only at h h2 b1 b2 b3 b4 b5 ih ⊢
    have hv : ¬ nI n < nI i := nI_nlt (by omega) (by omega)
    have key : ∀ B' q', RBN N B' q' → q' 2 = st → Ok (fun x y => (w = a → ∃ z, x.2 = upd (upd G (2 * c) y.1) (2 * c + 1) z) ∧ (w = b → ∃ z, x.2 = upd (upd G (2 * c) z) (2 * c + 1) y.1)) (zf_X1_reckonGains_j74 (zl5 (zf_X1_reckonGains_b52 (nI c) (nI a) (nI b) (nI n) st G) fu) (nI a) (nI b) v6 v7 v8 (nI i) B') (zf_X2_hasBy_j58 (zl4 (zf_X2_hasBy_b39 (nI w) (nI a) (nI b) (nI n)) fu') (nI w) (nI a) (nI b) w7 w8 (nI i) q') := by
      intro B' q' h' h2'
      obtain ⟨a1, -, -, ⟨x, hx, ex⟩, -⟩ := h'.2.2.1 a ha
      obtain ⟨a2, -, -, ⟨y, hy, ey⟩, -⟩ := h'.2.2.1 b hb
      obtain ⟨a3, -, -, ⟨u, hu, eu⟩, -⟩ := h'.2.2.1 w hwN
      have z1 := (px0 (p := a) (by omega)).2.2
      have z2 := (px0 (p := b) (by omega)).2.2
      have z3 := (px0 (p := w) (by omega)).2.2
      rw [zf_X1_reckonGains_j74, placeOf_in h'.1 hN ha, placeOf_in h'.1 hN hb, bd1_some, bd1_some, bd1_some, bd1_some, zf_X2_hasBy_j58, of_0, bd1_some, if_neg (nI_in (c := 93 + 3 * w) (N := 105) (by omega) (by omega)), of_0, bd1_some, if_neg (nI_in (c := 93 + 3 * a) (N := 105) (by omega) (by omega)), of_0, bd1_some, if_neg (nI_in (c := 93 + 3 * b) (N := 105) (by omega) (by omega)), z1, z2, z3, ← a1, ← a2, ← a3, nI_1]
      have c1 : BS (v6 ||| ((1 : Int32) <<< (bt_place B' a &&& 31))) := by rw [ex]; exact BS_or b1 hx
      have c2 : BS (v7 ||| ((1 : Int32) <<< (bt_place B' b &&& 31))) := by rw [ey]; exact BS_or b2 hy
      have c3 : w = a → w7 ||| ((1 : Int32) <<< (bt_place B' w &&& 31)) = v6 ||| ((1 : Int32) <<< (bt_place B' a &&& 31)) := fun z => by rw [b3 z, z]
      have c4 : w = b → w7 ||| ((1 : Int32) <<< (bt_place B' w &&& 31)) = v7 ||| ((1 : Int32) <<< (bt_place B' b &&& 31)) := fun z => by rw [b4 z, z]
      by_cases e : bt_place B' a = bt_place B' b
      · rw [if_pos e, if_pos e]
        refine ih (_, _, _, _) (_, _, _) ⟨h', h2', c1, c2, c3, c4, Or.inr ⟨rfl, ?_⟩⟩
        rcases b5 with ⟨-, e'⟩ | ⟨-, e'⟩ <;> rw [e'] <;> rfl
      · rw [if_neg e, if_neg e]
        refine ih (_, _, _, _) (_, _, _) ⟨h', h2', c1, c2, c3, c4, ?_⟩
        rcases b5 with ⟨e1, e'⟩ | ⟨e1, e'⟩
        · exact Or.inl ⟨e1, by rw [e']; rfl⟩
        · exact Or.inr ⟨e1, by rw [e']; rfl⟩
    rw [zl5_s, zl4_s, zf_X1_reckonGains_b52, zf_X2_hasBy_b39, if_neg hv, if_neg hv]
    by_cases z : nI i ≤ 0
    · rw [if_pos z, if_pos z]; exact key B q h h2
    · rw [if_neg z, if_neg z]
      obtain ⟨B', q', e1, e2, e3, e4⟩ := goOn_1 h hN (st := st) (by rw [h2]; exact SA_same st)
      rw [e1, e2, bd1_some, bd1_some]
      exact key B' q' e3 (e4.trans h2)
/-- what a code brings -/
def TW (B : BT) (s : Nat → Int32) (a b n c : Nat) (xa xb : Int32) : Prop :=
  (∀ M G, ∃ M', zf_X1_reckonGains B M G (nI c) (nI a) (nI b) (nI n) = some (M', upd (upd G (2 * c) xa) (2 * c + 1) xb)) ∧
  (∀ q, ∃ q', zf_X2_hasBy s q (nI a) (nI a) (nI (c / 2)) (nI b) (nI (c % 2)) (nI n) = some (xa, q')) ∧
  (∀ q, ∃ q', zf_X2_hasBy s q (nI b) (nI a) (nI (c / 2)) (nI b) (nI (c % 2)) (nI n) = some (xb, q'))
theorem two_rel {N a b w n c : Nat} {B : BT} {s : Nat → Int32} (h : RBN N B s) (hN : N < 5) (ha : a < N) (hb : b < N) (hw : w = a ∨ w = b) (hn : n ≤ 30) (hc : c < 4) (G : Nat → Int32) (M : BT) (q : Nat → Int32) :
    Ok (fun x y => (w = a → ∃ z, x.2 = upd (upd G (2 * c) y.1) (2 * c + 1) z) ∧ (w = b → ∃ z, x.2 = upd (upd G (2 * c) z) (2 * c + 1) y.1)) (zf_X1_reckonGains B M G (nI c) (nI a) (nI b) (nI n)) (zf_X2_hasBy s q (nI w) (nI a) (nI (c / 2)) (nI b) (nI (c % 2)) (nI n)) := by
  obtain ⟨B1, q1, e1, e2, e3, e4⟩ := becomes_copies (B := M) (q := q) h hN
  have E1 : zf_X1_reckonGains B M G (nI c) (nI a) (nI b) (nI n) = zl5 (zf_X1_reckonGains_b52 (nI c) (nI a) (nI b) (nI n) (stw a b c) G) zb_FU 0 0 0 0 B1 := by
    rw [zf_X1_reckonGains, e1, bd1_some, ← stw_X1 a (by omega) b (by omega) c hc]
    by_cases c1 : nI c &&& 2 = 0
    · rw [if_pos c1, if_pos c1, zf_X1_reckonGains_j24]
      by_cases c2 : nI c &&& 1 = 0
      · rw [if_pos c2, if_pos c2]
      · rw [if_neg c2, if_neg c2]
    · rw [if_neg c1, if_neg c1, zf_X1_reckonGains_j24]
      by_cases c2 : nI c &&& 1 = 0
      · rw [if_pos c2, if_pos c2]
      · rw [if_neg c2, if_neg c2]
  rw [E1, zf_X2_hasBy, e2, bd1_some, cl2]
  exact two_core hN ha hb hw hn hc G B1 _ (RBN_2 e3 _) up_s
theorem two_at {N a b n c : Nat} {B : BT} {s : Nat → Int32} (h : RBN N B s) (hN : N < 5) (ha : a < N) (hb : b < N) (hn : n ≤ 30) (hc : c < 4) : ∃ xa xb, TW B s a b n c xa xb := by
  have A := fun G M q => two_rel h hN ha hb (Or.inl rfl) hn hc G M q
  have C := fun G M q => two_rel h hN ha hb (Or.inr rfl) hn hc G M q
  obtain ⟨⟨M0, G0⟩, ⟨xa, qa⟩, k1, k2, k3, -⟩ := A s B s
  obtain ⟨⟨M1, G1⟩, ⟨xb, qb⟩, j1, j2, -, j3⟩ := C s B s
  obtain ⟨z, k3⟩ := k3 rfl
  obtain ⟨z', j3⟩ := j3 rfl
  dsimp only at k3 j3
  have n01 : 2 * c ≠ 2 * c + 1 := by omega
  have eG : G0 = G1 := congrArg Prod.snd (Option.some.inj (k1.symm.trans j1))
  have g0 : G0 (2 * c) = xa := by rw [k3, up_n n01, up_s]
  have g1 : G0 (2 * c + 1) = xb := by rw [eG, j3, up_s]
  refine ⟨xa, xb, fun M G => ?_, fun q => ?_, fun q => ?_⟩
  · obtain ⟨⟨M2, G2⟩, ⟨ya, ra⟩, a1, a2, a3, -⟩ := A G M s
    obtain ⟨⟨M3, G3⟩, ⟨yb, rb⟩, c1, c2, -, c3⟩ := C G M s
    obtain ⟨u, a3⟩ := a3 rfl
    obtain ⟨u', c3⟩ := c3 rfl
    dsimp only at a3 c3
    have ea : ya = xa := congrArg Prod.fst (Option.some.inj (a2.symm.trans k2))
    have eb : yb = xb := congrArg Prod.fst (Option.some.inj (c2.symm.trans j2))
    have eG2 : G2 = G3 := congrArg Prod.snd (Option.some.inj (a1.symm.trans c1))
    subst ea
    subst eb
    refine ⟨M2, a1.trans (congrArg (fun z => some (M2, z)) ?_)⟩
    have uu : u = yb := by
      have t1 : G2 (2 * c + 1) = u := by rw [a3, up_s]
      have t2 : G2 (2 * c + 1) = yb := by rw [eG2, c3, up_s]
      exact t1.symm.trans t2
    rw [a3, uu]
  · obtain ⟨⟨M2, G2⟩, ⟨ya, ra⟩, a1, a2, a3, -⟩ := A s B q
    obtain ⟨u, a3⟩ := a3 rfl
    dsimp only at a3
    have e : G2 = G0 := congrArg Prod.snd (Option.some.inj (a1.symm.trans k1))
    have t : G2 (2 * c) = ya := by rw [a3, up_n n01, up_s]
    exact ⟨ra, by rw [a2, ← t, e, g0]⟩
  · obtain ⟨⟨M2, G2⟩, ⟨yb, rb⟩, c1, c2, -, c3⟩ := C s B q
    obtain ⟨u, c3⟩ := c3 rfl
    dsimp only at c3
    have e : G2 = G0 := congrArg Prod.snd (Option.some.inj (c1.symm.trans k1))
    have t : G2 (2 * c + 1) = yb := by rw [c3, up_s]
    exact ⟨rb, by rw [c2, ← t, e, g1]⟩
theorem gainOf_in (G : Nat → Int32) {c j : Nat} (hc : c < 4) (hj : j < 2) : zf_X1_gainOf G (nI c) (nI j) = some (G (2 * c + j)) := by
  rw [zf_X1_gainOf, l2, pk_mul, nI_add, if_neg (nI_pos (by omega)), if_neg (show ¬ (8 : Int32) ≤ nI (2 * c + j) from lim (N := 8) (by omega) (by omega)), if_neg (nI_in (by omega) (by omega)), nI_clamp (by omega)]
def x2 (c : Nat) : Nat := 2 * (1 - c / 2) + c % 2
def x1 (c : Nat) : Nat := 2 * (c / 2) + (1 - c % 2)
theorem code_facts : ∀ c, c < 4 → nI c ^^^ 2 = nI (x2 c) ∧ nI c ^^^ 1 = nI (x1 c) ∧ x2 c < 4 ∧ x1 c < 4 ∧ nI c / 2 = nI (c / 2) ∧ jr (nI c) 2 = nI (c % 2) ∧ 1 - nI (c / 2) = nI (x2 c / 2) ∧ nI (c % 2) = nI (x2 c % 2) ∧ 1 - nI (c % 2) = nI (x1 c % 2) ∧ nI (c / 2) = nI (x1 c / 2) ∧ ((10 : Int32) * (nI c >>> ((1 : Int32) &&& 31))) + (nI c &&& 1) = (10 * nI (c / 2)) + nI (c % 2) := by decide
theorem two_look {B : BT} {s g m : Nat → Int32} {a b n : Nat} (xa xb : Nat → Int32) (hR : RR g m) (T : ∀ c, c < 4 → TW B s a b n c (xa c) (xb c)) (M : BT) (G : Nat → Int32) (hG : ∀ c, c < 4 → G (2 * c) = xa c ∧ G (2 * c + 1) = xb c) (q : Nat → Int32) :
    Ok (fun x y => x.1 = y.1 ∧ RR x.2.2.1 y.2.2) (zl1 (zf_X1_two_b63 M g G) zb_FU 0) (zl2 (zf_X2_two_b37 (nI a) (nI b) (nI n) s m) zb_FU 0 q) := by
  refine lpg (n := 4) (F := fun fu i (_ : Unit) => zl1 (zf_X1_two_b63 M g G) fu (nI i)) (G := fun fu i (q : Nat → Int32) => zl2 (zf_X2_two_b37 (nI a) (nI b) (nI n) s m) fu (nI i) q) (fun _ _ _ => True) ?_ ?_ 4 zb_FU zb_FU 0 () q (by omega) (fu_lt (by omega)) (fu_lt (by omega)) trivial
  · rintro fu fu' _ q -
    try dsimp only
    rw [zl1_s, zl2_s, zf_X1_two_b63, zf_X2_two_b37, if_pos (show (4 : Int32) ≤ nI 4 from by decide), if_pos (show (4 : Int32) ≤ nI 4 from by decide)]
    exact ok ⟨rfl, hR⟩
  · rintro fu fu' c _ q hc - ih
    try dsimp only at ih ⊢
    have hv : ¬ (4 : Int32) ≤ nI c := lim (N := 4) hc (by omega)
    obtain ⟨f1, f2, f3, f4, f5, f6, f7, f8, f9, f10, f11⟩ := code_facts c hc
    obtain ⟨q1, t1⟩ := (T (x2 c) f3).2.1 q
    rw [← f7, ← f8] at t1
    obtain ⟨q2, t2⟩ := (T c hc).2.1 q1
    obtain ⟨q3, t3⟩ := (T (x1 c) f4).2.2 q2
    rw [← f9, ← f10] at t3
    obtain ⟨q4, t4⟩ := (T c hc).2.2 q3
    have g1 : zf_X1_gainOf G (nI c) 0 = some (xa c) := (gainOf_in G (j := 0) hc (by omega)).trans (congrArg some (hG c hc).1)
    have g2 : zf_X1_gainOf G (nI (x2 c)) 0 = some (xa (x2 c)) := (gainOf_in G (j := 0) f3 (by omega)).trans (congrArg some (hG _ f3).1)
    have g3 : zf_X1_gainOf G (nI c) 1 = some (xb c) := (gainOf_in G (j := 1) hc (by omega)).trans (congrArg some (hG c hc).2)
    have g4 : zf_X1_gainOf G (nI (x1 c)) 1 = some (xb (x1 c)) := (gainOf_in G (j := 1) f4 (by omega)).trans (congrArg some (hG _ f4).2)
    have E1 : zl1 (zf_X1_two_b63 M g G) (fu + 1) (nI c) = if xa c < xa (x2 c) then zl1 (zf_X1_two_b63 M g G) fu (nI (c + 1)) else if xb c < xb (x1 c) then zl1 (zf_X1_two_b63 M g G) fu (nI (c + 1)) else some ((10 * nI (c / 2)) + nI (c % 2), M, g, G) := by
      rw [zl1_s, zf_X1_two_b63, if_neg hv, f1, g1, bd1_some, g2, bd1_some]
      by_cases k1 : xa c < xa (x2 c)
      · rw [if_pos k1, if_pos k1, zf_X1_two_j93, f2, g3, bd1_some, g4, bd1_some, if_pos rfl, nI_1]
        by_cases k2 : xb c < xb (x1 c)
        · rw [if_pos k2]
        · rw [if_neg k2, if_pos rfl]
      · rw [if_neg k1, if_neg k1, zf_X1_two_j93, f2, g3, bd1_some, g4, bd1_some, nI_1]
        by_cases k2 : xb c < xb (x1 c)
        · rw [if_pos k2, if_pos k2, if_neg (show ¬ (1 : Int32) = 0 from by decide)]
        · rw [if_neg k2, if_neg k2, if_neg (show ¬ (1 : Int32) = 0 from by decide), zf_X1_two_j131, f11]
    have E2 : zl2 (zf_X2_two_b37 (nI a) (nI b) (nI n) s m) (fu' + 1) (nI c) q = if xa c < xa (x2 c) then zl2 (zf_X2_two_b37 (nI a) (nI b) (nI n) s m) fu' (nI (c + 1)) q2 else if xb c < xb (x1 c) then zl2 (zf_X2_two_b37 (nI a) (nI b) (nI n) s m) fu' (nI (c + 1)) q4 else some ((10 * nI (c / 2)) + nI (c % 2), q4, m) := by
      rw [zl2_s, zf_X2_two_b37, if_neg hv, f5, f6, t1, bd2_some, t2, bd2_some, t3, bd2_some, t4, bd2_some, nI_1]
    rw [E1, E2]
    by_cases k1 : xa c < xa (x2 c)
    · rw [if_pos k1, if_pos k1]; exact ih () q2 trivial
    · rw [if_neg k1, if_neg k1]
      by_cases k2 : xb c < xb (x1 c)
      · rw [if_pos k2, if_pos k2]; exact ih () q4 trivial
      · rw [if_neg k2, if_neg k2]; exact ok ⟨rfl, hR⟩
theorem two_reckon {B : BT} {s g : Nat → Int32} {a b n : Nat} (xa xb : Nat → Int32) (T : ∀ c, c < 4 → TW B s a b n c (xa c) (xb c)) : ∀ (d fu i : Nat) (M : BT) (G : Nat → Int32), i + d = 4 → d < fu → (∀ c, c < i → G (2 * c) = xa c ∧ G (2 * c + 1) = xb c) →
    ∃ M' G', zl3 (zf_X1_two_b39 (nI a) (nI b) (nI n) B g) fu (nI i) M G = zl1 (zf_X1_two_b63 M' g G') zb_FU 0 ∧ ∀ c, c < 4 → G' (2 * c) = xa c ∧ G' (2 * c + 1) = xb c := by
  intro d
  induction d with
  | zero =>
    intro fu i M G hi hf hG
    obtain ⟨fu, rfl⟩ : ∃ x, fu = x + 1 := ⟨fu - 1, by omega⟩
    have e : i = 4 := by omega
    subst e
    exact ⟨M, G, by rw [zl3_s, zf_X1_two_b39, if_pos (show (4 : Int32) ≤ nI 4 from by decide)], hG⟩
  | succ d ih =>
    intro fu i M G hi hf hG
    obtain ⟨fu, rfl⟩ : ∃ x, fu = x + 1 := ⟨fu - 1, by omega⟩
    have hv : ¬ (4 : Int32) ≤ nI i := lim (N := 4) (by omega) (by omega)
    obtain ⟨M1, e⟩ := (T i (by omega)).1 M G
    obtain ⟨M', G', k1, k2⟩ := ih fu (i + 1) M1 (upd (upd G (2 * i) (xa i)) (2 * i + 1) (xb i)) (by omega) (by omega) (fun c hc => by
      by_cases k : c = i
      · subst k
        exact ⟨by rw [up_n (by omega), up_s], by rw [up_s]⟩
      · rw [up_n (by omega), up_n (by omega), up_n (by omega), up_n (by omega)]
        exact hG c (by omega))
    exact ⟨M', G', by rw [zl3_s, zf_X1_two_b39, if_neg hv, e, bd2_some, nI_1]; exact k1, k2⟩
theorem sim_two {B M : BT} {s q g m G : Nat → Int32} (hN : RN B s) (hR : RR g m) (v1 v2 v3 : Int32) : Ok (fun x y => x.1 = y.1 ∧ RR x.2.2.1 y.2.2) (zf_X1_two B M g G v1 v2 v3) (zf_X2_two s q m v1 v2 v3) := by
  obtain ⟨⟨N, hN5, h⟩, h2⟩ := hN
  rw [zf_X1_two, zf_X2_two]
  rcases two_cases h hN5 v1 v2 with ⟨a, b, ha, hb, -, rfl, rfl, n1, n2⟩ | ⟨n1, n2⟩
  · rw [n1, n2, bd1_some, bd1_some, if_neg (show ¬ (1 : Int32) = 0 from by decide), if_neg (show ¬ (1 : Int32) = 0 from by decide)]
    rcases out_cases v3 0 30 (by omega) (by omega) with ⟨n, -, hn, rfl, o⟩ | ⟨o, -⟩ | ⟨o, -⟩
    · have o' : zf_X2_wrongBy (nI n) 0 30 = some 0 := o
      have o : zf_X1_outside (nI n) 0 30 = some 0 := o
      rw [o, o', bd1_some, bd1_some, if_pos rfl, if_pos rfl]
      have hx : ∀ c, ∃ x : Int32 × Int32, c < 4 → TW B s a b n c x.1 x.2 := by
        intro c
        by_cases hc : c < 4
        · obtain ⟨xa, xb, t⟩ := two_at h hN5 ha hb hn hc
          exact ⟨(xa, xb), fun _ => t⟩
        · exact ⟨(0, 0), fun z => absurd z hc⟩
      obtain ⟨f, hf⟩ := Classical.axiomOfChoice hx
      obtain ⟨M', G', k1, k2⟩ := two_reckon (g := g) (fun c => (f c).1) (fun c => (f c).2) hf 4 zb_FU 0 M G (by omega) (fu_lt (by omega)) (fun c hc => absurd hc (Nat.not_lt_zero c))
      have k1' : zl3 (zf_X1_two_b39 (nI a) (nI b) (nI n) B g) zb_FU 0 M G = zl1 (zf_X1_two_b63 M' g G') zb_FU 0 := k1
      rw [k1']
      exact two_look (fun c => (f c).1) (fun c => (f c).2) hR hf M' G' k2 q
    · have o' : zf_X2_wrongBy v3 0 30 = some (-6) := o
      have o : zf_X1_outside v3 0 30 = some (-6) := o
      obtain ⟨g', m', q1, q2, q3⟩ := rf6 hR
      rw [o, o', bd1_some, bd1_some, if_neg (show ¬ (-6 : Int32) = 0 from by decide), if_neg (show ¬ (-6 : Int32) = 0 from by decide), q1, q2]
      exact ok ⟨rfl, q3⟩
    · have o' : zf_X2_wrongBy v3 0 30 = some (-4) := o
      have o : zf_X1_outside v3 0 30 = some (-4) := o
      obtain ⟨g', m', q1, q2, q3⟩ := rf4 hR
      rw [o, o', bd1_some, bd1_some, if_neg (show ¬ (-4 : Int32) = 0 from by decide), if_neg (show ¬ (-4 : Int32) = 0 from by decide), q1, q2]
      exact ok ⟨rfl, q3⟩
  · obtain ⟨g', m', q1, q2, q3⟩ := rf1 hR
    rw [n1, n2, bd1_some, bd1_some, if_pos rfl, if_pos rfl, q1, q2]
    exact ok ⟨rfl, q3⟩
