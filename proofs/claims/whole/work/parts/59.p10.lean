/-! the pure side, 10: kinds, near, dry, count -/
theorem lpg {X Y ρ ρ' : Type} {F : Nat → Nat → X → Option ρ} {G : Nat → Nat → Y → Option ρ'} {R : ρ → ρ' → Prop} {n : Nat} (I : Nat → X → Y → Prop)
    (done : ∀ fu fu' x y, I n x y → Ok R (F (fu + 1) n x) (G (fu' + 1) n y))
    (step : ∀ fu fu' i x y, i < n → I i x y → (∀ x' y', I (i + 1) x' y' → Ok R (F fu (i + 1) x') (G fu' (i + 1) y')) → Ok R (F (fu + 1) i x) (G (fu' + 1) i y)) :
    ∀ d fu fu' i x y, i + d = n → d < fu → d < fu' → I i x y → Ok R (F fu i x) (G fu' i y) := by
  intro d
  induction d with
  | zero =>
    intro fu fu' i x y hi hf hf' h
    obtain ⟨fu, rfl⟩ : ∃ x, fu = x + 1 := ⟨fu - 1, by omega⟩
    obtain ⟨fu', rfl⟩ : ∃ x, fu' = x + 1 := ⟨fu' - 1, by omega⟩
    have e : i = n := by omega
    subst e
    exact done fu fu' x y h
  | succ d ih =>
    intro fu fu' i x y hi hf hf' h
    obtain ⟨fu, rfl⟩ : ∃ x, fu = x + 1 := ⟨fu - 1, by omega⟩
    obtain ⟨fu', rfl⟩ : ∃ x, fu' = x + 1 := ⟨fu' - 1, by omega⟩
    exact step fu fu' i x y (by omega) h (fun x' y' h' => ih fu fu' (i + 1) x' y' (by omega) (by omega) (by omega) h')
theorem fu5 : zb_FU = 4095 + 1 := rfl
theorem lim {n N : Nat} (h : n < N) (hN : N < 2 ^ 31) : ¬ nI N ≤ nI n := nI_ge h hN
theorem kinds_loop {N : Nat} {B : BT} {s g m : Nat → Int32} (h : RBN N B s) (hR : RR g m) (v1 : Int32) : Ok (fun a b => a.1 = b.1 ∧ RR a.2 b.2) (zl2 (zf_X1_kinds_b18 v1 B g) zb_FU 0 0) (zl2 (zf_X2_kinds_b20 v1 s m) zb_FU 0 0) := by
  refine lpg (n := 30) (F := fun fu i x => zl2 (zf_X1_kinds_b18 v1 B g) fu x (nI i)) (G := fun fu i x => zl2 (zf_X2_kinds_b20 v1 s m) fu x (nI i)) (fun _ x y => x = y) ?_ ?_ 30 zb_FU zb_FU 0 0 0 (by omega) (fu_lt (by omega)) (fu_lt (by omega)) rfl
  · rintro fu fu' x _ rfl
    try dsimp only
    rw [zl2_s, zl2_s, zf_X1_kinds_b18, zf_X2_kinds_b20, if_pos (by decide), if_pos (by decide)]
    exact ok ⟨rfl, hR⟩
  · rintro fu fu' i x _ hi rfl ih
    try dsimp only at ih ⊢
    have k1 := (h.2.2.2.2 i hi).1
    have hv : ¬ (30 : Int32) ≤ nI i := lim (N := 30) hi (by omega)
    have y3 : (105 ≤ 3 + i) = False := ge (by omega)
    rw [zl2_s, zl2_s, zf_X1_kinds_b18, zf_X2_kinds_b20, if_neg hv, if_neg hv, kindOf_in hi, bd1_some]
    simp only [g3 hi, c3 hi, y3, or_self, ↓reduceIte, ← k1, nI_1, Int32.add_zero]
    by_cases c : bt_kind B i = v1
    · rw [if_pos c, if_pos c]; exact ih _ _ rfl
    · rw [if_neg c, if_neg c]; exact ih _ _ rfl
theorem sim_kinds {B : BT} {s g m : Nat → Int32} (hN : RN B s) (hR : RR g m) (v1 : Int32) : Ok (fun a b => a.1 = b.1 ∧ RR a.2 b.2) (zf_X1_kinds B g v1) (zf_X2_kinds s m v1) := by
  obtain ⟨⟨N, hN5, h⟩, h2⟩ := hN
  rcases kind_cases v1 with ⟨k, hk, rfl, n1, n2⟩ | ⟨n1, n2⟩
  · rw [zf_X1_kinds, zf_X2_kinds, n1, n2, bd1_some, bd1_some, if_neg (by decide), if_neg (by decide)]
    exact kinds_loop h hR _
  · obtain ⟨g', m', q1, q2, q3⟩ := rf2 hR
    rw [zf_X1_kinds, zf_X2_kinds, n1, n2, bd1_some, bd1_some, if_pos rfl, if_pos rfl, q1, q2]
    exact ok ⟨rfl, q3⟩
/-! near -/
def dd (a b : Nat) : Nat := (a / 6 - b / 6) + (b / 6 - a / 6) + ((a % 6 - b % 6) + (b % 6 - a % 6))
theorem dd_X0 : ∀ a, a < 30 → ∀ b, b < 30 → zf_X0_distance (nI a) (nI b) = some (nI (dd a b)) ∧ zf_X2_farOf (nI a) (nI b) = some (nI (dd a b)) ∧ dd a b < 30 := by decide +kernel
def NR (B : BT) (b : Nat) (i : Nat) (x : Int32 × Int32) (y : Int32) : Prop := x.1 = y ∧ ((y = -9 ∧ x.2 = nI 30) ∨ ∃ j a, j < i ∧ y = nI j ∧ a < 30 ∧ bt_place B j = nI a ∧ x.2 = nI (dd a b))
theorem near_loop {N b : Nat} {B : BT} {s g m : Nat → Int32} (h : RBN N B s) (hN : N < 5) (hb : b < 30) (hR : RR g m) : Ok (fun a b => a = b.1 ∧ RR g b.2) (zf_X0_nearest B (nI b)) (zl2 (zf_X2_near_b18 (nI b) s m) zb_FU (-9) 0) := by
  refine lpg (n := N) (F := fun fu i (x : Int32 × Int32) => zl3 (zf_X0_nearest_b9 (nI b) B) fu x.1 x.2 (nI i)) (G := fun fu i x => zl2 (zf_X2_near_b18 (nI b) s m) fu x (nI i)) (NR B b) ?_ ?_ N zb_FU zb_FU 0 (-9, 30) (-9) (by omega) (fu_lt (by omega)) (fu_lt (by omega)) ⟨rfl, Or.inl ⟨rfl, rfl⟩⟩
  · rintro fu fu' ⟨x1, x2⟩ y ⟨e, -⟩
    try dsimp only at e ⊢
    rw [zl3_s, zl2_s, zf_X0_nearest_b9, zf_X2_near_b18, h.1, cl0, h.2.1, if_pos (Int32.le_refl _), if_pos (Int32.le_refl _)]
    exact ok ⟨e, hR⟩
  · rintro fu fu' i ⟨x1, x2⟩ y hi ⟨e, hy⟩ ih
    try dsimp only at e hy ih ⊢
    subst e
    have hv : ¬ nI N ≤ nI i := lim hi (by omega)
    obtain ⟨a1, -, -, ⟨a, ha, ea⟩, -⟩ := h.2.2.1 i hi
    obtain ⟨x0, y0, z0⟩ := px0 (p := i) (by omega)
    obtain ⟨d1, d2, d3⟩ := dd_X0 a ha b hb
    have sa : s (93 + 3 * i) = nI a := a1.symm.trans ea
    rw [zl3_s, zl2_s, zf_X0_nearest_b9, zf_X2_near_b18, h.1, cl0, h.2.1, if_neg hv, if_neg hv, placeOf_in h.1 hN hi, bd1_some, ea, d1, bd1_some]
    rcases hy with ⟨rfl, rfl⟩ | ⟨j, c, hj, rfl, hc, ec, rfl⟩
    · rw [if_neg (lim d3 (by omega)), if_pos (by decide), nI_1]
      exact ih (nI i, nI (dd a b)) (nI i) ⟨rfl, Or.inr ⟨i, a, by omega, rfl, ha, ea, rfl⟩⟩
    · have sc : s (93 + 3 * j) = nI c := (h.2.2.1 j (by omega)).1.symm.trans ec
      obtain ⟨u0, w0, t0⟩ := px0 (p := j) (by omega)
      obtain ⟨f1, f2, f3⟩ := dd_X0 c hc b hb
      rw [if_neg (nI_pos (by omega))]
      simp only [of_0, bd1_some, x0, y0, z0, u0, w0, t0, or_self, ↓reduceIte, sa, sc, d2, f2, nI_1]
      by_cases k : nI (dd c b) ≤ nI (dd a b)
      · rw [if_pos k, if_pos k]
        exact ih (nI j, nI (dd c b)) (nI j) ⟨rfl, Or.inr ⟨j, c, by omega, rfl, hc, ec, rfl⟩⟩
      · rw [if_neg k, if_neg k]
        exact ih (nI i, nI (dd a b)) (nI i) ⟨rfl, Or.inr ⟨i, a, by omega, rfl, ha, ea, rfl⟩⟩
theorem sim_near {B : BT} {s g m : Nat → Int32} (hN : RN B s) (hR : RR g m) (v1 : Int32) : Ok (fun a b => a.1 = b.1 ∧ RR a.2 b.2) (zf_X1_near B g v1) (zf_X2_near s m v1) := by
  obtain ⟨⟨N, hN5, h⟩, h2⟩ := hN
  rcases node_cases v1 with ⟨k, hk, rfl, n1, n2⟩ | ⟨n1, n2⟩
  · obtain ⟨x, y, e1, e2, e3, e4⟩ := near_loop h hN5 hk hR
    rw [zf_X1_near, zf_X2_near, n1, n2, bd1_some, bd1_some, if_neg (by decide), if_neg (by decide), e1, e2]
    exact ok ⟨e3, e4⟩
  · obtain ⟨g', m', q1, q2, q3⟩ := rf1 hR
    rw [zf_X1_near, zf_X2_near, n1, n2, bd1_some, bd1_some, if_pos rfl, if_pos rfl, q1, q2]
    exact ok ⟨rfl, q3⟩
/-! dry -/
theorem dryNodes_ok {N : Nat} {B : BT} {s : Nat → Int32} (h : RBN N B s) : Ok (fun a b => a = b ∧ BS a) (zf_X0_dryNodes B) (zf_X2_dryOnes s) := by
  refine lpg (n := 30) (F := fun fu i x => zl2 (zf_X0_dryNodes_b4 B) fu x (nI i)) (G := fun fu i x => zl2 (zf_X2_dryOnes_b4 s) fu x (nI i)) (fun _ x y => x = y ∧ BS x) ?_ ?_ 30 zb_FU zb_FU 0 0 0 (by omega) (fu_lt (by omega)) (fu_lt (by omega)) ⟨rfl, BS_0⟩
  · rintro fu fu' x y e
    try dsimp only
    rw [zl2_s, zl2_s, zf_X0_dryNodes_b4, zf_X2_dryOnes_b4, if_pos (by decide), if_pos (by decide)]
    exact ok e
  · rintro fu fu' i x y hi ⟨rfl, hb⟩ ih
    try dsimp only at ih ⊢
    have k1 := (h.2.2.2.2 i hi).2.2.1
    have hv : ¬ (30 : Int32) ≤ nI i := lim (N := 30) hi (by omega)
    rw [zl2_s, zl2_s, zf_X0_dryNodes_b4, zf_X2_dryOnes_b4, if_neg hv, if_neg hv, wetOf_in hi, bd1_some, isDry_in s hi, bd1_some, ← k1, nI_1]
    by_cases c : bt_wet B i = 0
    · rw [if_pos c, if_pos c, if_neg (by decide)]; exact ih _ _ ⟨rfl, BS_or hb hi⟩
    · rw [if_neg c, if_neg c, if_pos rfl, Int32.or_zero]; exact ih _ _ ⟨rfl, hb⟩
theorem wettest_ok {N : Nat} {B : BT} {s : Nat → Int32} (h : RBN N B s) : Ok (fun a b => a = b) (zf_X0_wettest B) (zf_X2_wettest s) := by
  have e : zf_X2_wettest s = zl2 (zf_X2_wettest_b4 s) 4095 0 (nI 1) := by
    rw [zf_X2_wettest, fu5, zl2_s, zf_X2_wettest_b4, if_neg (by decide), if_neg (by decide), if_neg (by decide), if_pos (Int32.le_refl _)]; rfl
  rw [e, zf_X0_wettest]
  refine lpg (n := 30) (F := fun fu i x => zl2 (zf_X0_wettest_b4 B) fu x (nI i)) (G := fun fu i x => zl2 (zf_X2_wettest_b4 s) fu x (nI i)) (fun _ x y => x = y ∧ rg x 30) ?_ ?_ 29 zb_FU 4095 1 0 0 (by omega) (fu_lt (by omega)) (by omega) ⟨rfl, rg_nI (j := 0) (by omega)⟩
  · rintro fu fu' x y ⟨e, -⟩
    try dsimp only
    rw [zl2_s, zl2_s, zf_X0_wettest_b4, zf_X2_wettest_b4, if_pos (by decide), if_pos (by decide)]
    exact ok e
  · rintro fu fu' i x y hi ⟨rfl, j, hj, rfl⟩ ih
    try dsimp only at ih ⊢
    have k1 := (h.2.2.2.2 i hi).2.2.1
    have k2 := (h.2.2.2.2 j hj).2.2.1
    have hv : ¬ (30 : Int32) ≤ nI i := lim (N := 30) hi (by omega)
    have y1 : (105 ≤ 63 + i) = False := ge (by omega)
    have y2 : (105 ≤ 63 + j) = False := ge (by omega)
    rw [zl2_s, zl2_s, zf_X0_wettest_b4, zf_X2_wettest_b4, if_neg hv, if_neg hv, wetOf_in hi, bd1_some, wetOf_in hj, bd1_some]
    simp only [g63 hi, c63 hi, y1, g63 hj, c63 hj, y2, or_self, ↓reduceIte, ← k1, ← k2, nI_1]
    by_cases c : bt_wet B i ≤ bt_wet B j
    · rw [if_pos c, if_pos c]; exact ih _ _ ⟨rfl, rg_nI hj⟩
    · rw [if_neg c, if_neg c]; exact ih _ _ ⟨rfl, rg_nI hi⟩
theorem mostHelped_ok {N : Nat} {B : BT} {s : Nat → Int32} (h : RBN N B s) (hN : N < 5) : Ok (fun a b => a = b) (zf_X0_mostHelped B) (zf_X2_mostHelped s) := by
  refine lpg (n := N) (F := fun fu i x => zl2 (zf_X0_mostHelped_b5 B) fu x (nI i)) (G := fun fu i x => zl2 (zf_X2_mostHelped_b5 s) fu x (nI i)) (fun _ x y => x = y ∧ (x = -9 ∨ rg x N)) ?_ ?_ N zb_FU zb_FU 0 (-9) (-9) (by omega) (fu_lt (by omega)) (fu_lt (by omega)) ⟨rfl, Or.inl rfl⟩
  · rintro fu fu' x y ⟨e, -⟩
    try dsimp only
    rw [zl2_s, zl2_s, zf_X0_mostHelped_b5, zf_X2_mostHelped_b5, h.1, cl0, h.2.1, if_pos (Int32.le_refl _), if_pos (Int32.le_refl _)]
    exact ok e
  · rintro fu fu' i x y hi ⟨rfl, hx⟩ ih
    try dsimp only at ih ⊢
    have hv : ¬ nI N ≤ nI i := lim hi (by omega)
    rw [zl2_s, zl2_s, zf_X0_mostHelped_b5, zf_X2_mostHelped_b5, h.1, cl0, h.2.1, if_neg hv, if_neg hv]
    rcases hx with rfl | ⟨j, hj, rfl⟩
    · rw [if_pos (by decide), if_pos (by decide), nI_1]
      exact ih _ _ ⟨rfl, Or.inr (rg_nI hi)⟩
    · have k1 := (h.2.2.1 i hi).2.2.1
      have k2 := (h.2.2.1 j hj).2.2.1
      rw [if_neg (nI_pos (by omega)), if_neg (nI_pos (by omega)), helpedOf_in h.1 hN hi, bd1_some, helpedOf_in h.1 hN hj, bd1_some, of_2, bd1_some, of_2, bd1_some]
      have x1 : (nI (95 + 3 * i) < 0) = False := ng (by omega)
      have x2 : (nI (95 + 3 * j) < 0) = False := ng (by omega)
      have y1 : (105 ≤ 95 + 3 * i) = False := ge (by omega)
      have y2 : (105 ≤ 95 + 3 * j) = False := ge (by omega)
      have z1 : (nI (95 + 3 * i)).toNatClampNeg = 95 + 3 * i := nI_clamp (by omega)
      have z2 : (nI (95 + 3 * j)).toNatClampNeg = 95 + 3 * j := nI_clamp (by omega)
      simp only [x1, x2, z1, z2, y1, y2, or_self, ↓reduceIte, ← k1, ← k2, nI_1]
      by_cases c : bt_helped B i ≤ bt_helped B j
      · rw [if_pos c, if_pos c]; exact ih _ _ ⟨rfl, Or.inr (rg_nI hj)⟩
      · rw [if_neg c, if_neg c]; exact ih _ _ ⟨rfl, Or.inr (rg_nI hi)⟩
theorem together_ok {N : Nat} {B : BT} {s : Nat → Int32} (h : RBN N B s) (hN : N < 5) : Ok (fun a b => a = b) (zf_X0_together B) (zf_X2_together s) := by
  refine lpg (n := N) (F := fun fu i (x : Int32 × Int32) => zl3 (zf_X0_together_b6 B) fu x.1 x.2 (nI i)) (G := fun fu i (x : Int32 × Int32) => zl3 (zf_X2_together_b6 s) fu x.1 x.2 (nI i)) (fun _ x y => x = y) ?_ ?_ N zb_FU zb_FU 0 (0, 0) (0, 0) (by omega) (fu_lt (by omega)) (fu_lt (by omega)) rfl
  · rintro fu fu' x _ rfl
    try dsimp only
    rw [zl3_s, zl3_s, zf_X0_together_b6, zf_X2_together_b6, h.1, cl0, h.2.1, if_pos (Int32.le_refl _), if_pos (Int32.le_refl _)]
    exact ok rfl
  · rintro fu fu' i x _ hi rfl ih
    try dsimp only at ih ⊢
    have hv : ¬ nI N ≤ nI i := lim hi (by omega)
    have a1 := (h.2.2.1 i hi).1
    obtain ⟨x0, y0, z0⟩ := px0 (p := i) (by omega)
    rw [zl3_s, zl3_s, zf_X0_together_b6, zf_X2_together_b6, h.1, cl0, h.2.1, if_neg hv, if_neg hv, placeOf_in h.1 hN hi, bd1_some, of_0, bd1_some]
    simp only [x0, y0, z0, or_self, ↓reduceIte, ← a1, nI_1]
    exact ih (_, _) (_, _) rfl
def eg (a : Nat) : Bool := nd a 0 == none || nd a 1 == none || nd a 2 == none || nd a 3 == none
def e1 (b : Bool) : Int32 := if b then 1 else 0
theorem eg_X0 : ∀ a, a < 30 → zf_X0_isAtEdge (nI a) = some (e1 (eg a)) := by decide +kernel
theorem eg_st {rec4 : Int32 → Int32 → Option Int32} {v1 v2 : Int32} {a : Nat} (ha : a < 30) (fu : Nat) (v4 : Int32) {i : Nat} (hi : i < 4) : zl2 (zf_X2_atEdges_b31 rec4 v1 v2 (nI a)) (fu + 1) v4 (nI i) = zl2 (zf_X2_atEdges_b31 rec4 v1 v2 (nI a)) fu (v4 ||| e1 (nd a i == none)) (nI (i + 1)) := by
  have hv : ¬ (4 : Int32) ≤ nI i := lim (N := 4) hi (by omega)
  have hl := nd_lt a ha i hi
  rw [zl2_s, zf_X2_atEdges_b31, if_neg hv, nd_X2 a ha i hi, bd1_some, nI_1]
  cases hn : nd a i with
  | none => rw [if_neg (by decide)]; rfl
  | some b =>
    rw [hn] at hl
    rw [if_pos (nI_pos' (by simp at hl; omega))]; rfl
theorem eg_or : ∀ a b c d : Bool, 0 ||| e1 a ||| e1 b ||| e1 c ||| e1 d = e1 (a || b || c || d) := by decide
theorem eg_X2 {rec4 : Int32 → Int32 → Option Int32} {v1 v2 : Int32} {a : Nat} (ha : a < 30) : zl2 (zf_X2_atEdges_b31 rec4 v1 v2 (nI a)) zb_FU 0 0 = rec4 (v1 + e1 (eg a)) (v2 + 1) := by
  have e : zb_FU = (((4091 + 1) + 1) + 1) + 1 + 1 := rfl
  have a0 := eg_st (rec4 := rec4) (v1 := v1) (v2 := v2) ha ((((4091 + 1) + 1) + 1) + 1) 0 (i := 0) (by omega)
  rw [e]
  refine a0.trans ?_
  rw [eg_st ha _ _ (by omega), eg_st ha _ _ (by omega), eg_st ha _ _ (by omega), eg_or, zl2_s, zf_X2_atEdges_b31, if_pos (by decide), zf_X2_atEdges_j62]
  show (if e1 (eg a) = 0 then _ else _) = _
  cases eg a
  · rfl
  · rfl
theorem atEdges_ok {N : Nat} {B : BT} {s : Nat → Int32} (h : RBN N B s) (hN : N < 5) : Ok (fun a b => a = b) (zf_X0_atEdges B) (zf_X2_atEdges s) := by
  refine lpg (n := N) (F := fun fu i x => zl2 (zf_X0_atEdges_b4 B) fu x (nI i)) (G := fun fu i x => zl2 (zf_X2_atEdges_b4 s) fu x (nI i)) (fun _ x y => x = y) ?_ ?_ N zb_FU zb_FU 0 0 0 (by omega) (fu_lt (by omega)) (fu_lt (by omega)) rfl
  · rintro fu fu' x _ rfl
    try dsimp only
    rw [zl2_s, zl2_s, zf_X0_atEdges_b4, zf_X2_atEdges_b4, h.1, cl0, h.2.1, if_pos (Int32.le_refl _), if_pos (Int32.le_refl _)]
    exact ok rfl
  · rintro fu fu' i x _ hi rfl ih
    try dsimp only at ih ⊢
    have hv : ¬ nI N ≤ nI i := lim hi (by omega)
    obtain ⟨a1, -, -, ⟨a, ha, ea⟩, -⟩ := h.2.2.1 i hi
    have sa : s (93 + 3 * i) = nI a := a1.symm.trans ea
    obtain ⟨x0, y0, z0⟩ := px0 (p := i) (by omega)
    rw [zl2_s, zl2_s, zf_X0_atEdges_b4, zf_X2_atEdges_b4, h.1, cl0, h.2.1, if_neg hv, if_neg hv, placeOf_in h.1 hN hi, bd1_some, ea, eg_X0 a ha, bd1_some, of_0, bd1_some, z0, if_neg (show ¬ (nI (93 + 3 * i) < 0 ∨ 105 ≤ 93 + 3 * i) from by rw [x0, y0]; exact fun z => z.elim id id), sa, eg_X2 ha, nI_1]
    cases eg a
    · rw [show e1 false = 0 from rfl, if_pos rfl, Int32.add_zero]; exact ih _ _ rfl
    · rw [if_neg (by decide)]; exact ih _ _ rfl
theorem wetRow_eq {N : Nat} {B : BT} {s : Nat → Int32} (h : RBN N B s) {w : Nat} (hw : w < 5) : ∃ x, zf_X0_wetInRow B (nI w) = some x ∧ zf_X2_sumOf s ((63 : Int32) + ((6 : Int32) * nI w)) 6 1 = some x := by
  refine ⟨_, wetInRow_ok B hw, ?_⟩
  have e : (63 : Int32) + ((6 : Int32) * nI w) = nI (63 + 6 * w) := by
    rw [show (6 : Int32) = nI 6 from rfl, pk_mul, show (63 : Int32) = nI 63 from rfl, nI_add]
  rw [e, show (6 : Int32) = nI 6 from rfl, show (1 : Int32) = nI 1 from rfl, sumOf_ok s (fun k hk => by omega) (by omega) ⟨by omega, by omega⟩]
  refine congrArg some (sm_congr fun k hk => ?_)
  have k1 := (h.2.2.2.2 (w * 6 + k) (by omega)).2.2.1
  rw [k1]
  exact congrArg s (by omega)
theorem wettestRow_ok {N : Nat} {B : BT} {s : Nat → Int32} (h : RBN N B s) : Ok (fun a b => a = b) (zf_X0_wettestRow B) (zf_X2_wettestRow s) := by
  have e : zf_X2_wettestRow s = zl2 (zf_X2_wettestRow_b4 s) 4095 0 (nI 1) := by
    obtain ⟨x, -, e⟩ := wetRow_eq h (w := 0) (by omega)
    have e' : zf_X2_sumOf s ((63 : Int32) + ((6 : Int32) * 0)) 6 1 = some x := e
    rw [zf_X2_wettestRow, fu5, zl2_s, zf_X2_wettestRow_b4, if_neg (by decide), e', bd1_some, bd1_some, if_pos (Int32.le_refl _)]; rfl
  rw [e, zf_X0_wettestRow]
  refine lpg (n := 5) (F := fun fu i x => zl2 (zf_X0_wettestRow_b4 B) fu x (nI i)) (G := fun fu i x => zl2 (zf_X2_wettestRow_b4 s) fu x (nI i)) (fun _ x y => x = y ∧ rg x 5) ?_ ?_ 4 zb_FU 4095 1 0 0 (by omega) (fu_lt (by omega)) (by omega) ⟨rfl, rg_nI (j := 0) (by omega)⟩
  · rintro fu fu' x y ⟨e, -⟩
    try dsimp only
    rw [zl2_s, zl2_s, zf_X0_wettestRow_b4, zf_X2_wettestRow_b4, if_pos (by decide), if_pos (by decide)]
    exact ok e
  · rintro fu fu' i x y hi ⟨rfl, j, hj, rfl⟩ ih
    try dsimp only at ih ⊢
    obtain ⟨x1, k1, k2⟩ := wetRow_eq h hi
    obtain ⟨x2, k3, k4⟩ := wetRow_eq h hj
    have hv : ¬ (5 : Int32) ≤ nI i := lim (N := 5) hi (by omega)
    rw [zl2_s, zl2_s, zf_X0_wettestRow_b4, zf_X2_wettestRow_b4, if_neg hv, if_neg hv, k1, k2, bd1_some, bd1_some, k3, k4, bd1_some, bd1_some, nI_1]
    by_cases c : x1 ≤ x2
    · rw [if_pos c, if_pos c]; exact ih _ _ ⟨rfl, rg_nI hj⟩
    · rw [if_neg c, if_neg c]; exact ih _ _ ⟨rfl, rg_nI hi⟩
theorem sim_dry {B : BT} {s g m : Nat → Int32} (hN : RN B s) (hR : RR g m) (v1 : Int32) : Ok (fun a b => a.1 = b.1 ∧ RR a.2 b.2) (zf_X1_dry B g v1) (zf_X2_dry s m v1) := by
  obtain ⟨⟨N, hN5, h⟩, h2⟩ := hN
  rw [zf_X1_dry, zf_X2_dry]
  by_cases c : v1 = 0
  · obtain ⟨x, _, e1, e2, rfl, e3⟩ := dryNodes_ok h
    obtain ⟨k, -, f1, f2⟩ := bits_eq e3
    rw [if_pos c, if_pos c, e1, e2, bd1_some, bd1_some, f1, f2]
    exact ok ⟨rfl, hR⟩
  rw [if_neg c, if_neg c]
  by_cases c : v1 = 1
  · obtain ⟨x, _, e1, e2, rfl⟩ := wettest_ok h
    rw [if_pos c, if_pos c, e1, e2]
    exact ok ⟨rfl, hR⟩
  rw [if_neg c, if_neg c]
  by_cases c : v1 = 2
  · obtain ⟨e1, e2⟩ := allWet_eq h
    rw [if_pos c, if_pos c, e1, e2]
    exact ok ⟨rfl, hR⟩
  rw [if_neg c, if_neg c]
  by_cases c : v1 = 3
  · obtain ⟨x, _, e1, e2, rfl⟩ := mostHelped_ok h hN5
    rw [if_pos c, if_pos c, e1, e2]
    exact ok ⟨rfl, hR⟩
  rw [if_neg c, if_neg c]
  by_cases c : v1 = 4
  · obtain ⟨x, _, e1, e2, rfl⟩ := together_ok h hN5
    rw [if_pos c, if_pos c, e1, e2]
    exact ok ⟨rfl, hR⟩
  rw [if_neg c, if_neg c]
  by_cases c : v1 = 5
  · obtain ⟨x, _, e1, e2, rfl⟩ := atEdges_ok h hN5
    rw [if_pos c, if_pos c, e1, e2]
    exact ok ⟨rfl, hR⟩
  rw [if_neg c, if_neg c]
  by_cases c : v1 = 6
  · obtain ⟨x, _, e1, e2, rfl⟩ := wettestRow_ok h
    rw [if_pos c, if_pos c, e1, e2]
    exact ok ⟨rfl, hR⟩
  rw [if_neg c, if_neg c]
  obtain ⟨g', m', q1, q2, q3⟩ := rf2 hR
  rw [q1, q2]
  exact ok ⟨rfl, q3⟩
/-! count -/
theorem allHelped_ok {N : Nat} {B : BT} {s : Nat → Int32} (h : RBN N B s) (hN : N < 5) : Ok (fun a b => a = b) (zf_X0_allHelped B) (zf_X2_allHelped s) := by
  have e : zf_X2_allHelped s = some (sm (fun k => s (95 + 3 * k)) N) := by
    rw [zf_X2_allHelped, show zf_X2_of (0 : Int32) 2 = some (nI (95 + 3 * 0)) from of_2 0, bd1_some, cl0, h.2.1, show (3 : Int32) = nI 3 from rfl, sumOf_ok s (fun k hk => by omega) (by omega) ⟨by omega, by omega⟩]; rfl
  rw [e]
  have H : ∀ d fu i x, i + d = N → d < fu → x = sm (fun k => s (95 + 3 * k)) i → zl2 (zf_X0_allHelped_b4 B) fu x (nI i) = some (sm (fun k => s (95 + 3 * k)) N) := by
    intro d
    induction d with
    | zero =>
      intro fu i x hi hf hx
      obtain ⟨fu, rfl⟩ : ∃ x, fu = x + 1 := ⟨fu - 1, by omega⟩
      have e : i = N := by omega
      subst e
      rw [zl2_s, zf_X0_allHelped_b4, h.1, if_pos (Int32.le_refl _), hx]
    | succ d ih =>
      intro fu i x hi hf hx
      obtain ⟨fu, rfl⟩ : ∃ x, fu = x + 1 := ⟨fu - 1, by omega⟩
      have k1 := (h.2.2.1 i (by omega)).2.2.1
      have hv : ¬ nI N ≤ nI i := lim (by omega) (by omega)
      rw [zl2_s, zf_X0_allHelped_b4, h.1, if_neg hv, helpedOf_in h.1 hN (by omega), bd1_some, nI_1]
      exact ih fu (i + 1) _ (by omega) (by omega) (by rw [sm_s, hx, k1])
  exact ⟨_, _, H N zb_FU 0 0 (by omega) (fu_lt (by omega)) rfl, rfl, rfl⟩
theorem allFigures_ok {N : Nat} {B : BT} {s : Nat → Int32} (h : RBN N B s) : Ok (fun a b => a = b) (zf_X0_allFigures B) (zf_X2_sumOf s 33 30 1) := by
  have e : zf_X2_sumOf s 33 30 1 = some (sm (fun k => s (33 + 1 * k)) 30) := sumOf_ok (a := 33) (n := 30) (b := 1) s (fun k hk => by omega) (by omega) ⟨by omega, by omega⟩
  rw [e]
  have H : ∀ d fu i x, i + d = 30 → d < fu → x = sm (fun k => s (33 + 1 * k)) i → zl2 (zf_X0_allFigures_b4 B) fu x (nI i) = some (sm (fun k => s (33 + 1 * k)) 30) := by
    intro d
    induction d with
    | zero =>
      intro fu i x hi hf hx
      obtain ⟨fu, rfl⟩ : ∃ x, fu = x + 1 := ⟨fu - 1, by omega⟩
      have e : i = 30 := by omega
      subst e
      rw [zl2_s, zf_X0_allFigures_b4, if_pos (by decide), hx]
    | succ d ih =>
      intro fu i x hi hf hx
      obtain ⟨fu, rfl⟩ : ∃ x, fu = x + 1 := ⟨fu - 1, by omega⟩
      have k1 := (h.2.2.2.2 i (by omega)).2.1
      have hv : ¬ (30 : Int32) ≤ nI i := lim (N := 30) (by omega) (by omega)
      rw [zl2_s, zf_X0_allFigures_b4, if_neg hv, figureOf_in (by omega), bd1_some, nI_1]
      exact ih fu (i + 1) _ (by omega) (by omega) (by rw [sm_s, hx, k1, Nat.one_mul])
  exact ⟨_, _, H 30 zb_FU 0 0 (by omega) (fu_lt (by omega)) rfl, rfl, rfl⟩
theorem RO_many {f g : Nat → Int32} {c d : Int32} (h : RO f c g d) : c = d := by
  obtain ⟨n, -, a, b, -⟩ := h; rw [a, b]
theorem RE_many {f g : Nat → Int32} {c d : Int32} (h : RE f c g d) : c = d := by
  obtain ⟨n, -, a, b, -⟩ := h; rw [a, b]
theorem count_hi : ∀ j, j < 6 → (nI (11 + j) = 0) = False ∧ (nI (11 + j) = 1) = False ∧ (nI (11 + j) = 2) = False ∧ (nI (11 + j) = 3) = False ∧ (nI (11 + j) = 4) = False ∧ (nI (11 + j) = 5) = False ∧ (nI (11 + j) = 6) = False ∧ (nI (11 + j) = 7) = False ∧ nI (11 + j) - 11 = nI j ∧ nI (11 + j) - 10 = nI (j + 1) := by
  simp only [eq_iff_iff, iff_false]; decide
theorem sim_count {B : BT} {s g m lg lm tg tm : Nat → Int32} {c d c' d' : Int32} (hN : RN B s) (hR : RR g m) (hE : RE lg c lm d) (hO : RO tg c' tm d') (v1 : Int32) : Ok (fun a b => a = b) (zf_X1_count B c c' g v1) (zf_X2_count s m d d' v1) := by
  obtain ⟨⟨N, hN5, h⟩, h2⟩ := hN
  have hc := RE_many hE
  have hd := RO_many hO
  subst hc
  subst hd
  rw [zf_X2_count, zf_X1_count]
  rcases out_cases v1 11 16 (by omega) (by omega) with ⟨k, k1, k2, rfl, -⟩ | ⟨-, -, o⟩ | ⟨-, o⟩
  · obtain ⟨j, rfl⟩ : ∃ j, k = 11 + j := ⟨k - 11, by omega⟩
    obtain ⟨e0, e1, e2, e3, e4, e5, e6, e7, e8, e9⟩ := count_hi j (by omega)
    have i1 : zf_X2_isIn (nI (11 + j)) 11 16 = some 1 := isIn_in (a := 11) (n := 16) k1 k2 (by omega)
    simp only [e0, e1, e2, e3, e4, e5, e6, e7, i1, bd1_some, one_0, ↓reduceIte, e8, e9, zf_X1_refusalsOf]
    have b1 : ¬ (6 : Int32) ≤ nI j := lim (N := 6) (by omega) (by omega)
    rw [if_neg (nI_pos (by omega)), if_neg b1, nI_clamp (by omega), nI_clamp (by omega), if_neg (by rw [ng (by omega), ge (by omega)]; exact fun z => z.elim id id), if_neg (by rw [ng (by omega), ge (by omega)]; exact fun z => z.elim id id), bd1_some, hR j (by omega)]
    exact ok rfl
  all_goals
    have i0 : zf_X2_isIn v1 11 16 = some 0 := by
      first
      | exact isIn_hi o
      | exact isIn_lo (Int32.not_le.mp o)
    have rr : zf_X1_refusalsOf g (v1 - 11) = some (-9) := by
      rw [zf_X1_refusalsOf]
      rcases pk_ix (v1 - 11) (n := 6) (by omega) with z | z | ⟨j, hj, z⟩
      · rw [if_pos z]
      · by_cases y : v1 - 11 < 0
        · rw [if_pos y]
        · rw [if_neg y, if_pos (show (6 : Int32) ≤ v1 - 11 from z)]
      · exfalso
        have w : v1 = nI (11 + j) := by rw [← nI_add, ← z]; exact (show v1 = nI 11 + (v1 - nI 11) by rw [Int32.add_comm, Int32.sub_add_cancel])
        rw [w] at i0
        rw [show zf_X2_isIn (nI (11 + j)) 11 16 = some 1 from isIn_in (a := 11) (n := 16) (by omega) (by omega) (by omega)] at i0
        exact absurd i0 (by decide)
    rw [i0, bd1_some, if_pos rfl]
    by_cases c : v1 = 0
    · subst c
      rw [if_pos rfl, if_pos rfl, if_neg (by decide), zf_X0_peopleCount, bd1_some, cl0, h.1, h.2.1]
      exact ok rfl
    rw [if_neg c, if_neg c]
    by_cases c : v1 = 1
    · subst c
      rw [if_pos rfl, if_pos rfl, if_neg (by decide), zf_X0_stepCount, bd1_some, cl1, h.2.2.2.1]
      exact ok rfl
    rw [if_neg c, if_neg c]
    by_cases c : v1 = 2
    · obtain ⟨e1, e2⟩ := allWet_eq h
      rw [if_pos c, if_pos c, e1, e2]
      exact ok rfl
    rw [if_neg c, if_neg c]
    by_cases c : v1 = 3
    · obtain ⟨x, _, e1, e2, rfl⟩ := allHelped_ok h hN5
      rw [if_pos c, if_pos c, e1, e2]
      exact ok rfl
    rw [if_neg c, if_neg c]
    by_cases c : v1 = 4
    · obtain ⟨x, _, e1, e2, rfl, e3⟩ := dryNodes_ok h
      rw [if_pos c, if_pos c, e1, e2]
      exact ok rfl
    rw [if_neg c, if_neg c]
    by_cases c : v1 = 5
    · obtain ⟨x, _, e1, e2, rfl⟩ := allFigures_ok h
      rw [if_pos c, if_pos c, e1, e2]
      exact ok rfl
    rw [if_neg c, if_neg c]
    by_cases c : v1 = 6
    · rw [if_pos c, if_pos c]
      exact ok rfl
    rw [if_neg c, if_neg c]
    by_cases c : v1 = 7
    · rw [if_pos c, if_pos c]
      exact ok rfl
    rw [if_neg c, if_neg c, rr]
    exact ok rfl
