/-! the pure side, 1: numbers, baths against rows, a step -/
theorem l0 : (0 : Int32) = nI 0 := rfl
theorem l1 : (1 : Int32) = nI 1 := rfl
theorem l2 : (2 : Int32) = nI 2 := rfl
theorem l3 : (3 : Int32) = nI 3 := rfl
theorem l4 : (4 : Int32) = nI 4 := rfl
theorem l5 : (5 : Int32) = nI 5 := rfl
theorem l6 : (6 : Int32) = nI 6 := rfl
theorem l7 : (7 : Int32) = nI 7 := rfl
theorem l8 : (8 : Int32) = nI 8 := rfl
theorem l9 : (9 : Int32) = nI 9 := rfl
theorem l10 : (10 : Int32) = nI 10 := rfl
theorem l12 : (12 : Int32) = nI 12 := rfl
theorem l15 : (15 : Int32) = nI 15 := rfl
theorem l16 : (16 : Int32) = nI 16 := rfl
theorem l20 : (20 : Int32) = nI 20 := rfl
theorem l24 : (24 : Int32) = nI 24 := rfl
theorem l29 : (29 : Int32) = nI 29 := rfl
theorem l30 : (30 : Int32) = nI 30 := rfl
theorem l31 : (31 : Int32) = nI 31 := rfl
theorem l33 : (33 : Int32) = nI 33 := rfl
theorem l48 : (48 : Int32) = nI 48 := rfl
theorem l57 : (57 : Int32) = nI 57 := rfl
theorem l59 : (59 : Int32) = nI 59 := rfl
theorem l60 : (60 : Int32) = nI 60 := rfl
theorem l61 : (61 : Int32) = nI 61 := rfl
theorem l63 : (63 : Int32) = nI 63 := rfl
theorem l93 : (93 : Int32) = nI 93 := rfl
theorem l94 : (94 : Int32) = nI 94 := rfl
theorem l95 : (95 : Int32) = nI 95 := rfl
theorem l96 : (96 : Int32) = nI 96 := rfl
theorem l97 : (97 : Int32) = nI 97 := rfl
theorem l98 : (98 : Int32) = nI 98 := rfl
theorem l99 : (99 : Int32) = nI 99 := rfl
theorem l100 : (100 : Int32) = nI 100 := rfl
theorem l104 : (104 : Int32) = nI 104 := rfl
theorem l105 : (105 : Int32) = nI 105 := rfl
theorem l107 : (107 : Int32) = nI 107 := rfl
theorem l108 : (108 : Int32) = nI 108 := rfl
theorem l110 : (110 : Int32) = nI 110 := rfl
theorem l112 : (112 : Int32) = nI 112 := rfl
theorem l114 : (114 : Int32) = nI 114 := rfl
theorem l115 : (115 : Int32) = nI 115 := rfl
theorem l119 : (119 : Int32) = nI 119 := rfl
theorem l121 : (121 : Int32) = nI 121 := rfl
theorem l200 : (200 : Int32) = nI 200 := rfl
theorem l255 : (255 : Int32) = nI 255 := rfl
theorem l256 : (256 : Int32) = nI 256 := rfl
theorem l999 : (999 : Int32) = nI 999 := rfl
theorem l1000 : (1000 : Int32) = nI 1000 := rfl
theorem l2000 : (2000 : Int32) = nI 2000 := rfl
theorem nI_le' {a b : Nat} (ha : a < 2 ^ 31) (hb : b < 2 ^ 31) : (nI a ≤ nI b) = (a ≤ b) := propext (nI_leI ha hb)
theorem nI_lt' {a b : Nat} (ha : a < 2 ^ 31) (hb : b < 2 ^ 31) : (nI a < nI b) = (a < b) := propext (nI_ltI ha hb)
theorem nI_eq' {a b : Nat} (ha : a < 2 ^ 31) (hb : b < 2 ^ 31) : (nI a = nI b) = (a = b) := propext (nI_eq ha hb)
theorem ix {n N : Nat} (h : n < N) (hN : N < 2 ^ 31) : (nI n < 0 ∨ N ≤ (nI n).toNatClampNeg) = False := by
  rw [nI_clamp (by omega)]
  simp only [eq_iff_iff, iff_false, not_or]
  exact ⟨nI_pos (by omega), by omega⟩
theorem ix' {n N : Nat} (h : n < N) (hN : N < 2 ^ 31) : (nI n < nI 0 ∨ N ≤ (nI n).toNatClampNeg) = False := ix h hN
theorem jr_nI {a d : Nat} (ha : a < 2 ^ 31) (h0 : 0 < d) (hd : d < 2 ^ 31) : jr (nI a) (nI d) = nI (a % d) := pk_rem ha h0 hd
theorem bd1_some {a ρ : Type} (x : a) (k : a → Option ρ) : bd1 (some x) k = k x := rfl
theorem bd2_some {a b ρ : Type} (x : a) (y : b) (k : a → b → Option ρ) : bd2 (some (x, y)) k = k x y := rfl
theorem bd3_some {a b c ρ : Type} (x : a) (y : b) (z : c) (k : a → b → c → Option ρ) : bd3 (some (x, y, z)) k = k x y z := rfl
theorem bd4_some {a b c d ρ : Type} (x : a) (y : b) (z : c) (w : d) (k : a → b → c → d → Option ρ) : bd4 (some (x, y, z, w)) k = k x y z w := rfl
theorem up_s {f : Nat → Int32} {k : Nat} {x : Int32} : upd f k x k = x := pk_us
theorem up_n {f : Nat → Int32} {k j : Nat} {x : Int32} (h : j ≠ k) : upd f k x j = f j := pk_un h
/-- a number below n -/
def rg (v : Int32) (n : Nat) : Prop := ∃ j, j < n ∧ v = nI j
theorem rg_nI {j n : Nat} (h : j < n) : rg (nI j) n := ⟨j, h, rfl⟩
theorem zl1_s {a ρ : Type} (b : (a → Option ρ) → a → Option ρ) (n : Nat) (x : a) : zl1 b (n + 1) x = b (zl1 b n) x := rfl
theorem zl2_s {a1 a2 ρ : Type} (b : (a1 → a2 → Option ρ) → a1 → a2 → Option ρ) (n : Nat) (x : a1) (y : a2) : zl2 b (n + 1) x y = b (zl2 b n) x y := rfl
theorem zl3_s {a1 a2 a3 ρ : Type} (b : (a1 → a2 → a3 → Option ρ) → a1 → a2 → a3 → Option ρ) (n : Nat) (x : a1) (y : a2) (z : a3) : zl3 b (n + 1) x y z = b (zl3 b n) x y z := rfl
theorem zl4_s {a1 a2 a3 a4 ρ : Type} (b : (a1 → a2 → a3 → a4 → Option ρ) → a1 → a2 → a3 → a4 → Option ρ) (n : Nat) (x : a1) (y : a2) (z : a3) (w : a4) : zl4 b (n + 1) x y z w = b (zl4 b n) x y z w := rfl
theorem zl5_s {a1 a2 a3 a4 a5 ρ : Type} (b : (a1 → a2 → a3 → a4 → a5 → Option ρ) → a1 → a2 → a3 → a4 → a5 → Option ρ) (n : Nat) (x : a1) (y : a2) (z : a3) (w : a4) (v : a5) : zl5 b (n + 1) x y z w v = b (zl5 b n) x y z w v := rfl
theorem fu_lt {d : Nat} (h : d < 4096) : d < zb_FU := h
/-- a bath of N people and a row that tells the same -/
def RBN (N : Nat) (B : BT) (r : Nat → Int32) : Prop :=
  bt_people B = nI N ∧ r 0 = nI N ∧ (∀ p, p < N → bt_place B p = r (93 + 3 * p) ∧ bt_heading B p = r (94 + 3 * p) ∧ bt_helped B p = r (95 + 3 * p) ∧ rg (bt_place B p) 30 ∧ rg (bt_heading B p) 4) ∧ bt_step B = r 1 ∧ ∀ k, k < 30 → bt_kind B k = r (3 + k) ∧ bt_figure B k = r (33 + k) ∧ bt_wet B k = r (63 + k) ∧ rg (bt_figure B k) 10 ∧ rg (bt_wet B k) 10
theorem RBN_place {N : Nat} {B : BT} {r : Nat → Int32} (h : RBN N B r) (hN : N < 5) {p : Nat} (hp : p < N) {v : Int32} (hv : rg v 30) : RBN N (bs_place B (upd (bt_place B) p v)) (upd r (93 + 3 * p) v) := by
  obtain ⟨h1, h2, h3, h4, h5⟩ := h
  refine ⟨h1, by rw [up_n (by omega)]; exact h2, fun q hq => ?_, by rw [up_n (by omega)]; exact h4, fun k hk => ?_⟩
  · obtain ⟨a1, a2, a3, a4, a5⟩ := h3 q hq
    rw [up_n (j := 94 + 3 * q) (by omega), up_n (j := 95 + 3 * q) (by omega)]
    by_cases e : q = p
    · subst e
      refine ⟨?_, a2, a3, ?_, a5⟩
      · show upd (bt_place B) q v q = _
        rw [up_s, up_s]
      · show rg (upd (bt_place B) q v q) 30
        rw [up_s]; exact hv
    · refine ⟨?_, a2, a3, ?_, a5⟩
      · show upd (bt_place B) p v q = _
        rw [up_n e, up_n (by omega)]; exact a1
      · show rg (upd (bt_place B) p v q) 30
        rw [up_n e]; exact a4
  · rw [up_n (by omega), up_n (by omega), up_n (by omega)]; exact h5 k hk
theorem RBN_heading {N : Nat} {B : BT} {r : Nat → Int32} (h : RBN N B r) (hN : N < 5) {p : Nat} (hp : p < N) {v : Int32} (hv : rg v 4) : RBN N (bs_heading B (upd (bt_heading B) p v)) (upd r (94 + 3 * p) v) := by
  obtain ⟨h1, h2, h3, h4, h5⟩ := h
  refine ⟨h1, by rw [up_n (by omega)]; exact h2, fun q hq => ?_, by rw [up_n (by omega)]; exact h4, fun k hk => ?_⟩
  · obtain ⟨a1, a2, a3, a4, a5⟩ := h3 q hq
    rw [up_n (j := 93 + 3 * q) (by omega), up_n (j := 95 + 3 * q) (by omega)]
    by_cases e : q = p
    · subst e
      refine ⟨a1, ?_, a3, a4, ?_⟩
      · show upd (bt_heading B) q v q = _
        rw [up_s, up_s]
      · show rg (upd (bt_heading B) q v q) 4
        rw [up_s]; exact hv
    · refine ⟨a1, ?_, a3, a4, ?_⟩
      · show upd (bt_heading B) p v q = _
        rw [up_n e, up_n (by omega)]; exact a2
      · show rg (upd (bt_heading B) p v q) 4
        rw [up_n e]; exact a5
  · rw [up_n (by omega), up_n (by omega), up_n (by omega)]; exact h5 k hk
theorem RBN_helped {N : Nat} {B : BT} {r : Nat → Int32} (h : RBN N B r) (hN : N < 5) {p : Nat} (hp : p < N) {v : Int32} : RBN N (bs_helped B (upd (bt_helped B) p v)) (upd r (95 + 3 * p) v) := by
  obtain ⟨h1, h2, h3, h4, h5⟩ := h
  refine ⟨h1, by rw [up_n (by omega)]; exact h2, fun q hq => ?_, by rw [up_n (by omega)]; exact h4, fun k hk => ?_⟩
  · obtain ⟨a1, a2, a3, a4, a5⟩ := h3 q hq
    rw [up_n (j := 93 + 3 * q) (by omega), up_n (j := 94 + 3 * q) (by omega)]
    refine ⟨a1, a2, ?_, a4, a5⟩
    show upd (bt_helped B) p v q = _
    by_cases e : q = p
    · subst e; rw [up_s, up_s]
    · rw [up_n e, up_n (by omega)]; exact a3
  · rw [up_n (by omega), up_n (by omega), up_n (by omega)]; exact h5 k hk
theorem RBN_wet {N : Nat} {B : BT} {r : Nat → Int32} (h : RBN N B r) {k : Nat} (hk : k < 30) {v : Int32} (hv : rg v 10) : RBN N (bs_wet B (upd (bt_wet B) k v)) (upd r (63 + k) v) := by
  obtain ⟨h1, h2, h3, h4, h5⟩ := h
  refine ⟨h1, by rw [up_n (by omega)]; exact h2, fun q hq => ?_, by rw [up_n (by omega)]; exact h4, fun j hj => ?_⟩
  · rw [up_n (by omega), up_n (by omega), up_n (by omega)]; exact h3 q hq
  · obtain ⟨a1, a2, a3, a4, a5⟩ := h5 j hj
    rw [up_n (j := 3 + j) (by omega), up_n (j := 33 + j) (by omega)]
    by_cases e : j = k
    · subst e
      refine ⟨a1, a2, ?_, a4, ?_⟩
      · show upd (bt_wet B) j v j = _
        rw [up_s, up_s]
      · show rg (upd (bt_wet B) j v j) 10
        rw [up_s]; exact hv
    · refine ⟨a1, a2, ?_, a4, ?_⟩
      · show upd (bt_wet B) k v j = _
        rw [up_n e, up_n (by omega)]; exact a3
      · show rg (upd (bt_wet B) k v j) 10
        rw [up_n e]; exact a5
theorem RBN_figure {N : Nat} {B : BT} {r : Nat → Int32} (h : RBN N B r) {k : Nat} (hk : k < 30) {v : Int32} (hv : rg v 10) : RBN N (bs_figure B (upd (bt_figure B) k v)) (upd r (33 + k) v) := by
  obtain ⟨h1, h2, h3, h4, h5⟩ := h
  refine ⟨h1, by rw [up_n (by omega)]; exact h2, fun q hq => ?_, by rw [up_n (by omega)]; exact h4, fun j hj => ?_⟩
  · rw [up_n (by omega), up_n (by omega), up_n (by omega)]; exact h3 q hq
  · obtain ⟨a1, a2, a3, a4, a5⟩ := h5 j hj
    rw [up_n (j := 3 + j) (by omega), up_n (j := 63 + j) (by omega)]
    by_cases e : j = k
    · subst e
      refine ⟨a1, ?_, a3, ?_, a5⟩
      · show upd (bt_figure B) j v j = _
        rw [up_s, up_s]
      · show rg (upd (bt_figure B) j v j) 10
        rw [up_s]; exact hv
    · refine ⟨a1, ?_, a3, ?_, a5⟩
      · show upd (bt_figure B) k v j = _
        rw [up_n e, up_n (by omega)]; exact a2
      · show rg (upd (bt_figure B) k v j) 10
        rw [up_n e]; exact a4
theorem RBN_kind {N : Nat} {B : BT} {r : Nat → Int32} (h : RBN N B r) {k : Nat} (hk : k < 30) {v : Int32} : RBN N (bs_kind B (upd (bt_kind B) k v)) (upd r (3 + k) v) := by
  obtain ⟨h1, h2, h3, h4, h5⟩ := h
  refine ⟨h1, by rw [up_n (by omega)]; exact h2, fun q hq => ?_, by rw [up_n (by omega)]; exact h4, fun j hj => ?_⟩
  · rw [up_n (by omega), up_n (by omega), up_n (by omega)]; exact h3 q hq
  · obtain ⟨a1, a2, a3, a4, a5⟩ := h5 j hj
    rw [up_n (j := 33 + j) (by omega), up_n (j := 63 + j) (by omega)]
    refine ⟨?_, a2, a3, a4, a5⟩
    show upd (bt_kind B) k v j = _
    by_cases e : j = k
    · subst e; rw [up_s, up_s]
    · rw [up_n e, up_n (by omega)]; exact a1
theorem RBN_step {N : Nat} {B : BT} {r : Nat → Int32} (h : RBN N B r) (v : Int32) : RBN N (bs_step B v) (upd r 1 v) := by
  obtain ⟨h1, h2, h3, h4, h5⟩ := h
  refine ⟨h1, by rw [up_n (by omega)]; exact h2, fun q hq => ?_, by rw [up_s], fun k hk => ?_⟩
  · rw [up_n (by omega), up_n (by omega), up_n (by omega)]; exact h3 q hq
  · rw [up_n (by omega), up_n (by omega), up_n (by omega)]; exact h5 k hk
theorem RBN_2 {N : Nat} {B : BT} {r : Nat → Int32} (h : RBN N B r) (v : Int32) : RBN N B (upd r 2 v) := by
  obtain ⟨h1, h2, h3, h4, h5⟩ := h
  refine ⟨h1, by rw [up_n (by omega)]; exact h2, fun q hq => ?_, by rw [up_n (by omega)]; exact h4, fun k hk => ?_⟩
  · rw [up_n (by omega), up_n (by omega), up_n (by omega)]; exact h3 q hq
  · rw [up_n (by omega), up_n (by omega), up_n (by omega)]; exact h5 k hk
/-! single answers of the class -/
theorem isNode_in {k : Nat} (h : k < 30) : zf_X1_isNode (nI k) = some 1 := by
  unfold zf_X1_isNode
  rw [if_neg (nI_pos (by omega)), if_neg (by rw [l30, nI_leI (by omega) (by omega)]; omega)]
theorem kindOf_in {B : BT} {k : Nat} (h : k < 30) : zf_X0_kindOf B (nI k) = some (bt_kind B k) := by
  unfold zf_X0_kindOf
  rw [isNode_in h, bd1_some, if_neg (by decide), if_neg (by rw [ix h (by omega)]; exact id), nI_clamp (by omega)]
theorem figureOf_in {B : BT} {k : Nat} (h : k < 30) : zf_X0_figureOf B (nI k) = some (bt_figure B k) := by
  unfold zf_X0_figureOf
  rw [isNode_in h, bd1_some, if_neg (by decide), if_neg (by rw [ix h (by omega)]; exact id), nI_clamp (by omega)]
theorem wetOf_in {B : BT} {k : Nat} (h : k < 30) : zf_X0_wetOf B (nI k) = some (bt_wet B k) := by
  unfold zf_X0_wetOf
  rw [isNode_in h, bd1_some, if_neg (by decide), if_neg (by rw [ix h (by omega)]; exact id), nI_clamp (by omega)]
theorem putKind_in {B : BT} {k : Nat} {v : Int32} (h : k < 30) : zf_X0_putKind B (nI k) v = some (bs_kind B (upd (bt_kind B) k v)) := by
  unfold zf_X0_putKind
  rw [isNode_in h, bd1_some, if_neg (by decide), if_neg (by rw [ix h (by omega)]; exact id), nI_clamp (by omega)]
theorem putFigure_in {B : BT} {k : Nat} {v : Int32} (h : k < 30) : zf_X0_putFigure B (nI k) v = some (bs_figure B (upd (bt_figure B) k v)) := by
  unfold zf_X0_putFigure
  rw [isNode_in h, bd1_some, if_neg (by decide), if_neg (by rw [ix h (by omega)]; exact id), nI_clamp (by omega)]
theorem putWet_in {B : BT} {k : Nat} {v : Int32} (h : k < 30) : zf_X0_putWet B (nI k) v = some (bs_wet B (upd (bt_wet B) k v)) := by
  unfold zf_X0_putWet
  rw [isNode_in h, bd1_some, if_neg (by decide), if_neg (by rw [ix h (by omega)]; exact id), nI_clamp (by omega)]
theorem has_in {B : BT} {N p : Nat} (hB : bt_people B = nI N) (hN : N < 5) (hp : p < N) : zf_X0_has B (nI p) = some 1 := by
  unfold zf_X0_has
  rw [if_neg (nI_pos (by omega)), if_neg (by rw [hB, nI_leI (by omega) (by omega)]; omega), if_neg (by rw [l4, nI_leI (by omega) (by omega)]; omega)]
theorem placeOf_in {B : BT} {N p : Nat} (hB : bt_people B = nI N) (hN : N < 5) (hp : p < N) : zf_X0_placeOf B (nI p) = some (bt_place B p) := by
  unfold zf_X0_placeOf
  rw [has_in hB hN hp, bd1_some, if_neg (by decide), if_neg (by rw [ix (by omega) (by omega)]; exact id), nI_clamp (by omega)]
theorem headingOf_in {B : BT} {N p : Nat} (hB : bt_people B = nI N) (hN : N < 5) (hp : p < N) : zf_X0_headingOf B (nI p) = some (bt_heading B p) := by
  unfold zf_X0_headingOf
  rw [has_in hB hN hp, bd1_some, if_neg (by decide), if_neg (by rw [ix (by omega) (by omega)]; exact id), nI_clamp (by omega)]
theorem helpedOf_in {B : BT} {N p : Nat} (hB : bt_people B = nI N) (hN : N < 5) (hp : p < N) : zf_X0_helpedOf B (nI p) = some (bt_helped B p) := by
  unfold zf_X0_helpedOf
  rw [has_in hB hN hp, bd1_some, if_neg (by decide), if_neg (by rw [ix (by omega) (by omega)]; exact id), nI_clamp (by omega)]
theorem putPlace_in {B : BT} {N p : Nat} {v : Int32} (hB : bt_people B = nI N) (hN : N < 5) (hp : p < N) : zf_X0_putPlace B (nI p) v = some (bs_place B (upd (bt_place B) p v)) := by
  unfold zf_X0_putPlace
  rw [has_in hB hN hp, bd1_some, if_neg (by decide), if_neg (by rw [ix (by omega) (by omega)]; exact id), nI_clamp (by omega)]
theorem putHeading_in {B : BT} {N p : Nat} {v : Int32} (hB : bt_people B = nI N) (hN : N < 5) (hp : p < N) : zf_X0_putHeading B (nI p) v = some (bs_heading B (upd (bt_heading B) p v)) := by
  unfold zf_X0_putHeading
  rw [has_in hB hN hp, bd1_some, if_neg (by decide), if_neg (by rw [ix (by omega) (by omega)]; exact id), nI_clamp (by omega)]
/-! ways -/
def nd (a w : Nat) : Option Nat := if w = 0 then (if a < 6 then none else some (a - 6)) else if w = 1 then (if a % 6 = 5 then none else some (a + 1)) else if w = 2 then (if 24 ≤ a then none else some (a + 6)) else (if a % 6 = 0 then none else some (a - 1))
theorem nd_lt : ∀ a, a < 30 → ∀ w, w < 4 → (nd a w).getD 0 < 30 := by decide +kernel
theorem nd_X1 : ∀ a, a < 30 → ∀ w, w < 4 → zf_X1_nodeThatWay (nI a) (nI w) = some (match nd a w with | some b => nI b | none => -1) := by decide +kernel
theorem nd_X2 : ∀ a, a < 30 → ∀ w, w < 4 → zf_X2_nodeThere (nI a) (nI w) = some (match nd a w with | some b => nI b | none => -9) := by decide +kernel
theorem jr_way : ∀ w, w < 4 → jr (nI w + 3) 4 = nI ((w + 3) % 4) ∧ jr (jr (nI w + 3) 4 + 2) 4 = nI ((w + 1) % 4) ∧ jr (nI w + 1) 4 = nI ((w + 1) % 4) ∧ jr (nI w + 2) 4 = nI ((w + 2) % 4) := by decide +kernel
theorem jr_fig : ∀ f, f < 10 → jr (nI f) 4 = nI (f % 4) := by decide +kernel
theorem wayBy_eq (kd st : Int32) {f w : Nat} (hf : f < 10) (hw : w < 4) : ∃ w', w' < 4 ∧ zf_X0_wayBy kd (nI f) (nI w) st = some (nI w') ∧ zf_X2_wayBy kd (nI f) (nI w) st = some (nI w') := by
  obtain ⟨e1, e2, e3, e4⟩ := jr_way w hw
  have e5 := jr_fig f hf
  unfold zf_X0_wayBy zf_X2_wayBy
  rw [e2, e3, e1, e4, e5]
  by_cases c1 : kd = 1
  · simp only [if_pos c1]; exact ⟨_, Nat.mod_lt _ (by decide), rfl, rfl⟩
  simp only [if_neg c1]
  by_cases c2 : kd = 2
  · simp only [if_pos c2]; exact ⟨_, Nat.mod_lt _ (by decide), rfl, rfl⟩
  simp only [if_neg c2]
  by_cases c3 : kd = 3
  · simp only [if_pos c3]
    by_cases c : jr st 4 = 0
    · rw [if_pos c]; exact ⟨_, Nat.mod_lt _ (by decide), rfl, rfl⟩
    · rw [if_neg c]; exact ⟨_, hw, rfl, rfl⟩
  simp only [if_neg c3]
  by_cases c4 : kd = 4
  · simp only [if_pos c4]
    by_cases c : jr st 2 = 1
    · rw [if_pos c]; exact ⟨_, Nat.mod_lt _ (by decide), rfl, rfl⟩
    · rw [if_neg c]; exact ⟨_, hw, rfl, rfl⟩
  simp only [if_neg c4]
  by_cases c5 : kd = 5
  · simp only [if_pos c5]; exact ⟨_, Nat.mod_lt _ (by decide), rfl, rfl⟩
  · simp only [if_neg c5]; exact ⟨_, hw, rfl, rfl⟩
