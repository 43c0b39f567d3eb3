/-! the pure side, 4: what holds between the two; refusals, nodes, people -/
def Ok {a b : Type} (R : a → b → Prop) (f : Option a) (g : Option b) : Prop := ∃ x y, f = some x ∧ g = some y ∧ R x y
theorem ok {a b : Type} {R : a → b → Prop} {x : a} {y : b} (h : R x y) : Ok R (some x) (some y) := ⟨x, y, rfl, rfl, h⟩
def RR (g m : Nat → Int32) : Prop := ∀ i, i < 6 → g i = m (i + 1)
def RN (B : BT) (s : Nat → Int32) : Prop := (∃ N, N < 5 ∧ RBN N B s) ∧ s 2 = 0
def RT (T : BT) (t : Int32) (m : Nat → Int32) (h : Int32) : Prop := t = h ∧ (t = 0 ∨ (t = 1 ∧ RN T m))
def RE (g : Nat → Int32) (c : Int32) (m : Nat → Int32) (d : Int32) : Prop := ∃ n, n ≤ 96 ∧ c = nI n ∧ d = nI n ∧ ∀ j, j < n → g j = m j ∧ rg (g j) 256
def RO (g : Nat → Int32) (c : Int32) (m : Nat → Int32) (d : Int32) : Prop := ∃ n, n ≤ 16 ∧ c = nI n ∧ d = nI n ∧ ∀ j, j < n → g j = m j
theorem rfj {g m : Nat → Int32} (h : RR g m) {c : Int32} {j : Nat} (hj : j < 6) (e1 : (-c) - 1 = nI j) (e2 : -c = nI (j + 1)) : ∃ g' m', zf_X1_refuse g c = some (c, g') ∧ zf_X2_no m c = some (c, m') ∧ RR g' m' := by
  refine ⟨upd g j (g j + 1), upd m (j + 1) (m (j + 1) + 1), ?_, ?_, ?_⟩
  · unfold zf_X1_refuse
    rw [e1, if_neg (nI_pos (by omega)), if_neg (by rw [l6, nI_leI (by omega) (by omega)]; omega), if_neg (by rw [ix hj (by omega)]; exact id), if_neg (by rw [ix hj (by omega)]; exact id), nI_clamp (by omega)]
  · unfold zf_X2_no
    rw [e2, if_neg (by rw [ix (by omega) (by omega)]; exact id), if_neg (by rw [ix (by omega) (by omega)]; exact id), nI_clamp (by omega)]
  · intro i hi
    by_cases e : i = j
    · subst e; rw [up_s, up_s, h i hi]
    · rw [up_n e, up_n (by omega), h i hi]
theorem rf1 {g m : Nat → Int32} (h : RR g m) : ∃ g' m', zf_X1_refuse g (-1) = some (-1, g') ∧ zf_X2_no m (-1) = some (-1, m') ∧ RR g' m' := rfj h (j := 0) (by decide) (by decide) (by decide)
theorem rf2 {g m : Nat → Int32} (h : RR g m) : ∃ g' m', zf_X1_refuse g (-2) = some (-2, g') ∧ zf_X2_no m (-2) = some (-2, m') ∧ RR g' m' := rfj h (j := 1) (by decide) (by decide) (by decide)
theorem rf3 {g m : Nat → Int32} (h : RR g m) : ∃ g' m', zf_X1_refuse g (-3) = some (-3, g') ∧ zf_X2_no m (-3) = some (-3, m') ∧ RR g' m' := rfj h (j := 2) (by decide) (by decide) (by decide)
theorem rf4 {g m : Nat → Int32} (h : RR g m) : ∃ g' m', zf_X1_refuse g (-4) = some (-4, g') ∧ zf_X2_no m (-4) = some (-4, m') ∧ RR g' m' := rfj h (j := 3) (by decide) (by decide) (by decide)
theorem rf6 {g m : Nat → Int32} (h : RR g m) : ∃ g' m', zf_X1_refuse g (-6) = some (-6, g') ∧ zf_X2_no m (-6) = some (-6, m') ∧ RR g' m' := rfj h (j := 5) (by decide) (by decide) (by decide)
/-- a number is one below n, or both ask and say no -/
theorem isIn_in {k a n : Nat} (h1 : a ≤ k) (h2 : k ≤ n) (hn : n < 2 ^ 30) : zf_X2_isIn (nI k) (nI a) (nI n) = some 1 := by
  unfold zf_X2_isIn
  rw [if_neg (nI_nlt h1 (by omega)), if_neg (nI_nlt h2 (by omega))]
theorem isIn_lo {v lo hi : Int32} (h : v < lo) : zf_X2_isIn v lo hi = some 0 := by
  unfold zf_X2_isIn; rw [if_pos h]
theorem isIn_hi {v lo hi : Int32} (h : hi < v) : zf_X2_isIn v lo hi = some 0 := by
  unfold zf_X2_isIn
  by_cases c : v < lo
  · rw [if_pos c]
  · rw [if_neg c, if_pos h]
theorem z01 (A : Option Int32) : (if (1 : Int32) = 0 ∨ (1 : Int32) = 1 then A else none) = A := if_pos (Or.inr rfl)
theorem z00 (A : Option Int32) : (if (0 : Int32) = 0 ∨ (0 : Int32) = 1 then A else none) = A := if_pos (Or.inl rfl)
theorem node_cases (v : Int32) : (∃ k, k < 30 ∧ v = nI k ∧ zf_X1_isNode v = some 1 ∧ zf_X2_isNode v = some 1) ∨ (zf_X1_isNode v = some 0 ∧ zf_X2_isNode v = some 0) := by
  rcases pk_ix v (n := 30) (by omega) with h | h | ⟨j, hj, rfl⟩
  · refine Or.inr ⟨?_, ?_⟩
    · unfold zf_X1_isNode; rw [if_pos h]
    · unfold zf_X2_isNode; rw [isIn_lo h, bd1_some, z00]
  · have hn : ¬ v < 0 := fun z => absurd (Int32.lt_of_lt_of_le z (Int32.le_trans (by decide : (0 : Int32) ≤ nI 30) h)) Int32.lt_irrefl
    have h29 : (29 : Int32) < v := Int32.lt_of_lt_of_le (by decide) h
    refine Or.inr ⟨?_, ?_⟩
    · unfold zf_X1_isNode; rw [if_neg hn, l30, if_pos h]
    · unfold zf_X2_isNode; rw [isIn_hi h29, bd1_some, z00]
  · refine Or.inl ⟨j, hj, rfl, isNode_in hj, ?_⟩
    unfold zf_X2_isNode
    rw [l0, l29, isIn_in (by omega) (by omega) (by omega), bd1_some]; rfl
theorem way_cases (v : Int32) : (∃ k, k < 4 ∧ v = nI k ∧ zf_X1_isWay v = some 1 ∧ zf_X2_isWay v = some 1) ∨ (zf_X1_isWay v = some 0 ∧ zf_X2_isWay v = some 0) := by
  rcases pk_ix v (n := 4) (by omega) with h | h | ⟨j, hj, rfl⟩
  · refine Or.inr ⟨?_, ?_⟩
    · unfold zf_X1_isWay; rw [if_pos h]
    · unfold zf_X2_isWay; rw [isIn_lo h, bd1_some, z00]
  · have hn : ¬ v < 0 := fun z => absurd (Int32.lt_of_lt_of_le z (Int32.le_trans (by decide : (0 : Int32) ≤ nI 4) h)) Int32.lt_irrefl
    have h29 : (3 : Int32) < v := Int32.lt_of_lt_of_le (by decide) h
    refine Or.inr ⟨?_, ?_⟩
    · unfold zf_X1_isWay; rw [if_neg hn, l4, if_pos h]
    · unfold zf_X2_isWay; rw [isIn_hi h29, bd1_some, z00]
  · refine Or.inl ⟨j, hj, rfl, ?_, ?_⟩
    · unfold zf_X1_isWay
      rw [if_neg (nI_pos (by omega)), if_neg (by rw [l4, nI_leI (by omega) (by omega)]; omega)]
    · unfold zf_X2_isWay
      rw [l0, l3, isIn_in (by omega) (by omega) (by omega), bd1_some]; rfl
theorem kind_cases (v : Int32) : (∃ k, k < 6 ∧ v = nI k ∧ zf_X1_isKind v = some 1 ∧ zf_X2_isIn v 0 5 = some 1) ∨ (zf_X1_isKind v = some 0 ∧ zf_X2_isIn v 0 5 = some 0) := by
  rcases pk_ix v (n := 6) (by omega) with h | h | ⟨j, hj, rfl⟩
  · refine Or.inr ⟨?_, isIn_lo h⟩
    unfold zf_X1_isKind; rw [if_pos h]
  · have hn : ¬ v < 0 := fun z => absurd (Int32.lt_of_lt_of_le z (Int32.le_trans (by decide : (0 : Int32) ≤ nI 6) h)) Int32.lt_irrefl
    refine Or.inr ⟨?_, isIn_hi (Int32.lt_of_lt_of_le (by decide) h)⟩
    unfold zf_X1_isKind; rw [if_neg hn, l6, if_pos h]
  · refine Or.inl ⟨j, hj, rfl, ?_, ?_⟩
    · unfold zf_X1_isKind
      rw [if_neg (nI_pos (by omega)), if_neg (by rw [l6, nI_leI (by omega) (by omega)]; omega)]
    · rw [l0, l5]; exact isIn_in (by omega) (by omega) (by omega)
theorem person_cases {N : Nat} {B : BT} {r : Nat → Int32} (h : RBN N B r) (hN : N < 5) (v : Int32) : (∃ p, p < N ∧ v = nI p ∧ zf_X0_has B v = some 1 ∧ zf_X2_isPerson r v = some 1) ∨ (zf_X0_has B v = some 0 ∧ zf_X2_isPerson r v = some 0) := by
  have hp : zf_X2_isPerson r v = bd1 (zf_X2_isIn v 0 (nI N - 1)) fun r1 => if r1 = 0 ∨ r1 = 1 then some r1 else none := by
    unfold zf_X2_isPerson; rw [cl0, h.2.1]
  rcases pk_ix v (n := N) (by omega) with c | c | ⟨j, hj, rfl⟩
  · refine Or.inr ⟨?_, ?_⟩
    · unfold zf_X0_has; rw [if_pos c]
    · rw [hp, isIn_lo c, bd1_some, z00]
  · have hn : ¬ v < 0 := fun z => absurd (Int32.lt_of_lt_of_le z (Int32.le_trans (nI_pos' (by omega) : (0 : Int32) ≤ nI N) c)) Int32.lt_irrefl
    refine Or.inr ⟨?_, ?_⟩
    · unfold zf_X0_has; rw [if_neg hn, if_pos (by rw [h.1]; exact c)]
    · have hh : nI N - 1 < v := by
        rcases Nat.eq_zero_or_pos N with z | z
        · subst z
          exact Int32.lt_of_lt_of_le (by decide) c
        · obtain ⟨k, rfl⟩ : ∃ k, N = k + 1 := ⟨N - 1, by omega⟩
          rw [nI_pred]
          exact Int32.lt_of_lt_of_le (nI_lt (by omega) (by omega)) c
      rw [hp, isIn_hi hh, bd1_some, z00]
  · refine Or.inl ⟨j, hj, rfl, has_in h.1 hN hj, ?_⟩
    obtain ⟨k, rfl⟩ : ∃ k, N = k + 1 := ⟨N - 1, by omega⟩
    rw [hp, nI_pred, l0, isIn_in (by omega) (by omega) (by omega), bd1_some]; rfl
theorem out_eq (a b c : Int32) : zf_X1_outside a b c = zf_X2_wrongBy a b c := rfl
theorem out_cases (v : Int32) (lo n : Nat) (hl : lo ≤ n) (hn : n < 2 ^ 30) : (∃ k, lo ≤ k ∧ k ≤ n ∧ v = nI k ∧ zf_X1_outside v (nI lo) (nI n) = some 0) ∨ (zf_X1_outside v (nI lo) (nI n) = some (-6) ∧ nI lo ≤ v ∧ nI n < v) ∨ (zf_X1_outside v (nI lo) (nI n) = some (-4) ∧ ¬ nI lo ≤ v) := by
  unfold zf_X1_outside
  by_cases c : nI lo ≤ v
  · rw [if_pos c]
    by_cases d : v ≤ nI n
    · rw [if_pos d]
      have hn0 : ¬ v < 0 := fun z => absurd (Int32.lt_of_lt_of_le z (Int32.le_trans (nI_pos' (by omega) : (0 : Int32) ≤ nI lo) c)) Int32.lt_irrefl
      obtain ⟨j, hj, rfl⟩ := nI_of hn0
      exact Or.inl ⟨j, (nI_leI (by omega) hj).mp c, (nI_leI hj (by omega)).mp d, rfl, rfl⟩
    · rw [if_neg d]; exact Or.inr (Or.inl ⟨rfl, c, Int32.not_le.mp d⟩)
  · rw [if_neg c]; exact Or.inr (Or.inr ⟨rfl, c⟩)
theorem m6_0 : ((-6 : Int32) = 0) = False := by decide
theorem m4_0 : ((-4 : Int32) = 0) = False := by decide
theorem m1_0 : ((-1 : Int32) = 0) = False := by decide
theorem m2_0 : ((-2 : Int32) = 0) = False := by decide
theorem ngo (k : Nat) {a : Nat} (h : k + a < 2 ^ 31) : (nI k + nI a < 0) = False := by rw [nI_add]; exact ng h
theorem c3 {a : Nat} (h : a < 30) : ((3 : Int32) + nI a).toNatClampNeg = 3 + a := clo 3 (by omega)
theorem c33 {a : Nat} (h : a < 30) : ((33 : Int32) + nI a).toNatClampNeg = 33 + a := clo 33 (by omega)
theorem c63 {a : Nat} (h : a < 30) : ((63 : Int32) + nI a).toNatClampNeg = 63 + a := clo 63 (by omega)
theorem g3 {a : Nat} (h : a < 30) : ((3 : Int32) + nI a < 0) = False := ngo 3 (by omega)
theorem g33 {a : Nat} (h : a < 30) : ((33 : Int32) + nI a < 0) = False := ngo 33 (by omega)
theorem g63 {a : Nat} (h : a < 30) : ((63 : Int32) + nI a < 0) = False := ngo 63 (by omega)
theorem u2 {s : Nat → Int32} {k : Nat} {v : Int32} (h : s 2 = 0) (hk : 2 ≠ k) : upd s k v 2 = 0 := (up_n hk).trans h
/-! the first answers -/
theorem sim_node {B : BT} {s g m : Nat → Int32} (hN : RN B s) (hR : RR g m) (v1 v2 : Int32) : Ok (fun a b => a.1 = b.1 ∧ RR a.2 b.2) (zf_X1_node B g v1 v2) (zf_X2_node s m v1 v2) := by
  obtain ⟨⟨N, hN5, h⟩, h2⟩ := hN
  rcases node_cases v1 with ⟨k, hk, rfl, n1, n2⟩ | ⟨n1, n2⟩
  · obtain ⟨k1, k2, k3, -, -⟩ := h.2.2.2.2 k hk
    have y3 : (105 ≤ 3 + k) = False := ge (by omega)
    have y33 : (105 ≤ 33 + k) = False := ge (by omega)
    have y63 : (105 ≤ 63 + k) = False := ge (by omega)
    by_cases a0 : v2 = 0
    · simp only [zf_X1_node, zf_X2_node, n1, n2, bd1_some, one_0, if_pos a0, kindOf_in hk, g3 hk, c3 hk, y3, or_self, ↓reduceIte]
      exact ok ⟨k1, hR⟩
    by_cases a1 : v2 = 1
    · simp only [zf_X1_node, zf_X2_node, n1, n2, bd1_some, one_0, if_neg a0, if_pos a1, figureOf_in hk, g33 hk, c33 hk, y33, or_self, ↓reduceIte]
      exact ok ⟨k2, hR⟩
    by_cases a2 : v2 = 2
    · simp only [zf_X1_node, zf_X2_node, n1, n2, bd1_some, one_0, if_neg a0, if_neg a1, if_pos a2, wetOf_in hk, g63 hk, c63 hk, y63, or_self, ↓reduceIte]
      exact ok ⟨k3, hR⟩
    · obtain ⟨g', m', q1, q2, q3⟩ := rf2 hR
      simp only [zf_X1_node, zf_X2_node, n1, n2, bd1_some, one_0, if_neg a0, if_neg a1, if_neg a2, q1, q2, bd2_some, ↓reduceIte]
      exact ok ⟨rfl, q3⟩
  · obtain ⟨g', m', q1, q2, q3⟩ := rf1 hR
    simp only [zf_X1_node, zf_X2_node, n1, n2, bd1_some, q1, q2, bd2_some, ↓reduceIte]
    exact ok ⟨rfl, q3⟩
theorem sim_wets {B : BT} {s g m : Nat → Int32} (hN : RN B s) (hR : RR g m) (v1 v2 : Int32) : Ok (fun a b => a.1 = b.1 ∧ RN a.2.1 b.2.1 ∧ RR a.2.2 b.2.2) (zf_X1_wets B g v1 v2) (zf_X2_wets s m v1 v2) := by
  obtain ⟨⟨N, hN5, h⟩, h2⟩ := id hN
  rcases node_cases v1 with ⟨k, hk, rfl, n1, n2⟩ | ⟨n1, n2⟩
  · obtain ⟨k1, k2, k3, -, -⟩ := h.2.2.2.2 k hk
    have y63 : (105 ≤ 63 + k) = False := ge (by omega)
    rcases out_cases v2 0 9 (by omega) (by omega) with ⟨j, -, hj, rfl, o⟩ | ⟨o, -⟩ | ⟨o, -⟩
    · have o' : zf_X2_wrongBy (nI j) 0 9 = some 0 := o
      have o : zf_X1_outside (nI j) 0 9 = some 0 := o
      simp only [zf_X1_wets, zf_X2_wets, zf_X2_sets, n1, n2, o, o', bd1_some, bd2_some, one_0, wetOf_in hk, putWet_in hk, g63 hk, c63 hk, y63, or_self, ↓reduceIte]
      exact ok ⟨k3, ⟨⟨N, hN5, RBN_wet h hk (rg_nI (by omega))⟩, u2 h2 (by omega)⟩, hR⟩
    · have o' : zf_X2_wrongBy v2 0 9 = some (-6) := o
      have o : zf_X1_outside v2 0 9 = some (-6) := o
      obtain ⟨g', m', q1, q2, q3⟩ := rf6 hR
      simp only [zf_X1_wets, zf_X2_wets, n1, n2, o, o', bd1_some, bd2_some, one_0, m6_0, q1, q2, ↓reduceIte]
      exact ok ⟨rfl, hN, q3⟩
    · have o' : zf_X2_wrongBy v2 0 9 = some (-4) := o
      have o : zf_X1_outside v2 0 9 = some (-4) := o
      obtain ⟨g', m', q1, q2, q3⟩ := rf4 hR
      simp only [zf_X1_wets, zf_X2_wets, n1, n2, o, o', bd1_some, bd2_some, one_0, m4_0, q1, q2, ↓reduceIte]
      exact ok ⟨rfl, hN, q3⟩
  · obtain ⟨g', m', q1, q2, q3⟩ := rf1 hR
    simp only [zf_X1_wets, zf_X2_wets, n1, n2, bd1_some, q1, q2, bd2_some, ↓reduceIte]
    exact ok ⟨rfl, hN, q3⟩
