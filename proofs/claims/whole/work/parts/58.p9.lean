/-! the pure side, 9: then; the best beginning, heading, wetting, kind -/
theorem what2 (v : Int32) : (v < 0) ∨ (0 ≤ v ∧ 2 < v) ∨ v = nI 0 ∨ v = nI 1 ∨ v = nI 2 := by
  rcases pk_ix v (n := 3) (by omega) with h | h | ⟨j, hj, rfl⟩
  · exact Or.inl h
  · exact Or.inr (Or.inl ⟨Int32.le_trans (by decide) h, Int32.lt_of_lt_of_le (by decide) h⟩)
  · rcases (show j = 0 ∨ j = 1 ∨ j = 2 by omega) with rfl | rfl | rfl <;> simp
theorem what1 (v : Int32) : (v < 0) ∨ (0 ≤ v ∧ 1 < v) ∨ v = nI 0 ∨ v = nI 1 := by
  rcases pk_ix v (n := 2) (by omega) with h | h | ⟨j, hj, rfl⟩
  · exact Or.inl h
  · exact Or.inr (Or.inl ⟨Int32.le_trans (by decide) h, Int32.lt_of_lt_of_le (by decide) h⟩)
  · rcases (show j = 0 ∨ j = 1 by omega) with rfl | rfl <;> simp
theorem person_at {N p : Nat} {B : BT} {r : Nat → Int32} (h : RBN N B r) (hN : N < 5) (hp : p < N) {j : Nat} (hj : j < 3) : ∃ x, zf_X0_ofPerson B (nI p) (nI j) = some x ∧ r (93 + 3 * p + j) = x := by
  obtain ⟨a1, a2, a3, -, -⟩ := h.2.2.1 p hp
  refine ⟨_, ofPerson_in h.1 hN hp (nI j), ?_⟩
  rcases (show j = 0 ∨ j = 1 ∨ j = 2 by omega) with rfl | rfl | rfl
  · rw [if_pos (by decide)]; exact a1.symm
  · rw [if_neg (by decide), if_pos (by decide), a2, show 93 + 3 * p + 1 = 94 + 3 * p by omega]
  · rw [if_neg (by decide), if_neg (by decide), a3, show 93 + 3 * p + 2 = 95 + 3 * p by omega]
theorem sim_personThen {B M : BT} {s q g m : Nat → Int32} (hN : RN B s) (hR : RR g m) (v1 v2 v3 : Int32) : Ok (fun a b => a.1 = b.1 ∧ RR a.2.2 b.2.2) (zf_X1_personThen B M g v1 v2 v3) (zf_X2_personThen s q m v1 v2 v3) := by
  obtain ⟨⟨N, hN5, h⟩, h2⟩ := hN
  rcases person_cases h hN5 v1 with ⟨p, hp, rfl, n1, n2⟩ | ⟨n1, n2⟩
  · rcases out_cases v2 0 60 (by omega) (by omega) with ⟨n, -, hn, rfl, o⟩ | ⟨o, -⟩ | ⟨o, -⟩
    · have o' : zf_X2_wrongBy (nI n) 0 60 = some 0 := o
      have o : zf_X1_outside (nI n) 0 60 = some 0 := o
      have good : ∀ j, j < 3 → ¬ nI j < 0 → nI j ≤ 2 → zf_X2_isIn (nI j) 0 2 = some 1 → Ok (fun a b => a.1 = b.1 ∧ RR a.2.2 b.2.2) (zf_X1_personThen B M g (nI p) (nI n) (nI j)) (zf_X2_personThen s q m (nI p) (nI n) (nI j)) := by
        intro j hj t1 t2 t3
        obtain ⟨B', q', e1, e2, e3, e4⟩ := becomes_copies (B := M) (q := q) h hN5
        obtain ⟨B1, r1, f1, f2, f3, f4⟩ := goOn_n (st := 0) (n := n) e3 hN5 (SA0' (e4.trans h2)) (by omega)
        obtain ⟨x, x1, x2⟩ := person_at f3 hN5 hp hj
        have y : (105 ≤ 93 + 3 * p + j) = False := ge (by omega)
        have xx : (nI (93 + 3 * p + j) < 0) = False := ng (by omega)
        have z : (nI (93 + 3 * p + j)).toNatClampNeg = 93 + 3 * p + j := nI_clamp (by omega)
        simp only [zf_X1_personThen, zf_X2_personThen, zf_X2_personThen_j39, zf_X2_takes, n1, n2, o, o', bd1_some, bd2_some, one_0, if_neg t1, if_pos t2, t3, e1, e2, f1, f2, x1, of_k, xx, y, z, x2, or_self, ↓reduceIte]
        exact ok ⟨rfl, hR⟩
      rcases what2 v3 with c | ⟨c0, c⟩ | rfl | rfl | rfl
      · obtain ⟨g', m', q1, q2, q3⟩ := rf2 hR
        have i0 : zf_X2_isIn v3 0 2 = some 0 := isIn_lo c
        simp only [zf_X1_personThen, zf_X2_personThen, zf_X2_personThen_j39, n1, n2, o, o', bd1_some, bd2_some, one_0, m2_0, if_pos c, i0, q1, q2, ↓reduceIte]
        exact ok ⟨rfl, q3⟩
      · obtain ⟨g', m', q1, q2, q3⟩ := rf2 hR
        have i0 : zf_X2_isIn v3 0 2 = some 0 := isIn_hi c
        simp only [zf_X1_personThen, zf_X2_personThen, zf_X2_personThen_j39, n1, n2, o, o', bd1_some, bd2_some, one_0, m2_0, if_neg (not_lt0 c0), if_neg (gt_le c), i0, q1, q2, ↓reduceIte]
        exact ok ⟨rfl, q3⟩
      · exact good 0 (by omega) (by decide) (by decide) (by decide)
      · exact good 1 (by omega) (by decide) (by decide) (by decide)
      · exact good 2 (by omega) (by decide) (by decide) (by decide)
    · have o' : zf_X2_wrongBy v2 0 60 = some (-6) := o
      have o : zf_X1_outside v2 0 60 = some (-6) := o
      obtain ⟨g', m', q1, q2, q3⟩ := rf6 hR
      simp only [zf_X1_personThen, zf_X2_personThen, zf_X2_personThen_j39, n1, n2, o, o', bd1_some, bd2_some, one_0, m6_0, q1, q2, ↓reduceIte]
      exact ok ⟨rfl, q3⟩
    · have o' : zf_X2_wrongBy v2 0 60 = some (-4) := o
      have o : zf_X1_outside v2 0 60 = some (-4) := o
      obtain ⟨g', m', q1, q2, q3⟩ := rf4 hR
      simp only [zf_X1_personThen, zf_X2_personThen, zf_X2_personThen_j39, n1, n2, o, o', bd1_some, bd2_some, one_0, m4_0, q1, q2, ↓reduceIte]
      exact ok ⟨rfl, q3⟩
  · obtain ⟨g', m', q1, q2, q3⟩ := rf1 hR
    simp only [zf_X1_personThen, zf_X2_personThen, zf_X2_personThen_j39, n1, n2, bd1_some, bd2_some, m1_0, q1, q2, ↓reduceIte]
    exact ok ⟨rfl, q3⟩
/-- two picks go on alike: the best so far and its number; first the one has (0, 0), the other (0, -1) -/
def PK (i : Nat) (c5 c6 m5 m6 : Int32) : Prop := c5 = m5 ∧ ((c6 = m6 ∧ ∃ k, k < 2 ^ 30 ∧ c6 = nI k) ∨ (i = 0 ∧ c5 = 0 ∧ c6 = 0 ∧ m6 = -1))
theorem PK_eq {i : Nat} {c5 c6 m5 m6 : Int32} (h : PK i c5 c6 m5 m6) (hi : i ≠ 0) : c5 = m5 ∧ c6 = m6 := by
  obtain ⟨h1, ⟨h2, -⟩ | ⟨h2, -⟩⟩ := h
  · exact ⟨h1, h2⟩
  · exact absurd h2 hi
theorem PK_step {i : Nat} {c5 c6 m5 m6 : Int32} (h : PK i c5 c6 m5 m6) {k : Nat} (hk : k < 2 ^ 30) {a b : Type} {R : a → b → Prop} {f : Int32 → Int32 → Option a} {g : Int32 → Int32 → Option b} (H : ∀ u5 u6 w5 w6, PK (i + 1) u5 u6 w5 w6 → Ok R (f u5 u6) (g w5 w6)) :
    Ok R (if nI k ≤ c6 then f c5 c6 else f (nI i) (nI k)) (if m6 < nI k then g (nI i) (nI k) else g m5 m6) := by
  obtain ⟨rfl, ⟨rfl, j, hj, rfl⟩ | ⟨rfl, rfl, rfl, rfl⟩⟩ := h
  · by_cases c : nI k ≤ nI j
    · rw [if_pos c, if_neg (Int32.not_lt.mpr c)]
      exact H _ _ _ _ ⟨rfl, Or.inl ⟨rfl, j, hj, rfl⟩⟩
    · rw [if_neg c, if_pos (Int32.not_le.mp c)]
      exact H _ _ _ _ ⟨rfl, Or.inl ⟨rfl, k, hk, rfl⟩⟩
  · have hm : (-1 : Int32) < nI k := Int32.lt_of_lt_of_le (by decide) (nI_pos' (by omega))
    rw [if_pos hm]
    by_cases c : nI k ≤ 0
    · have e : k = 0 := by
        have := (nI_leI (a := k) (b := 0) (by omega) (by omega)).mp c
        omega
      subst e
      rw [if_pos c]
      exact H _ _ _ _ ⟨rfl, Or.inl ⟨rfl, 0, by omega, rfl⟩⟩
    · rw [if_neg c]
      exact H _ _ _ _ ⟨rfl, Or.inl ⟨rfl, k, hk, rfl⟩⟩
theorem begin_loop {N p n : Nat} {B0 : BT} {s g m : Nat → Int32} {v3 : Int32} (h0 : RBN N B0 s) (h2 : s 2 = 0) (hN : N < 5) (hp : p < N) (hn : n ≤ 60) (hR : RR g m) : ∀ (d fu fu' i : Nat) (c5 c6 m5 m6 : Int32) (M : BT) (q : Nat → Int32), i + d = 30 → d < fu → d < fu' → PK i c5 c6 m5 m6 →
    Ok (fun a b => a.1 = b.1 ∧ RR a.2.2 b.2.2) (zl4 (zf_X1_begin_b63 (nI p) (nI n) v3 B0 g) fu c5 c6 (nI i) M) (zl4 (zf_X2_begin_b60 (nI p) (nI n) v3 s m) fu' m5 m6 (nI i) q) := by
  intro d
  induction d with
  | zero =>
    intro fu fu' i c5 c6 m5 m6 M q hi hf hf' hp'
    obtain ⟨fu, rfl⟩ : ∃ x, fu = x + 1 := ⟨fu - 1, by omega⟩
    obtain ⟨fu', rfl⟩ : ∃ x, fu' = x + 1 := ⟨fu' - 1, by omega⟩
    obtain ⟨rfl, rfl⟩ := PK_eq hp' (by omega)
    have e : i = 30 := by omega
    subst e
    rw [zl4_s, zl4_s, zf_X1_begin_b63, zf_X2_begin_b60, if_pos (by decide), if_pos (by decide), zf_X1_begin_j123, zf_X2_begin_j122]
    by_cases c : v3 = 0
    · rw [if_pos c, if_pos c]; exact ok ⟨rfl, hR⟩
    · rw [if_neg c, if_neg c]; exact ok ⟨rfl, hR⟩
  | succ d ih =>
    intro fu fu' i c5 c6 m5 m6 M q hi hf hf' hp'
    obtain ⟨fu, rfl⟩ : ∃ x, fu = x + 1 := ⟨fu - 1, by omega⟩
    obtain ⟨fu', rfl⟩ : ∃ x, fu' = x + 1 := ⟨fu' - 1, by omega⟩
    obtain ⟨x0, y0, z0⟩ := px0 (p := p) (by omega)
    have hv : ¬ (30 : Int32) ≤ nI i := nI_ge (b := 30) (by omega) (by omega)
    obtain ⟨B1, q1, e1, e2, e3, e4⟩ := becomes_copies (B := M) (q := q) h0 hN
    have h3 := RBN_place e3 hN hp (v := nI i) (rg_nI (by omega))
    obtain ⟨⟨x, B2⟩, ⟨y, q2⟩, f1, f2, f3, k, hk, f4⟩ := vis_in hN hp hn h3 (u2 (e4.trans h2) (by omega))
    dsimp only at f3 f4
    subst f3
    subst f4
    rw [zl4_s, zl4_s]
    simp only [zf_X1_begin_b63, zf_X2_begin_b60, if_neg hv, e1, e2, putPlace_in e3.1 hN hp, of_0, bd1_some, x0, y0, z0, or_self, f1, f2, bd2_some, nI_1, ↓reduceIte]
    exact PK_step (f := fun a b => zl4 (zf_X1_begin_b63 (nI p) (nI n) v3 B0 g) fu a b (nI (i + 1)) B2) (g := fun a b => zl4 (zf_X2_begin_b60 (nI p) (nI n) v3 s m) fu' a b (nI (i + 1)) q2) hp' (by omega) (fun u5 u6 w5 w6 hh => ih fu fu' (i + 1) u5 u6 w5 w6 B2 q2 (by omega) (by omega) (by omega) hh)
theorem PK_0 : PK 0 0 0 0 (-1) := ⟨rfl, Or.inr ⟨rfl, rfl, rfl, rfl⟩⟩
theorem begin_E1 {B M : BT} {g : Nat → Int32} {v1 v2 v3 : Int32} (n1 : zf_X0_has B v1 = some 1) (o : zf_X1_outside v2 0 30 = some 0) (t1 : ¬ v3 < 0) (t2 : v3 ≤ 1) : zf_X1_begin B M g v1 v2 v3 = zl4 (zf_X1_begin_b63 v1 v2 v3 B g) zb_FU 0 0 0 M := by
  rw [zf_X1_begin, n1, bd1_some, if_neg (by decide), o, bd1_some, if_pos rfl, if_neg t1, if_pos t2]
theorem begin_E2 {s q m : Nat → Int32} {v1 v2 v3 : Int32} (n1 : zf_X2_isPerson s v1 = some 1) (o : zf_X2_wrongBy v2 0 30 = some 0) (t1 : zf_X2_isIn v3 0 1 = some 1) : zf_X2_begin s q m v1 v2 v3 = zl4 (zf_X2_begin_b60 v1 v2 v3 s m) zb_FU 0 (-1) 0 q := by
  rw [zf_X2_begin, n1, bd1_some, if_neg (by decide), o, bd1_some, if_pos rfl, t1, bd1_some, if_neg (by decide), zf_X2_begin_j39, if_pos rfl]
theorem sim_begin {B M : BT} {s q g m : Nat → Int32} (hN : RN B s) (hR : RR g m) (v1 v2 v3 : Int32) : Ok (fun a b => a.1 = b.1 ∧ RR a.2.2 b.2.2) (zf_X1_begin B M g v1 v2 v3) (zf_X2_begin s q m v1 v2 v3) := by
  obtain ⟨⟨N, hN5, h⟩, h2⟩ := hN
  rcases person_cases h hN5 v1 with ⟨p, hp, rfl, n1, n2⟩ | ⟨n1, n2⟩
  · rcases out_cases v2 0 30 (by omega) (by omega) with ⟨n, -, hn, rfl, o⟩ | ⟨o, -⟩ | ⟨o, -⟩
    · have o' : zf_X2_wrongBy (nI n) 0 30 = some 0 := o
      have o : zf_X1_outside (nI n) 0 30 = some 0 := o
      have good : ∀ j, ¬ nI j < 0 → nI j ≤ 1 → zf_X2_isIn (nI j) 0 1 = some 1 → Ok (fun a b => a.1 = b.1 ∧ RR a.2.2 b.2.2) (zf_X1_begin B M g (nI p) (nI n) (nI j)) (zf_X2_begin s q m (nI p) (nI n) (nI j)) := by
        intro j t1 t2 t3
        rw [begin_E1 n1 o t1 t2, begin_E2 n2 o' t3]
        exact begin_loop h h2 hN5 hp (by omega) hR 30 zb_FU zb_FU 0 0 0 0 (-1) M q (by omega) (fu_lt (by omega)) (fu_lt (by omega)) PK_0
      rcases what1 v3 with c | ⟨c0, c⟩ | rfl | rfl
      · obtain ⟨g', m', q1, q2, q3⟩ := rf2 hR
        have i0 : zf_X2_isIn v3 0 1 = some 0 := isIn_lo c
        simp only [zf_X1_begin, zf_X2_begin, zf_X2_begin_j39, n1, n2, o, o', bd1_some, bd2_some, one_0, m2_0, if_pos c, i0, q1, q2, ↓reduceIte]
        exact ok ⟨rfl, q3⟩
      · obtain ⟨g', m', q1, q2, q3⟩ := rf2 hR
        have i0 : zf_X2_isIn v3 0 1 = some 0 := isIn_hi c
        simp only [zf_X1_begin, zf_X2_begin, zf_X2_begin_j39, n1, n2, o, o', bd1_some, bd2_some, one_0, m2_0, if_neg (not_lt0 c0), if_neg (gt_le c), i0, q1, q2, ↓reduceIte]
        exact ok ⟨rfl, q3⟩
      · exact good 0 (by decide) (by decide) (by decide)
      · exact good 1 (by decide) (by decide) (by decide)
    · have o' : zf_X2_wrongBy v2 0 30 = some (-6) := o
      have o : zf_X1_outside v2 0 30 = some (-6) := o
      obtain ⟨g', m', q1, q2, q3⟩ := rf6 hR
      simp only [zf_X1_begin, zf_X2_begin, zf_X2_begin_j39, n1, n2, o, o', bd1_some, bd2_some, one_0, m6_0, q1, q2, ↓reduceIte]
      exact ok ⟨rfl, q3⟩
    · have o' : zf_X2_wrongBy v2 0 30 = some (-4) := o
      have o : zf_X1_outside v2 0 30 = some (-4) := o
      obtain ⟨g', m', q1, q2, q3⟩ := rf4 hR
      simp only [zf_X1_begin, zf_X2_begin, zf_X2_begin_j39, n1, n2, o, o', bd1_some, bd2_some, one_0, m4_0, q1, q2, ↓reduceIte]
      exact ok ⟨rfl, q3⟩
  · obtain ⟨g', m', q1, q2, q3⟩ := rf1 hR
    simp only [zf_X1_begin, zf_X2_begin, zf_X2_begin_j39, n1, n2, bd1_some, bd2_some, m1_0, q1, q2, ↓reduceIte]
    exact ok ⟨rfl, q3⟩
theorem damp_loop {N p n : Nat} {B0 : BT} {s g m : Nat → Int32} (h0 : RBN N B0 s) (h2 : s 2 = 0) (hN : N < 5) (hp : p < N) (hn : n ≤ 60) (hR : RR g m) : ∀ (d fu fu' i : Nat) (c4 c5 : Int32) (M : BT) (q : Nat → Int32), i + d = 30 → d < fu → d < fu' →
    Ok (fun a b => a.1 = b.1 ∧ RR a.2.2 b.2.2) (zl4 (zf_X1_damp_b64 (nI p) (nI n) B0 g) fu c4 c5 (nI i) M) (zl4 (zf_X2_damp_b45 (nI p) (nI n) s m) fu' c4 c5 (nI i) q) := by
  intro d
  induction d with
  | zero =>
    intro fu fu' i c4 c5 M q hi hf hf'
    obtain ⟨fu, rfl⟩ : ∃ x, fu = x + 1 := ⟨fu - 1, by omega⟩
    obtain ⟨fu', rfl⟩ : ∃ x, fu' = x + 1 := ⟨fu' - 1, by omega⟩
    have e : i = 30 := by omega
    subst e
    rw [zl4_s, zl4_s, zf_X1_damp_b64, zf_X2_damp_b45, if_pos (by decide), if_pos (by decide)]
    exact ok ⟨rfl, hR⟩
  | succ d ih =>
    intro fu fu' i c4 c5 M q hi hf hf'
    obtain ⟨fu, rfl⟩ : ∃ x, fu = x + 1 := ⟨fu - 1, by omega⟩
    obtain ⟨fu', rfl⟩ : ∃ x, fu' = x + 1 := ⟨fu' - 1, by omega⟩
    have hi30 : i < 30 := by omega
    have hv : ¬ (30 : Int32) ≤ nI i := nI_ge (b := 30) (by omega) (by omega)
    have y63 : (105 ≤ 63 + i) = False := ge (by omega)
    obtain ⟨B1, q1, e1, e2, e3, e4⟩ := becomes_copies (B := M) (q := q) h0 hN
    have h3 := RBN_wet e3 hi30 (v := 9) (rg_nI (j := 9) (by omega))
    obtain ⟨⟨x, B2⟩, ⟨y, q2⟩, f1, f2, f3, -⟩ := vis_in hN hp hn h3 (u2 (e4.trans h2) (by omega))
    dsimp only at f3
    subst f3
    rw [zl4_s, zl4_s]
    simp only [zf_X1_damp_b64, zf_X2_damp_b45, if_neg hv, e1, e2, putWet_in hi30, bd1_some, g63 hi30, c63 hi30, y63, or_self, f1, f2, bd2_some, nI_1, ↓reduceIte]
    by_cases c : x ≤ c4
    · rw [if_pos c, if_neg (Int32.not_lt.mpr c)]
      exact ih fu fu' (i + 1) c4 c5 B2 q2 (by omega) (by omega) (by omega)
    · rw [if_neg c, if_pos (Int32.not_le.mp c)]
      exact ih fu fu' (i + 1) x (nI i) B2 q2 (by omega) (by omega) (by omega)
theorem sim_damp {B M : BT} {s q g m : Nat → Int32} (hN : RN B s) (hR : RR g m) (v1 v2 : Int32) : Ok (fun a b => a.1 = b.1 ∧ RR a.2.2 b.2.2) (zf_X1_damp B M g v1 v2) (zf_X2_damp s q m v1 v2) := by
  obtain ⟨⟨N, hN5, h⟩, h2⟩ := hN
  rcases person_cases h hN5 v1 with ⟨p, hp, rfl, n1, n2⟩ | ⟨n1, n2⟩
  · rcases out_cases v2 0 30 (by omega) (by omega) with ⟨n, -, hn, rfl, o⟩ | ⟨o, -⟩ | ⟨o, -⟩
    · have o' : zf_X2_wrongBy (nI n) 0 30 = some 0 := o
      have o : zf_X1_outside (nI n) 0 30 = some 0 := o
      obtain ⟨B', q', e1, e2, e3, e4⟩ := becomes_copies (B := M) (q := q) h hN5
      obtain ⟨⟨x, B1⟩, ⟨y, r1⟩, f1, f2, f3, -⟩ := vis_in hN5 hp (n := n) (by omega) e3 (e4.trans h2)
      dsimp only at f3
      subst f3
      have E1 : zf_X1_damp B M g (nI p) (nI n) = zl4 (zf_X1_damp_b64 (nI p) (nI n) B g) zb_FU x (-9) 0 B1 := by
        rw [zf_X1_damp, n1, bd1_some, if_neg (by decide), o, bd1_some, if_pos rfl, e1, bd1_some, f1, bd2_some]
      have E2 : zf_X2_damp s q m (nI p) (nI n) = zl4 (zf_X2_damp_b45 (nI p) (nI n) s m) zb_FU x (-9) 0 r1 := by
        rw [zf_X2_damp, n2, bd1_some, if_neg (by decide), o', bd1_some, if_pos rfl, zf_X2_visitsNow, e2, bd1_some, f2, bd2_some, bd2_some]
      rw [E1, E2]
      exact damp_loop h h2 hN5 hp (by omega) hR 30 zb_FU zb_FU 0 x (-9) B1 r1 (by omega) (fu_lt (by omega)) (fu_lt (by omega))
    · have o' : zf_X2_wrongBy v2 0 30 = some (-6) := o
      have o : zf_X1_outside v2 0 30 = some (-6) := o
      obtain ⟨g', m', q1, q2, q3⟩ := rf6 hR
      simp only [zf_X1_damp, zf_X2_damp, n1, n2, o, o', bd1_some, bd2_some, one_0, m6_0, q1, q2, ↓reduceIte]
      exact ok ⟨rfl, q3⟩
    · have o' : zf_X2_wrongBy v2 0 30 = some (-4) := o
      have o : zf_X1_outside v2 0 30 = some (-4) := o
      obtain ⟨g', m', q1, q2, q3⟩ := rf4 hR
      simp only [zf_X1_damp, zf_X2_damp, n1, n2, o, o', bd1_some, bd2_some, one_0, m4_0, q1, q2, ↓reduceIte]
      exact ok ⟨rfl, q3⟩
  · obtain ⟨g', m', q1, q2, q3⟩ := rf1 hR
    simp only [zf_X1_damp, zf_X2_damp, n1, n2, bd1_some, bd2_some, q1, q2, ↓reduceIte]
    exact ok ⟨rfl, q3⟩
theorem kind_loop {N p n k : Nat} {B0 : BT} {s g m : Nat → Int32} (h0 : RBN N B0 s) (h2 : s 2 = 0) (hN : N < 5) (hp : p < N) (hk : k < 30) (hn : n ≤ 60) (hR : RR g m) : ∀ (d fu fu' i : Nat) (c5 c6 m5 m6 : Int32) (M : BT) (q : Nat → Int32), i + d = 6 → d < fu → d < fu' → PK i c5 c6 m5 m6 →
    Ok (fun a b => a.1 = b.1 ∧ RR a.2.2 b.2.2) (zl4 (zf_X1_bestKind_b54 (nI k) (nI p) (nI n) B0 g) fu c5 c6 (nI i) M) (zl4 (zf_X2_bestKind_b43 (nI k) (nI p) (nI n) s m) fu' m5 m6 (nI i) q) := by
  intro d
  induction d with
  | zero =>
    intro fu fu' i c5 c6 m5 m6 M q hi hf hf' hp'
    obtain ⟨fu, rfl⟩ : ∃ x, fu = x + 1 := ⟨fu - 1, by omega⟩
    obtain ⟨fu', rfl⟩ : ∃ x, fu' = x + 1 := ⟨fu' - 1, by omega⟩
    obtain ⟨rfl, rfl⟩ := PK_eq hp' (by omega)
    have e : i = 6 := by omega
    subst e
    rw [zl4_s, zl4_s, zf_X1_bestKind_b54, zf_X2_bestKind_b43, if_pos (by decide), if_pos (by decide)]
    exact ok ⟨rfl, hR⟩
  | succ d ih =>
    intro fu fu' i c5 c6 m5 m6 M q hi hf hf' hp'
    obtain ⟨fu, rfl⟩ : ∃ x, fu = x + 1 := ⟨fu - 1, by omega⟩
    obtain ⟨fu', rfl⟩ : ∃ x, fu' = x + 1 := ⟨fu' - 1, by omega⟩
    have hv : ¬ (6 : Int32) ≤ nI i := nI_ge (b := 6) (by omega) (by omega)
    have y3 : (105 ≤ 3 + k) = False := ge (by omega)
    obtain ⟨B1, q1, e1, e2, e3, e4⟩ := becomes_copies (B := M) (q := q) h0 hN
    have h3 := RBN_kind e3 hk (v := nI i)
    obtain ⟨⟨x, B2⟩, ⟨y, q2⟩, f1, f2, f3, j, hj, f4⟩ := vis_in hN hp hn h3 (u2 (e4.trans h2) (by omega))
    dsimp only at f3 f4
    subst f3
    subst f4
    rw [zl4_s, zl4_s]
    simp only [zf_X1_bestKind_b54, zf_X2_bestKind_b43, if_neg hv, e1, e2, putKind_in hk, bd1_some, g3 hk, c3 hk, y3, or_self, f1, f2, bd2_some, nI_1, ↓reduceIte]
    exact PK_step (f := fun a b => zl4 (zf_X1_bestKind_b54 (nI k) (nI p) (nI n) B0 g) fu a b (nI (i + 1)) B2) (g := fun a b => zl4 (zf_X2_bestKind_b43 (nI k) (nI p) (nI n) s m) fu' a b (nI (i + 1)) q2) hp' (by omega) (fun u5 u6 w5 w6 hh => ih fu fu' (i + 1) u5 u6 w5 w6 B2 q2 (by omega) (by omega) (by omega) hh)
theorem sim_bestKind {B M : BT} {s q g m : Nat → Int32} (hN : RN B s) (hR : RR g m) (v1 v2 v3 : Int32) : Ok (fun a b => a.1 = b.1 ∧ RR a.2.2 b.2.2) (zf_X1_bestKind B M g v1 v2 v3) (zf_X2_bestKind s q m v1 v2 v3) := by
  obtain ⟨⟨N, hN5, h⟩, h2⟩ := hN
  rcases node_cases v1 with ⟨k, hk, rfl, w1, w2⟩ | ⟨w1, w2⟩
  · rcases person_cases h hN5 v2 with ⟨p, hp, rfl, n1, n2⟩ | ⟨n1, n2⟩
    · have at_ : zf_X2_areThere s (nI p) (nI k) = some 1 := by rw [zf_X2_areThere, n2, bd1_some, if_neg (by decide), w2, bd1_some, if_neg (by decide)]
      rcases out_cases v3 0 30 (by omega) (by omega) with ⟨n, -, hn, rfl, o⟩ | ⟨o, -⟩ | ⟨o, -⟩
      · have o' : zf_X2_wrongBy (nI n) 0 30 = some 0 := o
        have o : zf_X1_outside (nI n) 0 30 = some 0 := o
        have E1 : zf_X1_bestKind B M g (nI k) (nI p) (nI n) = zl4 (zf_X1_bestKind_b54 (nI k) (nI p) (nI n) B g) zb_FU 0 0 0 M := by
          rw [zf_X1_bestKind, w1, bd1_some, if_neg (by decide), n1, bd1_some, if_neg (by decide), o, bd1_some, if_pos rfl]
        have E2 : zf_X2_bestKind s q m (nI k) (nI p) (nI n) = zl4 (zf_X2_bestKind_b43 (nI k) (nI p) (nI n) s m) zb_FU 0 (-1) 0 q := by
          rw [zf_X2_bestKind, at_, bd1_some, if_neg (by decide), o', bd1_some, if_pos rfl]
        rw [E1, E2]
        exact kind_loop h h2 hN5 hp hk (by omega) hR 6 zb_FU zb_FU 0 0 0 0 (-1) M q (by omega) (fu_lt (by omega)) (fu_lt (by omega)) PK_0
      · have o' : zf_X2_wrongBy v3 0 30 = some (-6) := o
        have o : zf_X1_outside v3 0 30 = some (-6) := o
        obtain ⟨g', m', q1, q2, q3⟩ := rf6 hR
        simp only [zf_X1_bestKind, zf_X2_bestKind, at_, n1, w1, o, o', bd1_some, bd2_some, one_0, m6_0, q1, q2, ↓reduceIte]
        exact ok ⟨rfl, q3⟩
      · have o' : zf_X2_wrongBy v3 0 30 = some (-4) := o
        have o : zf_X1_outside v3 0 30 = some (-4) := o
        obtain ⟨g', m', q1, q2, q3⟩ := rf4 hR
        simp only [zf_X1_bestKind, zf_X2_bestKind, at_, n1, w1, o, o', bd1_some, bd2_some, one_0, m4_0, q1, q2, ↓reduceIte]
        exact ok ⟨rfl, q3⟩
    · obtain ⟨g', m', q1, q2, q3⟩ := rf1 hR
      simp only [zf_X1_bestKind, zf_X2_bestKind, zf_X2_areThere, n1, n2, w1, bd1_some, bd2_some, one_0, q1, q2, ↓reduceIte]
      exact ok ⟨rfl, q3⟩
  · obtain ⟨g', m', q1, q2, q3⟩ := rf1 hR
    have at_ : zf_X2_areThere s v2 v1 = some 0 := by
      rcases person_cases h hN5 v2 with ⟨p, hp, rfl, n1, n2⟩ | ⟨n1, n2⟩
      · rw [zf_X2_areThere, n2, bd1_some, if_neg (by decide), w2, bd1_some, if_pos rfl]
      · rw [zf_X2_areThere, n2, bd1_some, if_pos rfl]
    simp only [zf_X1_bestKind, zf_X2_bestKind, at_, w1, bd1_some, bd2_some, q1, q2, ↓reduceIte]
    exact ok ⟨rfl, q3⟩
/-- heading: 61 here, 1000000000 there, before the first that comes -/
theorem head_loop {N p : Nat} {B0 : BT} {s g m : Nat → Int32} {v2 : Int32} (h0 : RBN N B0 s) (h2 : s 2 = 0) (hN : N < 5) (hp : p < N) (hR : RR g m) : ∀ (d fu fu' i : Nat) (c3 c4 m4 : Int32) (M : BT) (q : Nat → Int32), i + d = 4 → d < fu → d < fu' → ((c4 = m4 ∧ ∃ k, k ≤ 60 ∧ c4 = nI k) ∨ (c4 = 61 ∧ m4 = 1000000000)) →
    Ok (fun a b => a.1 = b.1 ∧ RR a.2.2 b.2.2) (zl4 (zf_X1_head_b34 (nI p) v2 B0 g) fu c3 c4 (nI i) M) (zl4 (zf_X2_head_b25 (nI p) v2 s m) fu' c3 m4 (nI i) q) := by
  intro d
  induction d with
  | zero =>
    intro fu fu' i c3 c4 m4 M q hi hf hf' hc
    obtain ⟨fu, rfl⟩ : ∃ x, fu = x + 1 := ⟨fu - 1, by omega⟩
    obtain ⟨fu', rfl⟩ : ∃ x, fu' = x + 1 := ⟨fu' - 1, by omega⟩
    have e : i = 4 := by omega
    subst e
    rw [zl4_s, zl4_s, zf_X1_head_b34, zf_X2_head_b25, if_pos (by decide), if_pos (by decide)]
    exact ok ⟨rfl, hR⟩
  | succ d ih =>
    intro fu fu' i c3 c4 m4 M q hi hf hf' hc
    obtain ⟨fu, rfl⟩ : ∃ x, fu = x + 1 := ⟨fu - 1, by omega⟩
    obtain ⟨fu', rfl⟩ : ∃ x, fu' = x + 1 := ⟨fu' - 1, by omega⟩
    obtain ⟨x0, y0, z0⟩ := px1 (p := p) (by omega)
    have hv : ¬ (4 : Int32) ≤ nI i := nI_ge (b := 4) (by omega) (by omega)
    obtain ⟨B1, q1, e1, e2, e3, e4⟩ := becomes_copies (B := M) (q := q) h0 hN
    have h3 := RBN_heading e3 hN hp (v := nI i) (rg_nI (by omega))
    obtain ⟨⟨x, B2⟩, ⟨y, q2⟩, f1, f2, f3, f4⟩ := soonest0 hN hp v2 h3 (u2 (e4.trans h2) (by omega))
    dsimp only at f3 f4
    subst f3
    rw [zl4_s, zl4_s]
    simp only [zf_X1_head_b34, zf_X2_head_b25, if_neg hv, e1, e2, putHeading_in e3.1 hN hp, of_1, bd1_some, x0, y0, z0, or_self, f1, f2, bd2_some, nI_1, ↓reduceIte]
    rcases f4 with rfl | ⟨k, hk, rfl⟩
    · rw [if_pos (by decide), if_pos (by decide)]
      exact ih fu fu' (i + 1) c3 c4 m4 B2 q2 (by omega) (by omega) (by omega) hc
    · rw [if_neg (nI_pos (by omega)), if_neg (nI_pos (by omega))]
      rcases hc with ⟨rfl, j, hj, rfl⟩ | ⟨rfl, rfl⟩
      · by_cases c : nI j ≤ nI k
        · rw [if_pos c, if_neg (Int32.not_lt.mpr c)]
          exact ih fu fu' (i + 1) c3 _ _ B2 q2 (by omega) (by omega) (by omega) (Or.inl ⟨rfl, j, hj, rfl⟩)
        · rw [if_neg c, if_pos (Int32.not_le.mp c)]
          exact ih fu fu' (i + 1) _ _ _ B2 q2 (by omega) (by omega) (by omega) (Or.inl ⟨rfl, k, hk, rfl⟩)
      · have c1 : ¬ (61 : Int32) ≤ nI k := nI_ge (b := 61) (by omega) (by omega)
        have c2 : nI k < (1000000000 : Int32) := nI_lt (b := 1000000000) (by omega) (by omega)
        rw [if_neg c1, if_pos c2]
        exact ih fu fu' (i + 1) _ _ _ B2 q2 (by omega) (by omega) (by omega) (Or.inl ⟨rfl, k, hk, rfl⟩)
theorem sim_head {B M : BT} {s q g m : Nat → Int32} (hN : RN B s) (hR : RR g m) (v1 v2 : Int32) : Ok (fun a b => a.1 = b.1 ∧ RR a.2.2 b.2.2) (zf_X1_head B M g v1 v2) (zf_X2_head s q m v1 v2) := by
  obtain ⟨⟨N, hN5, h⟩, h2⟩ := hN
  rcases person_cases h hN5 v1 with ⟨p, hp, rfl, n1, n2⟩ | ⟨n1, n2⟩
  · rcases node_cases v2 with ⟨k, hk, rfl, w1, w2⟩ | ⟨w1, w2⟩
    · have E1 : zf_X1_head B M g (nI p) (nI k) = zl4 (zf_X1_head_b34 (nI p) (nI k) B g) zb_FU (-9) 61 0 M := by
        rw [zf_X1_head, n1, bd1_some, if_neg (by decide), w1, bd1_some, if_neg (by decide)]
      have E2 : zf_X2_head s q m (nI p) (nI k) = zl4 (zf_X2_head_b25 (nI p) (nI k) s m) zb_FU (-9) 1000000000 0 q := by
        rw [zf_X2_head, zf_X2_areThere, n2, bd1_some, if_neg (by decide), w2, bd1_some, if_neg (by decide), bd1_some, if_neg (by decide)]
      rw [E1, E2]
      exact head_loop h h2 hN5 hp hR 4 zb_FU zb_FU 0 _ _ _ M q (by omega) (fu_lt (by omega)) (fu_lt (by omega)) (Or.inr ⟨rfl, rfl⟩)
    · obtain ⟨g', m', q1, q2, q3⟩ := rf1 hR
      simp only [zf_X1_head, zf_X2_head, zf_X2_areThere, n1, n2, w1, w2, bd1_some, bd2_some, one_0, q1, q2, ↓reduceIte]
      exact ok ⟨rfl, q3⟩
  · obtain ⟨g', m', q1, q2, q3⟩ := rf1 hR
    simp only [zf_X1_head, zf_X2_head, zf_X2_areThere, n1, n2, bd1_some, bd2_some, q1, q2, ↓reduceIte]
    exact ok ⟨rfl, q3⟩
