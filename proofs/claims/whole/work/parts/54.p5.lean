/-! the pure side, 5: people, laying, the row, letters, the image -/
theorem ofPerson_in {B : BT} {N p : Nat} (hB : bt_people B = nI N) (hN : N < 5) (hp : p < N) (v : Int32) : zf_X0_ofPerson B (nI p) v = some (if v = 0 then bt_place B p else if v = 1 then bt_heading B p else bt_helped B p) := by
  unfold zf_X0_ofPerson
  rw [placeOf_in hB hN hp, headingOf_in hB hN hp, helpedOf_in hB hN hp]
  by_cases a : v = 0
  · rw [if_pos a, if_pos a]; rfl
  by_cases b : v = 1
  · rw [if_neg a, if_pos b, if_neg a, if_pos b]; rfl
  · rw [if_neg a, if_neg b, if_neg a, if_neg b]; rfl
theorem of_k (p : Nat) {k : Nat} : zf_X2_of (nI p) (nI k) = some (nI (93 + 3 * p + k)) := by
  unfold zf_X2_of; rw [l93, l3, pk_mul, nI_add, nI_add]
theorem what3 (v : Int32) : (v < 0) ∨ (0 ≤ v ∧ 3 < v) ∨ v = nI 0 ∨ v = nI 1 ∨ v = nI 2 ∨ v = nI 3 := by
  rcases pk_ix v (n := 4) (by omega) with h | h | ⟨j, hj, rfl⟩
  · exact Or.inl h
  · exact Or.inr (Or.inl ⟨Int32.le_trans (by decide) h, Int32.lt_of_lt_of_le (by decide) h⟩)
  · rcases (show j = 0 ∨ j = 1 ∨ j = 2 ∨ j = 3 by omega) with rfl | rfl | rfl | rfl <;> simp
theorem not_lt0 {v : Int32} (h : 0 ≤ v) : ¬ v < 0 := fun z => absurd (Int32.lt_of_lt_of_le z h) Int32.lt_irrefl
theorem gt_le {a b : Int32} (h : a < b) : ¬ b ≤ a := fun z => absurd (Int32.lt_of_lt_of_le h z) Int32.lt_irrefl
theorem wayNext_in {N : Nat} {B : BT} {r : Nat → Int32} (h : RBN N B r) (hN : N < 5) {p : Nat} (hp : p < N) : ∃ a, a < 30 ∧ r (93 + 3 * p) = nI a ∧ ((r (63 + a) = 0 ∧ zf_X0_wayNext B (nI p) = some (-9)) ∨ (¬ r (63 + a) = 0 ∧ ∃ x, zf_X0_wayNext B (nI p) = some x ∧ zf_X2_wayOf r (nI p) (r 1 + 1) = some x)) := by
  obtain ⟨h1, h2, h3, h4, h5⟩ := id h
  obtain ⟨a1, a2, a3, ⟨a, ha, ea⟩, ⟨w, hw, ew⟩⟩ := h3 p hp
  obtain ⟨k1, k2, k3, ⟨f, hf, ef⟩, ⟨q, hq, eq⟩⟩ := h5 a ha
  obtain ⟨w', hw', e1, e2⟩ := wayBy_eq (bt_kind B a) (bt_step B + 1) hf hw
  refine ⟨a, ha, a1.symm.trans ea, ?_⟩
  by_cases dry : bt_wet B a = 0
  · refine Or.inl ⟨k3.symm.trans dry, ?_⟩
    simp only [zf_X0_wayNext, placeOf_in h1 hN hp, bd1_some, ea, wetOf_in ha, if_pos dry]
  · refine Or.inr ⟨fun z => dry (k3.trans z), nI w', ?_, ?_⟩
    · simp only [zf_X0_wayNext, placeOf_in h1 hN hp, headingOf_in h1 hN hp, bd1_some, ea, wetOf_in ha, if_neg dry, kindOf_in ha, figureOf_in ha, ef, ew, e1]
    · rw [wayOf_in r _ (by omega) ha (a1.symm.trans ea), ← k1, ← k2, ← a2, ef, ew, ← h4]; exact e2
theorem sim_person {B : BT} {s g m : Nat → Int32} (hN : RN B s) (hR : RR g m) (v1 v2 : Int32) : Ok (fun a b => a.1 = b.1 ∧ RR a.2 b.2) (zf_X1_person B g v1 v2) (zf_X2_person s m v1 v2) := by
  obtain ⟨⟨N, hN5, h⟩, h2⟩ := hN
  rcases person_cases h hN5 v1 with ⟨p, hp, rfl, n1, n2⟩ | ⟨n1, n2⟩
  · obtain ⟨a1, a2, a3, -, -⟩ := h.2.2.1 p hp
    rcases what3 v2 with c | ⟨c0, c⟩ | rfl | rfl | rfl | rfl
    · obtain ⟨g', m', q1, q2, q3⟩ := rf2 hR
      have i0 : zf_X2_isIn v2 0 2 = some 0 := isIn_lo c
      have n3 : ¬ v2 = 3 := fun z => absurd c (by rw [z]; decide)
      simp only [zf_X1_person, zf_X2_person, n1, n2, bd1_some, one_0, if_pos c, i0, if_neg n3, q1, q2, bd2_some, ↓reduceIte]
      exact ok ⟨rfl, q3⟩
    · obtain ⟨g', m', q1, q2, q3⟩ := rf2 hR
      have i0 : zf_X2_isIn v2 0 2 = some 0 := isIn_hi (Int32.lt_of_le_of_lt (by decide) c)
      have n3 : ¬ v2 = 3 := fun z => absurd c (by rw [z]; decide)
      simp only [zf_X1_person, zf_X2_person, n1, n2, bd1_some, one_0, if_neg (not_lt0 c0), if_neg (gt_le c), i0, if_neg n3, q1, q2, bd2_some, ↓reduceIte]
      exact ok ⟨rfl, q3⟩
    · have i0 : zf_X2_isIn (nI 0) 0 2 = some 1 := by decide
      have y : (105 ≤ 93 + 3 * p + 0) = False := ge (by omega)
      have x : (nI (93 + 3 * p + 0) < 0) = False := ng (by omega)
      have z : (nI (93 + 3 * p + 0)).toNatClampNeg = 93 + 3 * p + 0 := nI_clamp (by omega)
      simp only [zf_X1_person, zf_X2_person, n1, n2, bd1_some, one_0, show (nI 0 < 0) = False by decide, show (nI 0 ≤ 3) = True by decide, show (nI 0 = 3) = False by decide, show (nI 0 = 0) = True by decide, ofPerson_in h.1 hN5 hp, i0, of_k, y, x, z, or_self, ↓reduceIte]
      exact ok ⟨a1, hR⟩
    · have i0 : zf_X2_isIn (nI 1) 0 2 = some 1 := by decide
      have y : (105 ≤ 93 + 3 * p + 1) = False := ge (by omega)
      have x : (nI (93 + 3 * p + 1) < 0) = False := ng (by omega)
      have z : (nI (93 + 3 * p + 1)).toNatClampNeg = 93 + 3 * p + 1 := nI_clamp (by omega)
      simp only [zf_X1_person, zf_X2_person, n1, n2, bd1_some, one_0, show (nI 1 < 0) = False by decide, show (nI 1 ≤ 3) = True by decide, show (nI 1 = 3) = False by decide, show (nI 1 = 0) = False by decide, show (nI 1 = 1) = True by decide, ofPerson_in h.1 hN5 hp, i0, of_k, y, x, z, or_self, ↓reduceIte]
      refine ok ⟨?_, hR⟩
      rw [show 93 + 3 * p + 1 = 94 + 3 * p by omega]; exact a2
    · have i0 : zf_X2_isIn (nI 2) 0 2 = some 1 := by decide
      have y : (105 ≤ 93 + 3 * p + 2) = False := ge (by omega)
      have x : (nI (93 + 3 * p + 2) < 0) = False := ng (by omega)
      have z : (nI (93 + 3 * p + 2)).toNatClampNeg = 93 + 3 * p + 2 := nI_clamp (by omega)
      simp only [zf_X1_person, zf_X2_person, n1, n2, bd1_some, one_0, show (nI 2 < 0) = False by decide, show (nI 2 ≤ 3) = True by decide, show (nI 2 = 3) = False by decide, show (nI 2 = 0) = False by decide, show (nI 2 = 1) = False by decide, ofPerson_in h.1 hN5 hp, i0, of_k, y, x, z, or_self, ↓reduceIte]
      refine ok ⟨?_, hR⟩
      rw [show 93 + 3 * p + 2 = 95 + 3 * p by omega]; exact a3
    · have i0 : zf_X2_isIn (nI 3) 0 2 = some 0 := by decide
      obtain ⟨a, ha, ra, hh⟩ := wayNext_in h hN5 hp
      have y : (105 ≤ 93 + 3 * p) = False := ge (by omega)
      have x : (nI (93 + 3 * p) < 0) = False := ng (by omega)
      have z : (nI (93 + 3 * p)).toNatClampNeg = 93 + 3 * p := nI_clamp (by omega)
      rcases hh with ⟨d, e1⟩ | ⟨d, w, e1, e2⟩
      · simp only [zf_X1_person, zf_X2_person, n1, n2, bd1_some, one_0, show (nI 3 < 0) = False by decide, show (nI 3 ≤ 3) = True by decide, show (nI 3 = 3) = True by decide, e1, i0, of_0, y, x, z, ra, isDry_in s ha, if_pos d, or_self, ↓reduceIte]
        exact ok ⟨rfl, hR⟩
      · simp only [zf_X1_person, zf_X2_person, n1, n2, bd1_some, one_0, show (nI 3 < 0) = False by decide, show (nI 3 ≤ 3) = True by decide, show (nI 3 = 3) = True by decide, e1, e2, i0, of_0, y, x, z, ra, isDry_in s ha, if_neg d, cl1, or_self, ↓reduceIte]
        exact ok ⟨rfl, hR⟩
  · obtain ⟨g', m', q1, q2, q3⟩ := rf1 hR
    simp only [zf_X1_person, zf_X2_person, n1, n2, bd1_some, q1, q2, bd2_some, ↓reduceIte]
    exact ok ⟨rfl, q3⟩
theorem sim_lays {B : BT} {s g m : Nat → Int32} (hN : RN B s) (hR : RR g m) (v1 v2 v3 : Int32) : Ok (fun a b => a.1 = b.1 ∧ RN a.2.1 b.2.1 ∧ RR a.2.2 b.2.2) (zf_X1_lays B g v1 v2 v3) (zf_X2_lays s m v1 v2 v3) := by
  obtain ⟨⟨N, hN5, h⟩, h2⟩ := id hN
  rcases node_cases v1 with ⟨k, hk, rfl, n1, n2⟩ | ⟨n1, n2⟩
  · obtain ⟨k1, k2, k3, -, -⟩ := h.2.2.2.2 k hk
    have y3 : (105 ≤ 3 + k) = False := ge (by omega)
    have y33 : (105 ≤ 33 + k) = False := ge (by omega)
    rcases kind_cases v2 with ⟨d, hd, rfl, d1, d2⟩ | ⟨d1, d2⟩
    · rcases out_cases v3 0 9 (by omega) (by omega) with ⟨j, -, hj, rfl, o⟩ | ⟨o, -⟩ | ⟨o, -⟩
      · have o' : zf_X2_wrongBy (nI j) 0 9 = some 0 := o
        have o : zf_X1_outside (nI j) 0 9 = some 0 := o
        simp only [zf_X1_lays, zf_X2_lays, zf_X2_lays_j32, n1, n2, d1, d2, o, o', bd1_some, bd2_some, one_0, kindOf_in hk, figureOf_in hk, putKind_in hk, putFigure_in hk, g3 hk, g33 hk, c3 hk, c33 hk, y3, y33, or_self, ↓reduceIte]
        exact ok ⟨by rw [k1, k2], ⟨⟨N, hN5, RBN_figure (RBN_kind h hk) hk (rg_nI (by omega))⟩, u2 (u2 h2 (by omega)) (by omega)⟩, hR⟩
      · have o' : zf_X2_wrongBy v3 0 9 = some (-6) := o
        have o : zf_X1_outside v3 0 9 = some (-6) := o
        obtain ⟨g', m', q1, q2, q3⟩ := rf6 hR
        simp only [zf_X1_lays, zf_X2_lays, zf_X2_lays_j32, n1, n2, d1, d2, o, o', bd1_some, bd2_some, one_0, m6_0, q1, q2, ↓reduceIte]
        exact ok ⟨rfl, hN, q3⟩
      · have o' : zf_X2_wrongBy v3 0 9 = some (-4) := o
        have o : zf_X1_outside v3 0 9 = some (-4) := o
        obtain ⟨g', m', q1, q2, q3⟩ := rf4 hR
        simp only [zf_X1_lays, zf_X2_lays, zf_X2_lays_j32, n1, n2, d1, d2, o, o', bd1_some, bd2_some, one_0, m4_0, q1, q2, ↓reduceIte]
        exact ok ⟨rfl, hN, q3⟩
    · obtain ⟨g', m', q1, q2, q3⟩ := rf2 hR
      simp only [zf_X1_lays, zf_X2_lays, zf_X2_lays_j32, n1, n2, d1, d2, bd1_some, bd2_some, one_0, m2_0, q1, q2, ↓reduceIte]
      exact ok ⟨rfl, hN, q3⟩
  · obtain ⟨g', m', q1, q2, q3⟩ := rf1 hR
    simp only [zf_X1_lays, zf_X2_lays, zf_X2_lays_j32, n1, n2, bd1_some, q1, q2, bd2_some, m1_0, ↓reduceIte]
    exact ok ⟨rfl, hN, q3⟩
theorem sim_heads {B : BT} {s g m : Nat → Int32} (hN : RN B s) (hR : RR g m) (v1 v2 : Int32) : Ok (fun a b => a.1 = b.1 ∧ RN a.2.1 b.2.1 ∧ RR a.2.2 b.2.2) (zf_X1_heads B g v1 v2) (zf_X2_heads s m v1 v2) := by
  obtain ⟨⟨N, hN5, h⟩, h2⟩ := id hN
  rcases person_cases h hN5 v1 with ⟨p, hp, rfl, n1, n2⟩ | ⟨n1, n2⟩
  · obtain ⟨a1, a2, a3, -, -⟩ := h.2.2.1 p hp
    have y : (105 ≤ 94 + 3 * p) = False := ge (by omega)
    have x : (nI (94 + 3 * p) < 0) = False := ng (by omega)
    have z : (nI (94 + 3 * p)).toNatClampNeg = 94 + 3 * p := nI_clamp (by omega)
    rcases way_cases v2 with ⟨w, hw, rfl, w1, w2⟩ | ⟨w1, w2⟩
    · simp only [zf_X1_heads, zf_X2_heads, zf_X2_sets, n1, n2, w1, w2, bd1_some, bd2_some, one_0, headingOf_in h.1 hN5 hp, putHeading_in h.1 hN5 hp, of_1, x, y, z, or_self, ↓reduceIte]
      exact ok ⟨a2, ⟨⟨N, hN5, RBN_heading h hN5 hp (rg_nI hw)⟩, u2 h2 (by omega)⟩, hR⟩
    · obtain ⟨g', m', q1, q2, q3⟩ := rf1 hR
      simp only [zf_X1_heads, zf_X2_heads, n1, n2, w1, w2, bd1_some, q1, q2, bd2_some, one_0, ↓reduceIte]
      exact ok ⟨rfl, hN, q3⟩
  · obtain ⟨g', m', q1, q2, q3⟩ := rf1 hR
    simp only [zf_X1_heads, zf_X2_heads, n1, n2, bd1_some, q1, q2, bd2_some, ↓reduceIte]
    exact ok ⟨rfl, hN, q3⟩
theorem sim_stands {B : BT} {s g m : Nat → Int32} (hN : RN B s) (hR : RR g m) (v1 v2 : Int32) : Ok (fun a b => a.1 = b.1 ∧ RN a.2.1 b.2.1 ∧ RR a.2.2 b.2.2) (zf_X1_stands B g v1 v2) (zf_X2_stands s m v1 v2) := by
  obtain ⟨⟨N, hN5, h⟩, h2⟩ := id hN
  rcases person_cases h hN5 v1 with ⟨p, hp, rfl, n1, n2⟩ | ⟨n1, n2⟩
  · obtain ⟨a1, a2, a3, -, -⟩ := h.2.2.1 p hp
    have y : (105 ≤ 93 + 3 * p) = False := ge (by omega)
    have x : (nI (93 + 3 * p) < 0) = False := ng (by omega)
    have z : (nI (93 + 3 * p)).toNatClampNeg = 93 + 3 * p := nI_clamp (by omega)
    rcases node_cases v2 with ⟨w, hw, rfl, w1, w2⟩ | ⟨w1, w2⟩
    · simp only [zf_X1_stands, zf_X2_stands, zf_X2_areThere, zf_X2_sets, n1, n2, w1, w2, bd1_some, bd2_some, one_0, placeOf_in h.1 hN5 hp, putPlace_in h.1 hN5 hp, of_0, x, y, z, or_self, ↓reduceIte]
      exact ok ⟨a1, ⟨⟨N, hN5, RBN_place h hN5 hp (rg_nI hw)⟩, u2 h2 (by omega)⟩, hR⟩
    · obtain ⟨g', m', q1, q2, q3⟩ := rf1 hR
      simp only [zf_X1_stands, zf_X2_stands, zf_X2_areThere, n1, n2, w1, w2, bd1_some, q1, q2, bd2_some, one_0, ↓reduceIte]
      exact ok ⟨rfl, hN, q3⟩
  · obtain ⟨g', m', q1, q2, q3⟩ := rf1 hR
    simp only [zf_X1_stands, zf_X2_stands, zf_X2_areThere, n1, n2, bd1_some, q1, q2, bd2_some, ↓reduceIte]
    exact ok ⟨rfl, hN, q3⟩
/-- one of people more -/
theorem RBN_add {N : Nat} {B : BT} {r : Nat → Int32} (h : RBN N B r) (hN : N < 4) {v w : Int32} (hv : rg v 30) (hw : rg w 4) : RBN (N + 1) (bs_helped (bs_heading (bs_place (bs_people B (nI (N + 1))) (upd (bt_place B) N v)) (upd (bt_heading B) N w)) (upd (bt_helped B) N 0)) (upd (upd (upd (upd r (93 + 3 * N) v) (94 + 3 * N) w) (95 + 3 * N) 0) 0 (nI (N + 1))) := by
  obtain ⟨h1, h2, h3, h4, h5⟩ := h
  refine ⟨rfl, by rw [up_s], fun q hq => ?_, ?_, fun k hk => ?_⟩
  · show upd (bt_place B) N v q = _ ∧ upd (bt_heading B) N w q = _ ∧ upd (bt_helped B) N 0 q = _ ∧ rg (upd (bt_place B) N v q) 30 ∧ rg (upd (bt_heading B) N w q) 4
    rw [up_n (j := 93 + 3 * q) (by omega), up_n (j := 94 + 3 * q) (by omega), up_n (j := 95 + 3 * q) (by omega)]
    by_cases e : q = N
    · subst e
      rw [up_s, up_s, up_s, up_n (j := 93 + 3 * q) (by omega), up_n (j := 93 + 3 * q) (by omega), up_s, up_n (j := 94 + 3 * q) (by omega), up_s, up_s]
      exact ⟨rfl, rfl, rfl, hv, hw⟩
    · rw [up_n e, up_n e, up_n e]
      rw [up_n (j := 93 + 3 * q) (by omega), up_n (j := 93 + 3 * q) (by omega), up_n (j := 93 + 3 * q) (by omega), up_n (j := 94 + 3 * q) (by omega), up_n (j := 94 + 3 * q) (by omega), up_n (j := 94 + 3 * q) (by omega), up_n (j := 95 + 3 * q) (by omega), up_n (j := 95 + 3 * q) (by omega), up_n (j := 95 + 3 * q) (by omega)]
      exact h3 q (by omega)
  · rw [up_n (by omega), up_n (by omega), up_n (by omega), up_n (by omega)]; exact h4
  · have e : ∀ j, 3 ≤ j → j < 93 → (upd (upd (upd (upd r (93 + 3 * N) v) (94 + 3 * N) w) (95 + 3 * N) 0) 0 (nI (N + 1))) j = r j := fun j h1 h2 => by
      rw [up_n (by omega), up_n (by omega), up_n (by omega), up_n (by omega)]
    rw [e _ (by omega) (by omega), e _ (by omega) (by omega), e _ (by omega) (by omega)]; exact h5 k hk
theorem add_adds {N : Nat} {B : BT} {r : Nat → Int32} (h : RBN N B r) (hN : N < 4) {v w : Int32} (hv : rg v 30) (hw : rg w 4) (h2 : r 2 = 0) : ∃ B' r', zf_X0_add B v w = some (nI N, B') ∧ zf_X2_adds r v w = some r' ∧ RBN (N + 1) B' r' ∧ r' 0 = nI (N + 1) ∧ r' 2 = 0 := by
  have a := RBN_add h hN hv hw
  refine ⟨_, _, ?_, ?_, a, by rw [up_s], u2 (u2 (u2 (u2 h2 (by omega)) (by omega)) (by omega)) (by omega)⟩
  · unfold zf_X0_add
    rw [h.1, if_neg (nI_pos (by omega)), if_pos (by rw [l4]; exact nI_lt (by omega) (by omega)), if_neg (by rw [ix hN (by omega)]; exact id), if_neg (by rw [ix hN (by omega)]; exact id), if_neg (by rw [ix hN (by omega)]; exact id), nI_clamp (by omega), nI_1]
  · have y0 : (105 ≤ 93 + 3 * N) = False := ge (by omega)
    have x0 : (nI (93 + 3 * N) < 0) = False := ng (by omega)
    have z0 : (nI (93 + 3 * N)).toNatClampNeg = 93 + 3 * N := nI_clamp (by omega)
    have y1 : (105 ≤ 94 + 3 * N) = False := ge (by omega)
    have x1 : (nI (94 + 3 * N) < 0) = False := ng (by omega)
    have z1 : (nI (94 + 3 * N)).toNatClampNeg = 94 + 3 * N := nI_clamp (by omega)
    have y2 : (105 ≤ 95 + 3 * N) = False := ge (by omega)
    have x2 : (nI (95 + 3 * N) < 0) = False := ng (by omega)
    have z2 : (nI (95 + 3 * N)).toNatClampNeg = 95 + 3 * N := nI_clamp (by omega)
    simp only [zf_X2_adds, cl0, h.2.1, of_0, of_1, of_2, bd1_some, x0, x1, x2, y0, y1, y2, z0, z1, z2, or_self, up_n (show 0 ≠ 93 + 3 * N by omega), up_n (show 0 ≠ 94 + 3 * N by omega), up_n (show 0 ≠ 95 + 3 * N by omega), nI_1, ↓reduceIte]
theorem full_eq {N : Nat} (hN : N < 5) : ((nI N < 4) = (N < 4)) ∧ ((nI N = 4) = (N = 4)) := by
  rw [l4]; exact ⟨nI_lt' (by omega) (by omega), nI_eq' (by omega) (by omega)⟩
theorem sim_comesIn {B : BT} {s g m : Nat → Int32} (hN : RN B s) (hR : RR g m) (v1 v2 : Int32) : Ok (fun a b => a.1 = b.1 ∧ RN a.2.1 b.2.1 ∧ RR a.2.2 b.2.2) (zf_X1_comesIn B g v1 v2) (zf_X2_comesIn s m v1 v2) := by
  obtain ⟨⟨N, hN5, h⟩, h2⟩ := id hN
  rcases node_cases v1 with ⟨k, hk, rfl, n1, n2⟩ | ⟨n1, n2⟩
  · rcases way_cases v2 with ⟨w, hw, rfl, w1, w2⟩ | ⟨w1, w2⟩
    · obtain ⟨f1, f2⟩ := full_eq hN5
      by_cases c : N < 4
      · obtain ⟨B', r', e1, e2, e3, e4, e5⟩ := add_adds h c (rg_nI hk) (rg_nI hw) h2
        have c' : (N = 4) = False := eq_false (by omega)
        have c : (N < 4) = True := eq_true c
        simp only [zf_X1_comesIn, zf_X2_comesIn, zf_X0_isFull, n1, n2, w1, w2, h.1, cl0, h.2.1, f1, f2, c, c', bd1_some, bd2_some, one_0, e1, e2, e4, nI_pred, ↓reduceIte]
        exact ok ⟨rfl, ⟨⟨N + 1, by simp at c; omega, e3⟩, e5⟩, hR⟩
      · have c' : (N = 4) = True := eq_true (by omega)
        have c : (N < 4) = False := eq_false c
        obtain ⟨g', m', q1, q2, q3⟩ := rf6 hR
        simp only [zf_X1_comesIn, zf_X2_comesIn, zf_X0_isFull, n1, n2, w1, w2, h.1, cl0, h.2.1, f1, f2, c, c', bd1_some, bd2_some, one_0, q1, q2, ↓reduceIte]
        exact ok ⟨rfl, hN, q3⟩
    · obtain ⟨g', m', q1, q2, q3⟩ := rf1 hR
      simp only [zf_X1_comesIn, zf_X2_comesIn, n1, n2, w1, w2, bd1_some, q1, q2, bd2_some, one_0, ↓reduceIte]
      exact ok ⟨rfl, hN, q3⟩
  · obtain ⟨g', m', q1, q2, q3⟩ := rf1 hR
    simp only [zf_X1_comesIn, zf_X2_comesIn, n1, n2, bd1_some, q1, q2, bd2_some, ↓reduceIte]
    exact ok ⟨rfl, hN, q3⟩
