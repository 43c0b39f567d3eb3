/-! the pure side, 2: one follows, a step, steps -/
theorem of_0 (p : Nat) : zf_X2_of (nI p) 0 = some (nI (93 + 3 * p)) := by
  unfold zf_X2_of; rw [l93, l3, l0, pk_mul, nI_add, nI_add, Nat.add_zero]
theorem of_1 (p : Nat) : zf_X2_of (nI p) 1 = some (nI (94 + 3 * p)) := by
  unfold zf_X2_of; rw [l93, l3, l1, pk_mul, nI_add, nI_add, show 93 + 3 * p + 1 = 94 + 3 * p by omega]
theorem of_2 (p : Nat) : zf_X2_of (nI p) 2 = some (nI (95 + 3 * p)) := by
  unfold zf_X2_of; rw [l93, l3, l2, pk_mul, nI_add, nI_add, show 93 + 3 * p + 2 = 95 + 3 * p by omega]
theorem ng {n : Nat} (h : n < 2 ^ 31) : (nI n < 0) = False := eq_false (nI_pos h)
theorem ge {n N : Nat} (h : n < N) : (N ≤ n) = False := eq_false (by omega)
theorem one_0 : ((1 : Int32) = 0) = False := by decide
theorem zero_0 : ((0 : Int32) = 0) = True := by decide
theorem zero_1 : ((0 : Int32) = 1) = False := by decide
theorem one_1 : ((1 : Int32) = 1) = True := by decide
theorem ixo (k : Nat) {a N : Nat} (h : k + a < N) (hN : N < 2 ^ 31) : (nI k + nI a < 0 ∨ N ≤ (nI k + nI a).toNatClampNeg) = False := by
  rw [nI_add]; exact ix h hN
theorem clo (k : Nat) {a : Nat} (h : k + a < 2 ^ 31) : (nI k + nI a).toNatClampNeg = k + a := by
  rw [nI_add]; exact nI_clamp h
theorem cl0 : (0 : Int32).toNatClampNeg = 0 := rfl
theorem cl1 : (1 : Int32).toNatClampNeg = 1 := rfl
theorem cl2 : (2 : Int32).toNatClampNeg = 2 := rfl
theorem isDry_in (r : Nat → Int32) {a : Nat} (h : a < 30) : zf_X2_isDry r (nI a) = some (if r (63 + a) = 0 then 1 else 0) := by
  unfold zf_X2_isDry
  rw [l63, if_neg (by rw [ixo 63 (by omega) (by omega)]; exact id), clo 63 (by omega)]
  by_cases c : r (63 + a) = 0
  · rw [if_pos c, if_pos c]
  · rw [if_neg c, if_neg c]
theorem wayOf_in (r : Nat → Int32) (st : Int32) {p a : Nat} (hp : p < 4) (ha : a < 30) (e : r (93 + 3 * p) = nI a) : zf_X2_wayOf r (nI p) st = zf_X2_wayBy (r (3 + a)) (r (33 + a)) (r (94 + 3 * p)) st := by
  unfold zf_X2_wayOf
  rw [of_0, bd1_some, if_neg (by rw [ix (by omega) (by omega)]; exact id), nI_clamp (by omega), e, l3, l33, if_neg (by rw [ixo 3 (by omega) (by omega)]; exact id), if_neg (by rw [ixo 33 (by omega) (by omega)]; exact id), of_1, bd1_some, if_neg (by rw [ix (by omega) (by omega)]; exact id), clo 3 (by omega), clo 33 (by omega), nI_clamp (by omega)]
  cases zf_X2_wayBy (r (3 + a)) (r (33 + a)) (r (94 + 3 * p)) st <;> rfl
theorem least_min (x : Int32) : zf_X2_least 99 x = some (if x < 99 then x else 99) := by
  unfold zf_X2_least
  by_cases c : x < 99
  · rw [if_pos c, if_pos (Int32.le_of_lt c)]
  · rw [if_neg c]
    by_cases d : x ≤ 99
    · rw [if_pos d]
      have : x = 99 := by
        rcases Int32.lt_or_eq_of_le d with h | h
        · exact absurd h c
        · exact h
      rw [this]
    · rw [if_neg d]
theorem follow_goes {N : Nat} {B : BT} {r : Nat → Int32} {p : Nat} (h : RBN N B r) (hN : N < 5) (hp : p < N) : ∃ B' r', zf_X0_follow B (nI p) = some B' ∧ zf_X2_goes r (nI p) = some r' ∧ RBN N B' r' ∧ r' 2 = r 2 := by
  obtain ⟨h1, h2, h3, h4, h5⟩ := id h
  obtain ⟨a1, a2, a3, ⟨a, ha, ea⟩, ⟨w, hw, ew⟩⟩ := h3 p hp
  obtain ⟨k1, k2, k3, ⟨f, hf, ef⟩, ⟨q, hq, eq⟩⟩ := h5 a ha
  obtain ⟨w', hw', e1, e2⟩ := wayBy_eq (bt_kind B a) (bt_step B) hf hw
  have n1 := nd_X1 a ha w' hw'
  have n2 := nd_X2 a ha w' hw'
  have n3 := nd_lt a ha w' hw'
  have ra : r (93 + 3 * p) = nI a := a1.symm.trans ea
  have x4 : (nI p < 0) = False := ng (by omega)
  have y4 : (4 ≤ p) = False := ge (by omega)
  have x0 : (nI (93 + 3 * p) < 0) = False := ng (by omega)
  have y0 : (105 ≤ 93 + 3 * p) = False := ge (by omega)
  have x1 : (nI (94 + 3 * p) < 0) = False := ng (by omega)
  have y1 : (105 ≤ 94 + 3 * p) = False := ge (by omega)
  have x2 : (nI (95 + 3 * p) < 0) = False := ng (by omega)
  have y2 : (105 ≤ 95 + 3 * p) = False := ge (by omega)
  have x63 : ((63 : Int32) + nI a < 0) = False := by rw [l63, nI_add]; exact ng (by omega)
  have y63 : (105 ≤ 63 + a) = False := ge (by omega)
  have c63 : ((63 : Int32) + nI a).toNatClampNeg = 63 + a := clo 63 (by omega)
  have cp : (nI p).toNatClampNeg = p := nI_clamp (by omega)
  have x30 : (nI a < 0) = False := ng (by omega)
  have y30 : (30 ≤ a) = False := ge ha
  have ca : (nI a).toNatClampNeg = a := nI_clamp (by omega)
  have c0 : (nI (93 + 3 * p)).toNatClampNeg = 93 + 3 * p := nI_clamp (by omega)
  have c1 : (nI (94 + 3 * p)).toNatClampNeg = 94 + 3 * p := nI_clamp (by omega)
  have c2 : (nI (95 + 3 * p)).toNatClampNeg = 95 + 3 * p := nI_clamp (by omega)
  have wo : zf_X2_wayOf r (nI p) (r 1) = some (nI w') := by
    rw [wayOf_in r (r 1) (by omega) ha ra, ← k1, ← k2, ← a2, ef, ew, ← h4]; exact e2
  by_cases dry : bt_wet B a = 0
  · refine ⟨B, r, ?_, ?_, h, rfl⟩
    · simp only [zf_X0_follow, has_in h1 hN hp, bd1_some, one_0, x4, y4, or_self, cp, ea, isNode_in ha, x30, y30, ca, if_pos dry, ↓reduceIte]
    · have dr : r (63 + a) = 0 := k3.symm.trans dry
      simp only [zf_X2_goes, of_0, bd1_some, x0, y0, or_self, c0, ra, isDry_in r ha, if_pos dr, one_0, ↓reduceIte]
  · have dr : ¬ r (63 + a) = 0 := fun e => dry (k3.trans e)
    cases hnd : nd a w' with
    | none =>
      rw [hnd] at n1 n2
      refine ⟨bs_helped (bs_heading B (upd (bt_heading B) p (jr (nI w' + 2) 4))) (upd (bt_helped B) p (if bt_helped B p + 1 < 99 then bt_helped B p + 1 else 99)), upd (upd r (94 + 3 * p) (jr (nI w' + 2) 4)) (95 + 3 * p) (if bt_helped B p + 1 < 99 then bt_helped B p + 1 else 99), ?_, ?_, ?_, ?_⟩
      · simp only [zf_X0_follow, has_in h1 hN hp, bd1_some, one_0, x4, y4, or_self, cp, ea, isNode_in ha, x30, y30, ca, if_neg dry, ef, ew, e1, n1, show ((0 : Int32) ≤ -1) = False by decide, ↓reduceIte]
      · simp only [zf_X2_goes, of_0, of_1, of_2, bd1_some, x0, x1, x2, y0, y1, y2, or_self, c0, c1, c2, ra, isDry_in r ha, if_neg dr, zero_0, cl1, wo, n2, show ((0 : Int32) ≤ -9) = False by decide, least_min, up_n (show 95 + 3 * p ≠ 94 + 3 * p by omega), ← a3, ↓reduceIte]
      · refine RBN_helped (RBN_heading h hN hp ?_) hN hp
        obtain ⟨-, -, -, e4⟩ := jr_way w' hw'
        rw [e4]; exact rg_nI (Nat.mod_lt _ (by decide))
      · rw [up_n (by omega), up_n (by omega)]
    | some b =>
      rw [hnd] at n1 n2 n3
      have hb : b < 30 := n3
      have mv := RBN_heading (RBN_place h hN hp (rg_nI hb)) hN hp (rg_nI hw')
      have e3 : (upd (upd r (93 + 3 * p) (nI b)) (94 + 3 * p) (nI w')) 1 = r 1 := by rw [up_n (by omega), up_n (by omega)]
      have e63 : (upd (upd r (93 + 3 * p) (nI b)) (94 + 3 * p) (nI w')) (63 + a) = r (63 + a) := by rw [up_n (by omega), up_n (by omega)]
      by_cases c : jr (bt_step B) 2 = 0
      · have c' : jr (r 1) 2 = 0 := by rw [← h4]; exact c
        refine ⟨bs_wet (bs_place (bs_heading B (upd (bt_heading B) p (nI w'))) (upd (bt_place B) p (nI b))) (upd (bt_wet B) a (bt_wet B a - 1)), upd (upd (upd r (93 + 3 * p) (nI b)) (94 + 3 * p) (nI w')) (63 + a) (r (63 + a) - 1), ?_, ?_, ?_, ?_⟩
        · simp only [zf_X0_follow, has_in h1 hN hp, bd1_some, one_0, x4, y4, or_self, cp, ea, isNode_in ha, x30, y30, ca, if_neg dry, ef, ew, e1, n1, nI_pos' (show b < 2 ^ 31 by omega), if_pos c, ↓reduceIte]
        · simp only [zf_X2_goes, of_0, of_1, bd1_some, x0, x1, x63, y0, y1, y63, or_self, c63, c0, c1, ra, isDry_in r ha, if_neg dr, zero_0, cl1, wo, n2, nI_pos' (show b < 2 ^ 31 by omega), e3, e63, if_pos c', ↓reduceIte]
        · have hq0 : q ≠ 0 := fun z => dry (by rw [eq, z]; rfl)
          have : rg (bt_wet B a - 1) 10 := by
            rw [eq, l1, pk_sub (by omega)]; exact rg_nI (by omega)
          rw [← k3]
          exact RBN_wet mv ha this
        · rw [up_n (by omega), up_n (by omega), up_n (by omega)]
      · have c' : ¬ jr (r 1) 2 = 0 := by rw [← h4]; exact c
        refine ⟨bs_place (bs_heading B (upd (bt_heading B) p (nI w'))) (upd (bt_place B) p (nI b)), upd (upd r (93 + 3 * p) (nI b)) (94 + 3 * p) (nI w'), ?_, ?_, mv, ?_⟩
        · simp only [zf_X0_follow, has_in h1 hN hp, bd1_some, one_0, x4, y4, or_self, cp, ea, isNode_in ha, x30, y30, ca, if_neg dry, ef, ew, e1, n1, nI_pos' (show b < 2 ^ 31 by omega), if_neg c, ↓reduceIte]
        · simp only [zf_X2_goes, of_0, of_1, bd1_some, x0, x1, y0, y1, or_self, c0, c1, ra, isDry_in r ha, if_neg dr, zero_0, cl1, wo, n2, nI_pos' (show b < 2 ^ 31 by omega), e3, if_neg c', ↓reduceIte]
        · rw [up_n (by omega), up_n (by omega)]
