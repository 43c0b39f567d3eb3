/-! the pure side, 17: a statement of a wall, read by both (laid by wip/gen/stm.py) -/
def ST (g m : Nat → Int32) (n p : Nat) : Prop :=
  (∃ q, q < 200 ∧ (∀ rec11, zf_X1_placeAmiss_b11 g (nI n) rec11 (nI p) = some (nI q)) ∧ ∀ nums, ∃ nums', zf_X2_readsStatement m (nI n) (nI p) nums = some (0, nI q, nums')) ∨
  (∃ e k, zf_X1_formBehind (LE g n p) = some k ∧ k < 3 ∧ zf_J0_length_8abf5 k = some (nI e) ∧ 3 ≤ e ∧ e < 10 ∧ p + 1 + e ≤ n ∧ (∀ rec11, zf_X1_placeAmiss_b11 g (nI n) rec11 (nI p) = rec11 (nI (p + 1 + e))) ∧ ∀ nums, ∃ nums', zf_X2_readsStatement m (nI n) (nI p) nums = some (1, nI (p + 1 + e), nums') ∧ ∀ N B r, N < 5 → RBN N B r → r 2 = 0 → AC (zf_X1_tellOne B g (nI n) (nI p)) (zf_X2_isDone r nums' (LE g n p)))
theorem ac_wrap {f : Option (Int32 × BT)} {q : Option (Int32 × (Nat → Int32))} (h : AC f q) : AC (bd2 f fun r n => if r = 0 ∨ r = 1 then some (r, n) else none) q := by
  rcases h with ⟨B', r', e1, e2⟩ | ⟨B', r', N', e1, e2, e3⟩
  · rw [e1, bd2_some, if_pos (Or.inl rfl)]; exact Or.inl ⟨B', r', rfl, e2⟩
  · rw [e1, bd2_some, if_pos (Or.inr rfl)]; exact Or.inr ⟨B', r', N', rfl, e2, e3⟩
theorem LE_lt {g : Nat → Int32} {n j : Nat} (h : LE g n j = 59) : j < n := by
  rw [LE] at h
  by_cases c : j < n
  · exact c
  · rw [if_neg c] at h; exact absurd h (by decide)
theorem st_a {g m : Nat → Int32} {n p : Nat} (h : LG g m n) (hp : p < n) (hL : LE g n p = 97) : ST g m n p := by
  have hn := h.1
  have hf : zf_X1_formBehind (LE g n p) = some 1 := by rw [hL]; decide
  have X := fun rec => am_start (rec11 := rec) hn hp (show 1 < 3 by omega) hf
  have hl : zf_J0_length_8abf5 1 = some (nI 4) := form_len.2.1
  obtain ⟨c0, c1, c2, c3⟩ := form_1
  rcases dig_cases (LE_rg h (p + 1)) with ⟨d0, h0, l0, f0, i0⟩ | ⟨f0, i0⟩
  · skip
    rcases dig_cases (LE_rg h (p + 1 + 1)) with ⟨d1, h1, l1, f1, i1⟩ | ⟨f1, i1⟩
    · skip
      rcases dig_cases (LE_rg h (p + 1 + 1 + 1)) with ⟨d2, h2', l2, f2, i2⟩ | ⟨f2, i2⟩
      · skip
        rcases semi_cases (LE g n (p + 1 + 1 + 1 + 1)) with ⟨s3, f3⟩ | ⟨s3, f3⟩
        · skip
          have hq : p + 1 + 1 + 1 + 1 < n := LE_lt s3
          refine Or.inr ⟨4, 1, hf, by omega, hl, by omega, by omega, by omega, fun rec => ?_, fun nums => ?_⟩
          · rw [X, fu7, fl_1 hn (by omega) hl (by omega) (by omega) (show p + 1 < 2000 by omega) c0 f0, fl_1 hn (by omega) hl (by omega) (by omega) (show p + 1 + 1 < 2000 by omega) c1 f1, fl_1 hn (by omega) hl (by omega) (by omega) (show p + 1 + 1 + 1 < 2000 by omega) c2 f2, fl_1 hn (by omega) hl (by omega) (by omega) (show p + 1 + 1 + 1 + 1 < 2000 by omega) c3 f3, fl_e (by omega) hl]
          · skip
            obtain ⟨M0, E0, V0, O0⟩ := rn1_ok (idx := 0) h (show p + 1 < 1000 by omega) (by omega) l0 h0 i0 nums
            have F0 : zf_X2_readsNumber m (nI n) (nI (p + 1)) nums 0 1 = some (1, nI (p + 1 + 1), M0) := E0
            obtain ⟨M1, E1, V1, O1⟩ := rn2_ok (idx := 1) h (show p + 1 + 1 < 1000 by omega) (by omega) l1 h1 i1 l2 h2' i2 M0
            have F1 : zf_X2_readsNumber m (nI n) (nI (p + 1 + 1)) M0 1 2 = some (1, nI (p + 1 + 1 + 1 + 1), M1) := E1
            refine ⟨M1, by rw [zf_X2_readsStatement, la_X2 h (show p < 2000 by omega), bd1_some, hL, if_pos rfl, nI_1, F0, bd3_some, if_neg (show ¬ (1 : Int32) = 0 from by decide), F1, bd3_some, if_neg (show ¬ (1 : Int32) = 0 from by decide), t_ok h (show p + 1 + 1 + 1 + 1 < 1000 by omega) s3], fun N B r hN hB h2 => ?_⟩
            have a1 : nI p + 1 = nI (p + 1) := nI_1 p
            have a2 : nI p + 2 = nI (p + 1 + 1) := nI_add p 2
            have a3 : nI p + 3 = nI (p + 1 + 1 + 1) := nI_add p 3
            have a4 : nI p + 4 = nI (p + 1 + 1 + 1 + 1) := nI_add p 4
            rw [zf_X1_tellOne, la_X1 g hn (show p < 2000 by omega), bd1_some, hL, if_pos rfl, a1, a2, dg_X1 hn (show p + 1 < 1000 by omega) l0, bd1_some, nm_X1 hn (show p + 1 + 1 < 900 by omega) l1 l2, bd1_some]
            exact ac_wrap (ac_a hB hN h2 ((O1 0 (by omega)).trans V0) V1)
        · skip
          refine Or.inl ⟨p + 1 + 1 + 1 + 1, by omega, fun rec => ?_, fun nums => ?_⟩
          · rw [X, fu7, fl_1 hn (by omega) hl (by omega) (by omega) (show p + 1 < 2000 by omega) c0 f0, fl_1 hn (by omega) hl (by omega) (by omega) (show p + 1 + 1 < 2000 by omega) c1 f1, fl_1 hn (by omega) hl (by omega) (by omega) (show p + 1 + 1 + 1 < 2000 by omega) c2 f2, fl_0 hn (by omega) hl (by omega) (by omega) (show p + 1 + 1 + 1 + 1 < 2000 by omega) c3 f3]
          · skip
            obtain ⟨M0, E0, V0, O0⟩ := rn1_ok (idx := 0) h (show p + 1 < 1000 by omega) (by omega) l0 h0 i0 nums
            have F0 : zf_X2_readsNumber m (nI n) (nI (p + 1)) nums 0 1 = some (1, nI (p + 1 + 1), M0) := E0
            obtain ⟨M1, E1, V1, O1⟩ := rn2_ok (idx := 1) h (show p + 1 + 1 < 1000 by omega) (by omega) l1 h1 i1 l2 h2' i2 M0
            have F1 : zf_X2_readsNumber m (nI n) (nI (p + 1 + 1)) M0 1 2 = some (1, nI (p + 1 + 1 + 1 + 1), M1) := E1
            exact ⟨_, by rw [zf_X2_readsStatement, la_X2 h (show p < 2000 by omega), bd1_some, hL, if_pos rfl, nI_1, F0, bd3_some, if_neg (show ¬ (1 : Int32) = 0 from by decide), F1, bd3_some, if_neg (show ¬ (1 : Int32) = 0 from by decide), t_no h (show p + 1 + 1 + 1 + 1 < 1000 by omega) s3]⟩
      · skip
        refine Or.inl ⟨p + 1 + 1 + 1, by omega, fun rec => ?_, fun nums => ?_⟩
        · rw [X, fu7, fl_1 hn (by omega) hl (by omega) (by omega) (show p + 1 < 2000 by omega) c0 f0, fl_1 hn (by omega) hl (by omega) (by omega) (show p + 1 + 1 < 2000 by omega) c1 f1, fl_0 hn (by omega) hl (by omega) (by omega) (show p + 1 + 1 + 1 < 2000 by omega) c2 f2]
        · skip
          obtain ⟨M0, E0, V0, O0⟩ := rn1_ok (idx := 0) h (show p + 1 < 1000 by omega) (by omega) l0 h0 i0 nums
          have F0 : zf_X2_readsNumber m (nI n) (nI (p + 1)) nums 0 1 = some (1, nI (p + 1 + 1), M0) := E0
          obtain ⟨Q, E⟩ := rn2_no (idx := 1) h (show p + 1 + 1 < 1000 by omega) (by omega) l1 h1 i1 i2 M0
          have F : zf_X2_readsNumber m (nI n) (nI (p + 1 + 1)) M0 1 2 = some (0, nI (p + 1 + 1 + 1), Q) := E
          exact ⟨_, by rw [zf_X2_readsStatement, la_X2 h (show p < 2000 by omega), bd1_some, hL, if_pos rfl, nI_1, F0, bd3_some, if_neg (show ¬ (1 : Int32) = 0 from by decide), F, bd3_some, if_pos rfl, t_0]⟩
    · skip
      refine Or.inl ⟨p + 1 + 1, by omega, fun rec => ?_, fun nums => ?_⟩
      · rw [X, fu7, fl_1 hn (by omega) hl (by omega) (by omega) (show p + 1 < 2000 by omega) c0 f0, fl_0 hn (by omega) hl (by omega) (by omega) (show p + 1 + 1 < 2000 by omega) c1 f1]
      · skip
        obtain ⟨M0, E0, V0, O0⟩ := rn1_ok (idx := 0) h (show p + 1 < 1000 by omega) (by omega) l0 h0 i0 nums
        have F0 : zf_X2_readsNumber m (nI n) (nI (p + 1)) nums 0 1 = some (1, nI (p + 1 + 1), M0) := E0
        obtain ⟨Q, E⟩ := rn1_no (idx := 1) (t := 2) h (show p + 1 + 1 < 1000 by omega) (by omega) ⟨by omega, by omega⟩ i1 M0
        have F : zf_X2_readsNumber m (nI n) (nI (p + 1 + 1)) M0 1 2 = some (0, nI (p + 1 + 1), Q) := E
        exact ⟨_, by rw [zf_X2_readsStatement, la_X2 h (show p < 2000 by omega), bd1_some, hL, if_pos rfl, nI_1, F0, bd3_some, if_neg (show ¬ (1 : Int32) = 0 from by decide), F, bd3_some, if_pos rfl, t_0]⟩
  · skip
    refine Or.inl ⟨p + 1, by omega, fun rec => ?_, fun nums => ?_⟩
    · rw [X, fu7, fl_0 hn (by omega) hl (by omega) (by omega) (show p + 1 < 2000 by omega) c0 f0]
    · skip
      obtain ⟨Q, E⟩ := rn1_no (idx := 0) (t := 1) h (show p + 1 < 1000 by omega) (by omega) ⟨by omega, by omega⟩ i0 nums
      have F : zf_X2_readsNumber m (nI n) (nI (p + 1)) nums 0 1 = some (0, nI (p + 1), Q) := E
      exact ⟨_, by rw [zf_X2_readsStatement, la_X2 h (show p < 2000 by omega), bd1_some, hL, if_pos rfl, nI_1, F, bd3_some, if_pos rfl, t_0]⟩
theorem st_h {g m : Nat → Int32} {n p : Nat} (h : LG g m n) (hp : p < n) (hL : LE g n p = 104) : ST g m n p := by
  have hn := h.1
  have hf : zf_X1_formBehind (LE g n p) = some 2 := by rw [hL]; decide
  have X := fun rec => am_start (rec11 := rec) hn hp (show 2 < 3 by omega) hf
  have hl : zf_J0_length_8abf5 2 = some (nI 3) := form_len.2.2
  obtain ⟨c0, c1, c2⟩ := form_2
  rcases dig_cases (LE_rg h (p + 1)) with ⟨d0, h0, l0, f0, i0⟩ | ⟨f0, i0⟩
  · skip
    rcases dig_cases (LE_rg h (p + 1 + 1)) with ⟨d1, h1, l1, f1, i1⟩ | ⟨f1, i1⟩
    · skip
      rcases semi_cases (LE g n (p + 1 + 1 + 1)) with ⟨s2, f2⟩ | ⟨s2, f2⟩
      · skip
        have hq : p + 1 + 1 + 1 < n := LE_lt s2
        refine Or.inr ⟨3, 2, hf, by omega, hl, by omega, by omega, by omega, fun rec => ?_, fun nums => ?_⟩
        · rw [X, fu7, fl_1 hn (by omega) hl (by omega) (by omega) (show p + 1 < 2000 by omega) c0 f0, fl_1 hn (by omega) hl (by omega) (by omega) (show p + 1 + 1 < 2000 by omega) c1 f1, fl_1 hn (by omega) hl (by omega) (by omega) (show p + 1 + 1 + 1 < 2000 by omega) c2 f2, fl_e (by omega) hl]
        · skip
          obtain ⟨M0, E0, V0, O0⟩ := rn1_ok (idx := 0) h (show p + 1 < 1000 by omega) (by omega) l0 h0 i0 nums
          have F0 : zf_X2_readsNumber m (nI n) (nI (p + 1)) nums 0 1 = some (1, nI (p + 1 + 1), M0) := E0
          obtain ⟨M1, E1, V1, O1⟩ := rn1_ok (idx := 1) h (show p + 1 + 1 < 1000 by omega) (by omega) l1 h1 i1 M0
          have F1 : zf_X2_readsNumber m (nI n) (nI (p + 1 + 1)) M0 1 1 = some (1, nI (p + 1 + 1 + 1), M1) := E1
          refine ⟨M1, by rw [zf_X2_readsStatement, la_X2 h (show p < 2000 by omega), bd1_some, hL, if_neg (show ¬ (104 : Int32) = 97 from by decide), if_pos rfl, nI_1, F0, bd3_some, if_neg (show ¬ (1 : Int32) = 0 from by decide), F1, bd3_some, if_neg (show ¬ (1 : Int32) = 0 from by decide), t_ok h (show p + 1 + 1 + 1 < 1000 by omega) s2], fun N B r hN hB h2 => ?_⟩
          have a1 : nI p + 1 = nI (p + 1) := nI_1 p
          have a2 : nI p + 2 = nI (p + 1 + 1) := nI_add p 2
          have a3 : nI p + 3 = nI (p + 1 + 1 + 1) := nI_add p 3
          have a4 : nI p + 4 = nI (p + 1 + 1 + 1 + 1) := nI_add p 4
          rw [zf_X1_tellOne, la_X1 g hn (show p < 2000 by omega), bd1_some, hL, if_neg (show ¬ (104 : Int32) = 97 from by decide), if_pos rfl, a1, a2, dg_X1 hn (show p + 1 < 1000 by omega) l0, bd1_some, dg_X1 hn (show p + 1 + 1 < 1000 by omega) l1, bd1_some]
          exact ac_wrap (ac_h hB hN h2 ((O1 0 (by omega)).trans V0) V1)
      · skip
        refine Or.inl ⟨p + 1 + 1 + 1, by omega, fun rec => ?_, fun nums => ?_⟩
        · rw [X, fu7, fl_1 hn (by omega) hl (by omega) (by omega) (show p + 1 < 2000 by omega) c0 f0, fl_1 hn (by omega) hl (by omega) (by omega) (show p + 1 + 1 < 2000 by omega) c1 f1, fl_0 hn (by omega) hl (by omega) (by omega) (show p + 1 + 1 + 1 < 2000 by omega) c2 f2]
        · skip
          obtain ⟨M0, E0, V0, O0⟩ := rn1_ok (idx := 0) h (show p + 1 < 1000 by omega) (by omega) l0 h0 i0 nums
          have F0 : zf_X2_readsNumber m (nI n) (nI (p + 1)) nums 0 1 = some (1, nI (p + 1 + 1), M0) := E0
          obtain ⟨M1, E1, V1, O1⟩ := rn1_ok (idx := 1) h (show p + 1 + 1 < 1000 by omega) (by omega) l1 h1 i1 M0
          have F1 : zf_X2_readsNumber m (nI n) (nI (p + 1 + 1)) M0 1 1 = some (1, nI (p + 1 + 1 + 1), M1) := E1
          exact ⟨_, by rw [zf_X2_readsStatement, la_X2 h (show p < 2000 by omega), bd1_some, hL, if_neg (show ¬ (104 : Int32) = 97 from by decide), if_pos rfl, nI_1, F0, bd3_some, if_neg (show ¬ (1 : Int32) = 0 from by decide), F1, bd3_some, if_neg (show ¬ (1 : Int32) = 0 from by decide), t_no h (show p + 1 + 1 + 1 < 1000 by omega) s2]⟩
    · skip
      refine Or.inl ⟨p + 1 + 1, by omega, fun rec => ?_, fun nums => ?_⟩
      · rw [X, fu7, fl_1 hn (by omega) hl (by omega) (by omega) (show p + 1 < 2000 by omega) c0 f0, fl_0 hn (by omega) hl (by omega) (by omega) (show p + 1 + 1 < 2000 by omega) c1 f1]
      · skip
        obtain ⟨M0, E0, V0, O0⟩ := rn1_ok (idx := 0) h (show p + 1 < 1000 by omega) (by omega) l0 h0 i0 nums
        have F0 : zf_X2_readsNumber m (nI n) (nI (p + 1)) nums 0 1 = some (1, nI (p + 1 + 1), M0) := E0
        obtain ⟨Q, E⟩ := rn1_no (idx := 1) (t := 1) h (show p + 1 + 1 < 1000 by omega) (by omega) ⟨by omega, by omega⟩ i1 M0
        have F : zf_X2_readsNumber m (nI n) (nI (p + 1 + 1)) M0 1 1 = some (0, nI (p + 1 + 1), Q) := E
        exact ⟨_, by rw [zf_X2_readsStatement, la_X2 h (show p < 2000 by omega), bd1_some, hL, if_neg (show ¬ (104 : Int32) = 97 from by decide), if_pos rfl, nI_1, F0, bd3_some, if_neg (show ¬ (1 : Int32) = 0 from by decide), F, bd3_some, if_pos rfl, t_0]⟩
  · skip
    refine Or.inl ⟨p + 1, by omega, fun rec => ?_, fun nums => ?_⟩
    · rw [X, fu7, fl_0 hn (by omega) hl (by omega) (by omega) (show p + 1 < 2000 by omega) c0 f0]
    · skip
      obtain ⟨Q, E⟩ := rn1_no (idx := 0) (t := 1) h (show p + 1 < 1000 by omega) (by omega) ⟨by omega, by omega⟩ i0 nums
      have F : zf_X2_readsNumber m (nI n) (nI (p + 1)) nums 0 1 = some (0, nI (p + 1), Q) := E
      exact ⟨_, by rw [zf_X2_readsStatement, la_X2 h (show p < 2000 by omega), bd1_some, hL, if_neg (show ¬ (104 : Int32) = 97 from by decide), if_pos rfl, nI_1, F, bd3_some, if_pos rfl, t_0]⟩
theorem st_n {g m : Nat → Int32} {n p : Nat} (h : LG g m n) (hp : p < n) (hL : LE g n p = 110) : ST g m n p := by
  have hn := h.1
  have hf : zf_X1_formBehind (LE g n p) = some 0 := by rw [hL]; decide
  have X := fun rec => am_start (rec11 := rec) hn hp (show 0 < 3 by omega) hf
  have hl : zf_J0_length_8abf5 0 = some (nI 5) := form_len.1
  obtain ⟨c0, c1, c2, c3, c4⟩ := form_0
  rcases dig_cases (LE_rg h (p + 1)) with ⟨d0, h0, l0, f0, i0⟩ | ⟨f0, i0⟩
  · skip
    rcases dig_cases (LE_rg h (p + 1 + 1)) with ⟨d1, h1, l1, f1, i1⟩ | ⟨f1, i1⟩
    · skip
      rcases kd_cases (LE_rg h (p + 1 + 1 + 1)) with ⟨d2, z2, x2, y2, f2⟩ | ⟨y2, f2⟩
      · skip
        rcases dig_cases (LE_rg h (p + 1 + 1 + 1 + 1)) with ⟨d3, h3, l3, f3, i3⟩ | ⟨f3, i3⟩
        · skip
          rcases semi_cases (LE g n (p + 1 + 1 + 1 + 1 + 1)) with ⟨s4, f4⟩ | ⟨s4, f4⟩
          · skip
            have hq : p + 1 + 1 + 1 + 1 + 1 < n := LE_lt s4
            refine Or.inr ⟨5, 0, hf, by omega, hl, by omega, by omega, by omega, fun rec => ?_, fun nums => ?_⟩
            · rw [X, fu7, fl_1 hn (by omega) hl (by omega) (by omega) (show p + 1 < 2000 by omega) c0 f0, fl_1 hn (by omega) hl (by omega) (by omega) (show p + 1 + 1 < 2000 by omega) c1 f1, fl_1 hn (by omega) hl (by omega) (by omega) (show p + 1 + 1 + 1 < 2000 by omega) c2 f2, fl_1 hn (by omega) hl (by omega) (by omega) (show p + 1 + 1 + 1 + 1 < 2000 by omega) c3 f3, fl_1 hn (by omega) hl (by omega) (by omega) (show p + 1 + 1 + 1 + 1 + 1 < 2000 by omega) c4 f4, fl_e (by omega) hl]
            · skip
              obtain ⟨M0, E0, V0, O0⟩ := rn2_ok (idx := 0) h (show p + 1 < 1000 by omega) (by omega) l0 h0 i0 l1 h1 i1 nums
              have F0 : zf_X2_readsNumber m (nI n) (nI (p + 1)) nums 0 2 = some (1, nI (p + 1 + 1 + 1), M0) := E0
              have F1 := rk_ok h (show p + 1 + 1 + 1 < 1000 by omega) y2 z2 M0
              obtain ⟨M2, E2, V2, O2⟩ := rn1_ok (idx := 2) h (show p + 1 + 1 + 1 + 1 < 1000 by omega) (by omega) l3 h3 i3 (upd M0 1 (nI d2))
              have F2 : zf_X2_readsNumber m (nI n) (nI (p + 1 + 1 + 1 + 1)) (upd M0 1 (nI d2)) 2 1 = some (1, nI (p + 1 + 1 + 1 + 1 + 1), M2) := E2
              refine ⟨M2, by rw [zf_X2_readsStatement, la_X2 h (show p < 2000 by omega), bd1_some, hL, if_neg (show ¬ (110 : Int32) = 97 from by decide), if_neg (show ¬ (110 : Int32) = 104 from by decide), if_pos rfl, nI_1, F0, bd3_some, if_neg (show ¬ (1 : Int32) = 0 from by decide), F1, bd3_some, if_neg (show ¬ (1 : Int32) = 0 from by decide), F2, bd3_some, if_neg (show ¬ (1 : Int32) = 0 from by decide), t_ok h (show p + 1 + 1 + 1 + 1 + 1 < 1000 by omega) s4], fun N B r hN hB h2 => ?_⟩
              have a1 : nI p + 1 = nI (p + 1) := nI_1 p
              have a2 : nI p + 2 = nI (p + 1 + 1) := nI_add p 2
              have a3 : nI p + 3 = nI (p + 1 + 1 + 1) := nI_add p 3
              have a4 : nI p + 4 = nI (p + 1 + 1 + 1 + 1) := nI_add p 4
              rw [zf_X1_tellOne, la_X1 g hn (show p < 2000 by omega), bd1_some, hL, if_neg (show ¬ (110 : Int32) = 97 from by decide), if_neg (show ¬ (110 : Int32) = 104 from by decide), if_pos rfl, a1, a3, a4, nm_X1 hn (show p + 1 < 900 by omega) l0 l1, bd1_some, la_X1 g hn (show p + 1 + 1 + 1 < 2000 by omega), bd1_some, x2, bd1_some, dg_X1 hn (show p + 1 + 1 + 1 + 1 < 1000 by omega) l3, bd1_some]
              exact ac_wrap (ac_n hB hN h2 h3 ((O2 0 (by omega)).trans ((up_n (by omega)).trans V0)) ((O2 1 (by omega)).trans up_s) V2)
          · skip
            refine Or.inl ⟨p + 1 + 1 + 1 + 1 + 1, by omega, fun rec => ?_, fun nums => ?_⟩
            · rw [X, fu7, fl_1 hn (by omega) hl (by omega) (by omega) (show p + 1 < 2000 by omega) c0 f0, fl_1 hn (by omega) hl (by omega) (by omega) (show p + 1 + 1 < 2000 by omega) c1 f1, fl_1 hn (by omega) hl (by omega) (by omega) (show p + 1 + 1 + 1 < 2000 by omega) c2 f2, fl_1 hn (by omega) hl (by omega) (by omega) (show p + 1 + 1 + 1 + 1 < 2000 by omega) c3 f3, fl_0 hn (by omega) hl (by omega) (by omega) (show p + 1 + 1 + 1 + 1 + 1 < 2000 by omega) c4 f4]
            · skip
              obtain ⟨M0, E0, V0, O0⟩ := rn2_ok (idx := 0) h (show p + 1 < 1000 by omega) (by omega) l0 h0 i0 l1 h1 i1 nums
              have F0 : zf_X2_readsNumber m (nI n) (nI (p + 1)) nums 0 2 = some (1, nI (p + 1 + 1 + 1), M0) := E0
              have F1 := rk_ok h (show p + 1 + 1 + 1 < 1000 by omega) y2 z2 M0
              obtain ⟨M2, E2, V2, O2⟩ := rn1_ok (idx := 2) h (show p + 1 + 1 + 1 + 1 < 1000 by omega) (by omega) l3 h3 i3 (upd M0 1 (nI d2))
              have F2 : zf_X2_readsNumber m (nI n) (nI (p + 1 + 1 + 1 + 1)) (upd M0 1 (nI d2)) 2 1 = some (1, nI (p + 1 + 1 + 1 + 1 + 1), M2) := E2
              exact ⟨_, by rw [zf_X2_readsStatement, la_X2 h (show p < 2000 by omega), bd1_some, hL, if_neg (show ¬ (110 : Int32) = 97 from by decide), if_neg (show ¬ (110 : Int32) = 104 from by decide), if_pos rfl, nI_1, F0, bd3_some, if_neg (show ¬ (1 : Int32) = 0 from by decide), F1, bd3_some, if_neg (show ¬ (1 : Int32) = 0 from by decide), F2, bd3_some, if_neg (show ¬ (1 : Int32) = 0 from by decide), t_no h (show p + 1 + 1 + 1 + 1 + 1 < 1000 by omega) s4]⟩
        · skip
          refine Or.inl ⟨p + 1 + 1 + 1 + 1, by omega, fun rec => ?_, fun nums => ?_⟩
          · rw [X, fu7, fl_1 hn (by omega) hl (by omega) (by omega) (show p + 1 < 2000 by omega) c0 f0, fl_1 hn (by omega) hl (by omega) (by omega) (show p + 1 + 1 < 2000 by omega) c1 f1, fl_1 hn (by omega) hl (by omega) (by omega) (show p + 1 + 1 + 1 < 2000 by omega) c2 f2, fl_0 hn (by omega) hl (by omega) (by omega) (show p + 1 + 1 + 1 + 1 < 2000 by omega) c3 f3]
          · skip
            obtain ⟨M0, E0, V0, O0⟩ := rn2_ok (idx := 0) h (show p + 1 < 1000 by omega) (by omega) l0 h0 i0 l1 h1 i1 nums
            have F0 : zf_X2_readsNumber m (nI n) (nI (p + 1)) nums 0 2 = some (1, nI (p + 1 + 1 + 1), M0) := E0
            have F1 := rk_ok h (show p + 1 + 1 + 1 < 1000 by omega) y2 z2 M0
            obtain ⟨Q, E⟩ := rn1_no (idx := 2) (t := 1) h (show p + 1 + 1 + 1 + 1 < 1000 by omega) (by omega) ⟨by omega, by omega⟩ i3 (upd M0 1 (nI d2))
            have F : zf_X2_readsNumber m (nI n) (nI (p + 1 + 1 + 1 + 1)) (upd M0 1 (nI d2)) 2 1 = some (0, nI (p + 1 + 1 + 1 + 1), Q) := E
            exact ⟨_, by rw [zf_X2_readsStatement, la_X2 h (show p < 2000 by omega), bd1_some, hL, if_neg (show ¬ (110 : Int32) = 97 from by decide), if_neg (show ¬ (110 : Int32) = 104 from by decide), if_pos rfl, nI_1, F0, bd3_some, if_neg (show ¬ (1 : Int32) = 0 from by decide), F1, bd3_some, if_neg (show ¬ (1 : Int32) = 0 from by decide), F, bd3_some, if_pos rfl, t_0]⟩
      · skip
        refine Or.inl ⟨p + 1 + 1 + 1, by omega, fun rec => ?_, fun nums => ?_⟩
        · rw [X, fu7, fl_1 hn (by omega) hl (by omega) (by omega) (show p + 1 < 2000 by omega) c0 f0, fl_1 hn (by omega) hl (by omega) (by omega) (show p + 1 + 1 < 2000 by omega) c1 f1, fl_0 hn (by omega) hl (by omega) (by omega) (show p + 1 + 1 + 1 < 2000 by omega) c2 f2]
        · skip
          obtain ⟨M0, E0, V0, O0⟩ := rn2_ok (idx := 0) h (show p + 1 < 1000 by omega) (by omega) l0 h0 i0 l1 h1 i1 nums
          have F0 : zf_X2_readsNumber m (nI n) (nI (p + 1)) nums 0 2 = some (1, nI (p + 1 + 1 + 1), M0) := E0
          exact ⟨_, by rw [zf_X2_readsStatement, la_X2 h (show p < 2000 by omega), bd1_some, hL, if_neg (show ¬ (110 : Int32) = 97 from by decide), if_neg (show ¬ (110 : Int32) = 104 from by decide), if_pos rfl, nI_1, F0, bd3_some, if_neg (show ¬ (1 : Int32) = 0 from by decide), rk_no h (show p + 1 + 1 + 1 < 1000 by omega) y2 M0, bd3_some, if_pos rfl, t_0]⟩
    · skip
      refine Or.inl ⟨p + 1 + 1, by omega, fun rec => ?_, fun nums => ?_⟩
      · rw [X, fu7, fl_1 hn (by omega) hl (by omega) (by omega) (show p + 1 < 2000 by omega) c0 f0, fl_0 hn (by omega) hl (by omega) (by omega) (show p + 1 + 1 < 2000 by omega) c1 f1]
      · skip
        obtain ⟨Q, E⟩ := rn2_no (idx := 0) h (show p + 1 < 1000 by omega) (by omega) l0 h0 i0 i1 nums
        have F : zf_X2_readsNumber m (nI n) (nI (p + 1)) nums 0 2 = some (0, nI (p + 1 + 1), Q) := E
        exact ⟨_, by rw [zf_X2_readsStatement, la_X2 h (show p < 2000 by omega), bd1_some, hL, if_neg (show ¬ (110 : Int32) = 97 from by decide), if_neg (show ¬ (110 : Int32) = 104 from by decide), if_pos rfl, nI_1, F, bd3_some, if_pos rfl, t_0]⟩
  · skip
    refine Or.inl ⟨p + 1, by omega, fun rec => ?_, fun nums => ?_⟩
    · rw [X, fu7, fl_0 hn (by omega) hl (by omega) (by omega) (show p + 1 < 2000 by omega) c0 f0]
    · skip
      obtain ⟨Q, E⟩ := rn1_no (idx := 0) (t := 2) h (show p + 1 < 1000 by omega) (by omega) ⟨by omega, by omega⟩ i0 nums
      have F : zf_X2_readsNumber m (nI n) (nI (p + 1)) nums 0 2 = some (0, nI (p + 1), Q) := E
      exact ⟨_, by rw [zf_X2_readsStatement, la_X2 h (show p < 2000 by omega), bd1_some, hL, if_neg (show ¬ (110 : Int32) = 97 from by decide), if_neg (show ¬ (110 : Int32) = 104 from by decide), if_pos rfl, nI_1, F, bd3_some, if_pos rfl, t_0]⟩
theorem st_p {g m : Nat → Int32} {n p : Nat} (h : LG g m n) (hp : p < n) (hL : LE g n p = 112) : ST g m n p := by
  have hn := h.1
  have hf : zf_X1_formBehind (LE g n p) = some 1 := by rw [hL]; decide
  have X := fun rec => am_start (rec11 := rec) hn hp (show 1 < 3 by omega) hf
  have hl : zf_J0_length_8abf5 1 = some (nI 4) := form_len.2.1
  obtain ⟨c0, c1, c2, c3⟩ := form_1
  rcases dig_cases (LE_rg h (p + 1)) with ⟨d0, h0, l0, f0, i0⟩ | ⟨f0, i0⟩
  · skip
    rcases dig_cases (LE_rg h (p + 1 + 1)) with ⟨d1, h1, l1, f1, i1⟩ | ⟨f1, i1⟩
    · skip
      rcases dig_cases (LE_rg h (p + 1 + 1 + 1)) with ⟨d2, h2', l2, f2, i2⟩ | ⟨f2, i2⟩
      · skip
        rcases semi_cases (LE g n (p + 1 + 1 + 1 + 1)) with ⟨s3, f3⟩ | ⟨s3, f3⟩
        · skip
          have hq : p + 1 + 1 + 1 + 1 < n := LE_lt s3
          refine Or.inr ⟨4, 1, hf, by omega, hl, by omega, by omega, by omega, fun rec => ?_, fun nums => ?_⟩
          · rw [X, fu7, fl_1 hn (by omega) hl (by omega) (by omega) (show p + 1 < 2000 by omega) c0 f0, fl_1 hn (by omega) hl (by omega) (by omega) (show p + 1 + 1 < 2000 by omega) c1 f1, fl_1 hn (by omega) hl (by omega) (by omega) (show p + 1 + 1 + 1 < 2000 by omega) c2 f2, fl_1 hn (by omega) hl (by omega) (by omega) (show p + 1 + 1 + 1 + 1 < 2000 by omega) c3 f3, fl_e (by omega) hl]
          · skip
            obtain ⟨M0, E0, V0, O0⟩ := rn2_ok (idx := 0) h (show p + 1 < 1000 by omega) (by omega) l0 h0 i0 l1 h1 i1 nums
            have F0 : zf_X2_readsNumber m (nI n) (nI (p + 1)) nums 0 2 = some (1, nI (p + 1 + 1 + 1), M0) := E0
            obtain ⟨M1, E1, V1, O1⟩ := rn1_ok (idx := 1) h (show p + 1 + 1 + 1 < 1000 by omega) (by omega) l2 h2' i2 M0
            have F1 : zf_X2_readsNumber m (nI n) (nI (p + 1 + 1 + 1)) M0 1 1 = some (1, nI (p + 1 + 1 + 1 + 1), M1) := E1
            refine ⟨M1, by rw [zf_X2_readsStatement, la_X2 h (show p < 2000 by omega), bd1_some, hL, if_neg (show ¬ (112 : Int32) = 97 from by decide), if_neg (show ¬ (112 : Int32) = 104 from by decide), if_neg (show ¬ (112 : Int32) = 110 from by decide), if_pos rfl, nI_1, F0, bd3_some, if_neg (show ¬ (1 : Int32) = 0 from by decide), F1, bd3_some, if_neg (show ¬ (1 : Int32) = 0 from by decide), t_ok h (show p + 1 + 1 + 1 + 1 < 1000 by omega) s3], fun N B r hN hB h2 => ?_⟩
            have a1 : nI p + 1 = nI (p + 1) := nI_1 p
            have a2 : nI p + 2 = nI (p + 1 + 1) := nI_add p 2
            have a3 : nI p + 3 = nI (p + 1 + 1 + 1) := nI_add p 3
            have a4 : nI p + 4 = nI (p + 1 + 1 + 1 + 1) := nI_add p 4
            rw [zf_X1_tellOne, la_X1 g hn (show p < 2000 by omega), bd1_some, hL, if_neg (show ¬ (112 : Int32) = 97 from by decide), if_neg (show ¬ (112 : Int32) = 104 from by decide), if_neg (show ¬ (112 : Int32) = 110 from by decide), if_pos rfl, a1, a3, nm_X1 hn (show p + 1 < 900 by omega) l0 l1, bd1_some, dg_X1 hn (show p + 1 + 1 + 1 < 1000 by omega) l2, bd1_some]
            exact ac_wrap (ac_p hB hN h2 ((O1 0 (by omega)).trans V0) V1)
        · skip
          refine Or.inl ⟨p + 1 + 1 + 1 + 1, by omega, fun rec => ?_, fun nums => ?_⟩
          · rw [X, fu7, fl_1 hn (by omega) hl (by omega) (by omega) (show p + 1 < 2000 by omega) c0 f0, fl_1 hn (by omega) hl (by omega) (by omega) (show p + 1 + 1 < 2000 by omega) c1 f1, fl_1 hn (by omega) hl (by omega) (by omega) (show p + 1 + 1 + 1 < 2000 by omega) c2 f2, fl_0 hn (by omega) hl (by omega) (by omega) (show p + 1 + 1 + 1 + 1 < 2000 by omega) c3 f3]
          · skip
            obtain ⟨M0, E0, V0, O0⟩ := rn2_ok (idx := 0) h (show p + 1 < 1000 by omega) (by omega) l0 h0 i0 l1 h1 i1 nums
            have F0 : zf_X2_readsNumber m (nI n) (nI (p + 1)) nums 0 2 = some (1, nI (p + 1 + 1 + 1), M0) := E0
            obtain ⟨M1, E1, V1, O1⟩ := rn1_ok (idx := 1) h (show p + 1 + 1 + 1 < 1000 by omega) (by omega) l2 h2' i2 M0
            have F1 : zf_X2_readsNumber m (nI n) (nI (p + 1 + 1 + 1)) M0 1 1 = some (1, nI (p + 1 + 1 + 1 + 1), M1) := E1
            exact ⟨_, by rw [zf_X2_readsStatement, la_X2 h (show p < 2000 by omega), bd1_some, hL, if_neg (show ¬ (112 : Int32) = 97 from by decide), if_neg (show ¬ (112 : Int32) = 104 from by decide), if_neg (show ¬ (112 : Int32) = 110 from by decide), if_pos rfl, nI_1, F0, bd3_some, if_neg (show ¬ (1 : Int32) = 0 from by decide), F1, bd3_some, if_neg (show ¬ (1 : Int32) = 0 from by decide), t_no h (show p + 1 + 1 + 1 + 1 < 1000 by omega) s3]⟩
      · skip
        refine Or.inl ⟨p + 1 + 1 + 1, by omega, fun rec => ?_, fun nums => ?_⟩
        · rw [X, fu7, fl_1 hn (by omega) hl (by omega) (by omega) (show p + 1 < 2000 by omega) c0 f0, fl_1 hn (by omega) hl (by omega) (by omega) (show p + 1 + 1 < 2000 by omega) c1 f1, fl_0 hn (by omega) hl (by omega) (by omega) (show p + 1 + 1 + 1 < 2000 by omega) c2 f2]
        · skip
          obtain ⟨M0, E0, V0, O0⟩ := rn2_ok (idx := 0) h (show p + 1 < 1000 by omega) (by omega) l0 h0 i0 l1 h1 i1 nums
          have F0 : zf_X2_readsNumber m (nI n) (nI (p + 1)) nums 0 2 = some (1, nI (p + 1 + 1 + 1), M0) := E0
          obtain ⟨Q, E⟩ := rn1_no (idx := 1) (t := 1) h (show p + 1 + 1 + 1 < 1000 by omega) (by omega) ⟨by omega, by omega⟩ i2 M0
          have F : zf_X2_readsNumber m (nI n) (nI (p + 1 + 1 + 1)) M0 1 1 = some (0, nI (p + 1 + 1 + 1), Q) := E
          exact ⟨_, by rw [zf_X2_readsStatement, la_X2 h (show p < 2000 by omega), bd1_some, hL, if_neg (show ¬ (112 : Int32) = 97 from by decide), if_neg (show ¬ (112 : Int32) = 104 from by decide), if_neg (show ¬ (112 : Int32) = 110 from by decide), if_pos rfl, nI_1, F0, bd3_some, if_neg (show ¬ (1 : Int32) = 0 from by decide), F, bd3_some, if_pos rfl, t_0]⟩
    · skip
      refine Or.inl ⟨p + 1 + 1, by omega, fun rec => ?_, fun nums => ?_⟩
      · rw [X, fu7, fl_1 hn (by omega) hl (by omega) (by omega) (show p + 1 < 2000 by omega) c0 f0, fl_0 hn (by omega) hl (by omega) (by omega) (show p + 1 + 1 < 2000 by omega) c1 f1]
      · skip
        obtain ⟨Q, E⟩ := rn2_no (idx := 0) h (show p + 1 < 1000 by omega) (by omega) l0 h0 i0 i1 nums
        have F : zf_X2_readsNumber m (nI n) (nI (p + 1)) nums 0 2 = some (0, nI (p + 1 + 1), Q) := E
        exact ⟨_, by rw [zf_X2_readsStatement, la_X2 h (show p < 2000 by omega), bd1_some, hL, if_neg (show ¬ (112 : Int32) = 97 from by decide), if_neg (show ¬ (112 : Int32) = 104 from by decide), if_neg (show ¬ (112 : Int32) = 110 from by decide), if_pos rfl, nI_1, F, bd3_some, if_pos rfl, t_0]⟩
  · skip
    refine Or.inl ⟨p + 1, by omega, fun rec => ?_, fun nums => ?_⟩
    · rw [X, fu7, fl_0 hn (by omega) hl (by omega) (by omega) (show p + 1 < 2000 by omega) c0 f0]
    · skip
      obtain ⟨Q, E⟩ := rn1_no (idx := 0) (t := 2) h (show p + 1 < 1000 by omega) (by omega) ⟨by omega, by omega⟩ i0 nums
      have F : zf_X2_readsNumber m (nI n) (nI (p + 1)) nums 0 2 = some (0, nI (p + 1), Q) := E
      exact ⟨_, by rw [zf_X2_readsStatement, la_X2 h (show p < 2000 by omega), bd1_some, hL, if_neg (show ¬ (112 : Int32) = 97 from by decide), if_neg (show ¬ (112 : Int32) = 104 from by decide), if_neg (show ¬ (112 : Int32) = 110 from by decide), if_pos rfl, nI_1, F, bd3_some, if_pos rfl, t_0]⟩
theorem st_s {g m : Nat → Int32} {n p : Nat} (h : LG g m n) (hp : p < n) (hL : LE g n p = 115) : ST g m n p := by
  have hn := h.1
  have hf : zf_X1_formBehind (LE g n p) = some 2 := by rw [hL]; decide
  have X := fun rec => am_start (rec11 := rec) hn hp (show 2 < 3 by omega) hf
  have hl : zf_J0_length_8abf5 2 = some (nI 3) := form_len.2.2
  obtain ⟨c0, c1, c2⟩ := form_2
  rcases dig_cases (LE_rg h (p + 1)) with ⟨d0, h0, l0, f0, i0⟩ | ⟨f0, i0⟩
  · skip
    rcases dig_cases (LE_rg h (p + 1 + 1)) with ⟨d1, h1, l1, f1, i1⟩ | ⟨f1, i1⟩
    · skip
      rcases semi_cases (LE g n (p + 1 + 1 + 1)) with ⟨s2, f2⟩ | ⟨s2, f2⟩
      · skip
        have hq : p + 1 + 1 + 1 < n := LE_lt s2
        refine Or.inr ⟨3, 2, hf, by omega, hl, by omega, by omega, by omega, fun rec => ?_, fun nums => ?_⟩
        · rw [X, fu7, fl_1 hn (by omega) hl (by omega) (by omega) (show p + 1 < 2000 by omega) c0 f0, fl_1 hn (by omega) hl (by omega) (by omega) (show p + 1 + 1 < 2000 by omega) c1 f1, fl_1 hn (by omega) hl (by omega) (by omega) (show p + 1 + 1 + 1 < 2000 by omega) c2 f2, fl_e (by omega) hl]
        · skip
          obtain ⟨M0, E0, V0, O0⟩ := rn2_ok (idx := 0) h (show p + 1 < 1000 by omega) (by omega) l0 h0 i0 l1 h1 i1 nums
          have F0 : zf_X2_readsNumber m (nI n) (nI (p + 1)) nums 0 2 = some (1, nI (p + 1 + 1 + 1), M0) := E0
          refine ⟨M0, by rw [zf_X2_readsStatement, la_X2 h (show p < 2000 by omega), bd1_some, hL, if_neg (show ¬ (115 : Int32) = 97 from by decide), if_neg (show ¬ (115 : Int32) = 104 from by decide), if_neg (show ¬ (115 : Int32) = 110 from by decide), if_neg (show ¬ (115 : Int32) = 112 from by decide), if_pos rfl, nI_1, F0, bd3_some, t_ok h (show p + 1 + 1 + 1 < 1000 by omega) s2], fun N B r hN hB h2 => ?_⟩
          have a1 : nI p + 1 = nI (p + 1) := nI_1 p
          have a2 : nI p + 2 = nI (p + 1 + 1) := nI_add p 2
          have a3 : nI p + 3 = nI (p + 1 + 1 + 1) := nI_add p 3
          have a4 : nI p + 4 = nI (p + 1 + 1 + 1 + 1) := nI_add p 4
          rw [zf_X1_tellOne, la_X1 g hn (show p < 2000 by omega), bd1_some, hL, if_neg (show ¬ (115 : Int32) = 97 from by decide), if_neg (show ¬ (115 : Int32) = 104 from by decide), if_neg (show ¬ (115 : Int32) = 110 from by decide), if_neg (show ¬ (115 : Int32) = 112 from by decide), if_neg (show ¬ (115 : Int32) = 119 from by decide), a1, nm_X1 hn (show p + 1 < 900 by omega) l0 l1, bd1_some]
          exact ac_wrap (ac_s hB hN h2 V0)
      · skip
        refine Or.inl ⟨p + 1 + 1 + 1, by omega, fun rec => ?_, fun nums => ?_⟩
        · rw [X, fu7, fl_1 hn (by omega) hl (by omega) (by omega) (show p + 1 < 2000 by omega) c0 f0, fl_1 hn (by omega) hl (by omega) (by omega) (show p + 1 + 1 < 2000 by omega) c1 f1, fl_0 hn (by omega) hl (by omega) (by omega) (show p + 1 + 1 + 1 < 2000 by omega) c2 f2]
        · skip
          obtain ⟨M0, E0, V0, O0⟩ := rn2_ok (idx := 0) h (show p + 1 < 1000 by omega) (by omega) l0 h0 i0 l1 h1 i1 nums
          have F0 : zf_X2_readsNumber m (nI n) (nI (p + 1)) nums 0 2 = some (1, nI (p + 1 + 1 + 1), M0) := E0
          exact ⟨_, by rw [zf_X2_readsStatement, la_X2 h (show p < 2000 by omega), bd1_some, hL, if_neg (show ¬ (115 : Int32) = 97 from by decide), if_neg (show ¬ (115 : Int32) = 104 from by decide), if_neg (show ¬ (115 : Int32) = 110 from by decide), if_neg (show ¬ (115 : Int32) = 112 from by decide), if_pos rfl, nI_1, F0, bd3_some, t_no h (show p + 1 + 1 + 1 < 1000 by omega) s2]⟩
    · skip
      refine Or.inl ⟨p + 1 + 1, by omega, fun rec => ?_, fun nums => ?_⟩
      · rw [X, fu7, fl_1 hn (by omega) hl (by omega) (by omega) (show p + 1 < 2000 by omega) c0 f0, fl_0 hn (by omega) hl (by omega) (by omega) (show p + 1 + 1 < 2000 by omega) c1 f1]
      · skip
        obtain ⟨Q, E⟩ := rn2_no (idx := 0) h (show p + 1 < 1000 by omega) (by omega) l0 h0 i0 i1 nums
        have F : zf_X2_readsNumber m (nI n) (nI (p + 1)) nums 0 2 = some (0, nI (p + 1 + 1), Q) := E
        exact ⟨_, by rw [zf_X2_readsStatement, la_X2 h (show p < 2000 by omega), bd1_some, hL, if_neg (show ¬ (115 : Int32) = 97 from by decide), if_neg (show ¬ (115 : Int32) = 104 from by decide), if_neg (show ¬ (115 : Int32) = 110 from by decide), if_neg (show ¬ (115 : Int32) = 112 from by decide), if_pos rfl, nI_1, F, bd3_some, t_0]⟩
  · skip
    refine Or.inl ⟨p + 1, by omega, fun rec => ?_, fun nums => ?_⟩
    · rw [X, fu7, fl_0 hn (by omega) hl (by omega) (by omega) (show p + 1 < 2000 by omega) c0 f0]
    · skip
      obtain ⟨Q, E⟩ := rn1_no (idx := 0) (t := 2) h (show p + 1 < 1000 by omega) (by omega) ⟨by omega, by omega⟩ i0 nums
      have F : zf_X2_readsNumber m (nI n) (nI (p + 1)) nums 0 2 = some (0, nI (p + 1), Q) := E
      exact ⟨_, by rw [zf_X2_readsStatement, la_X2 h (show p < 2000 by omega), bd1_some, hL, if_neg (show ¬ (115 : Int32) = 97 from by decide), if_neg (show ¬ (115 : Int32) = 104 from by decide), if_neg (show ¬ (115 : Int32) = 110 from by decide), if_neg (show ¬ (115 : Int32) = 112 from by decide), if_pos rfl, nI_1, F, bd3_some, t_0]⟩
theorem st_w {g m : Nat → Int32} {n p : Nat} (h : LG g m n) (hp : p < n) (hL : LE g n p = 119) : ST g m n p := by
  have hn := h.1
  have hf : zf_X1_formBehind (LE g n p) = some 1 := by rw [hL]; decide
  have X := fun rec => am_start (rec11 := rec) hn hp (show 1 < 3 by omega) hf
  have hl : zf_J0_length_8abf5 1 = some (nI 4) := form_len.2.1
  obtain ⟨c0, c1, c2, c3⟩ := form_1
  rcases dig_cases (LE_rg h (p + 1)) with ⟨d0, h0, l0, f0, i0⟩ | ⟨f0, i0⟩
  · skip
    rcases dig_cases (LE_rg h (p + 1 + 1)) with ⟨d1, h1, l1, f1, i1⟩ | ⟨f1, i1⟩
    · skip
      rcases dig_cases (LE_rg h (p + 1 + 1 + 1)) with ⟨d2, h2', l2, f2, i2⟩ | ⟨f2, i2⟩
      · skip
        rcases semi_cases (LE g n (p + 1 + 1 + 1 + 1)) with ⟨s3, f3⟩ | ⟨s3, f3⟩
        · skip
          have hq : p + 1 + 1 + 1 + 1 < n := LE_lt s3
          refine Or.inr ⟨4, 1, hf, by omega, hl, by omega, by omega, by omega, fun rec => ?_, fun nums => ?_⟩
          · rw [X, fu7, fl_1 hn (by omega) hl (by omega) (by omega) (show p + 1 < 2000 by omega) c0 f0, fl_1 hn (by omega) hl (by omega) (by omega) (show p + 1 + 1 < 2000 by omega) c1 f1, fl_1 hn (by omega) hl (by omega) (by omega) (show p + 1 + 1 + 1 < 2000 by omega) c2 f2, fl_1 hn (by omega) hl (by omega) (by omega) (show p + 1 + 1 + 1 + 1 < 2000 by omega) c3 f3, fl_e (by omega) hl]
          · skip
            obtain ⟨M0, E0, V0, O0⟩ := rn2_ok (idx := 0) h (show p + 1 < 1000 by omega) (by omega) l0 h0 i0 l1 h1 i1 nums
            have F0 : zf_X2_readsNumber m (nI n) (nI (p + 1)) nums 0 2 = some (1, nI (p + 1 + 1 + 1), M0) := E0
            obtain ⟨M1, E1, V1, O1⟩ := rn1_ok (idx := 1) h (show p + 1 + 1 + 1 < 1000 by omega) (by omega) l2 h2' i2 M0
            have F1 : zf_X2_readsNumber m (nI n) (nI (p + 1 + 1 + 1)) M0 1 1 = some (1, nI (p + 1 + 1 + 1 + 1), M1) := E1
            refine ⟨M1, by rw [zf_X2_readsStatement, la_X2 h (show p < 2000 by omega), bd1_some, hL, if_neg (show ¬ (119 : Int32) = 97 from by decide), if_neg (show ¬ (119 : Int32) = 104 from by decide), if_neg (show ¬ (119 : Int32) = 110 from by decide), if_neg (show ¬ (119 : Int32) = 112 from by decide), if_neg (show ¬ (119 : Int32) = 115 from by decide), if_pos rfl, nI_1, F0, bd3_some, if_neg (show ¬ (1 : Int32) = 0 from by decide), F1, bd3_some, if_neg (show ¬ (1 : Int32) = 0 from by decide), t_ok h (show p + 1 + 1 + 1 + 1 < 1000 by omega) s3], fun N B r hN hB h2 => ?_⟩
            have a1 : nI p + 1 = nI (p + 1) := nI_1 p
            have a2 : nI p + 2 = nI (p + 1 + 1) := nI_add p 2
            have a3 : nI p + 3 = nI (p + 1 + 1 + 1) := nI_add p 3
            have a4 : nI p + 4 = nI (p + 1 + 1 + 1 + 1) := nI_add p 4
            rw [zf_X1_tellOne, la_X1 g hn (show p < 2000 by omega), bd1_some, hL, if_neg (show ¬ (119 : Int32) = 97 from by decide), if_neg (show ¬ (119 : Int32) = 104 from by decide), if_neg (show ¬ (119 : Int32) = 110 from by decide), if_neg (show ¬ (119 : Int32) = 112 from by decide), if_pos rfl, a1, a3, nm_X1 hn (show p + 1 < 900 by omega) l0 l1, bd1_some, dg_X1 hn (show p + 1 + 1 + 1 < 1000 by omega) l2, bd1_some]
            exact ac_wrap (ac_w hB hN h2 h2' ((O1 0 (by omega)).trans V0) V1)
        · skip
          refine Or.inl ⟨p + 1 + 1 + 1 + 1, by omega, fun rec => ?_, fun nums => ?_⟩
          · rw [X, fu7, fl_1 hn (by omega) hl (by omega) (by omega) (show p + 1 < 2000 by omega) c0 f0, fl_1 hn (by omega) hl (by omega) (by omega) (show p + 1 + 1 < 2000 by omega) c1 f1, fl_1 hn (by omega) hl (by omega) (by omega) (show p + 1 + 1 + 1 < 2000 by omega) c2 f2, fl_0 hn (by omega) hl (by omega) (by omega) (show p + 1 + 1 + 1 + 1 < 2000 by omega) c3 f3]
          · skip
            obtain ⟨M0, E0, V0, O0⟩ := rn2_ok (idx := 0) h (show p + 1 < 1000 by omega) (by omega) l0 h0 i0 l1 h1 i1 nums
            have F0 : zf_X2_readsNumber m (nI n) (nI (p + 1)) nums 0 2 = some (1, nI (p + 1 + 1 + 1), M0) := E0
            obtain ⟨M1, E1, V1, O1⟩ := rn1_ok (idx := 1) h (show p + 1 + 1 + 1 < 1000 by omega) (by omega) l2 h2' i2 M0
            have F1 : zf_X2_readsNumber m (nI n) (nI (p + 1 + 1 + 1)) M0 1 1 = some (1, nI (p + 1 + 1 + 1 + 1), M1) := E1
            exact ⟨_, by rw [zf_X2_readsStatement, la_X2 h (show p < 2000 by omega), bd1_some, hL, if_neg (show ¬ (119 : Int32) = 97 from by decide), if_neg (show ¬ (119 : Int32) = 104 from by decide), if_neg (show ¬ (119 : Int32) = 110 from by decide), if_neg (show ¬ (119 : Int32) = 112 from by decide), if_neg (show ¬ (119 : Int32) = 115 from by decide), if_pos rfl, nI_1, F0, bd3_some, if_neg (show ¬ (1 : Int32) = 0 from by decide), F1, bd3_some, if_neg (show ¬ (1 : Int32) = 0 from by decide), t_no h (show p + 1 + 1 + 1 + 1 < 1000 by omega) s3]⟩
      · skip
        refine Or.inl ⟨p + 1 + 1 + 1, by omega, fun rec => ?_, fun nums => ?_⟩
        · rw [X, fu7, fl_1 hn (by omega) hl (by omega) (by omega) (show p + 1 < 2000 by omega) c0 f0, fl_1 hn (by omega) hl (by omega) (by omega) (show p + 1 + 1 < 2000 by omega) c1 f1, fl_0 hn (by omega) hl (by omega) (by omega) (show p + 1 + 1 + 1 < 2000 by omega) c2 f2]
        · skip
          obtain ⟨M0, E0, V0, O0⟩ := rn2_ok (idx := 0) h (show p + 1 < 1000 by omega) (by omega) l0 h0 i0 l1 h1 i1 nums
          have F0 : zf_X2_readsNumber m (nI n) (nI (p + 1)) nums 0 2 = some (1, nI (p + 1 + 1 + 1), M0) := E0
          obtain ⟨Q, E⟩ := rn1_no (idx := 1) (t := 1) h (show p + 1 + 1 + 1 < 1000 by omega) (by omega) ⟨by omega, by omega⟩ i2 M0
          have F : zf_X2_readsNumber m (nI n) (nI (p + 1 + 1 + 1)) M0 1 1 = some (0, nI (p + 1 + 1 + 1), Q) := E
          exact ⟨_, by rw [zf_X2_readsStatement, la_X2 h (show p < 2000 by omega), bd1_some, hL, if_neg (show ¬ (119 : Int32) = 97 from by decide), if_neg (show ¬ (119 : Int32) = 104 from by decide), if_neg (show ¬ (119 : Int32) = 110 from by decide), if_neg (show ¬ (119 : Int32) = 112 from by decide), if_neg (show ¬ (119 : Int32) = 115 from by decide), if_pos rfl, nI_1, F0, bd3_some, if_neg (show ¬ (1 : Int32) = 0 from by decide), F, bd3_some, if_pos rfl, t_0]⟩
    · skip
      refine Or.inl ⟨p + 1 + 1, by omega, fun rec => ?_, fun nums => ?_⟩
      · rw [X, fu7, fl_1 hn (by omega) hl (by omega) (by omega) (show p + 1 < 2000 by omega) c0 f0, fl_0 hn (by omega) hl (by omega) (by omega) (show p + 1 + 1 < 2000 by omega) c1 f1]
      · skip
        obtain ⟨Q, E⟩ := rn2_no (idx := 0) h (show p + 1 < 1000 by omega) (by omega) l0 h0 i0 i1 nums
        have F : zf_X2_readsNumber m (nI n) (nI (p + 1)) nums 0 2 = some (0, nI (p + 1 + 1), Q) := E
        exact ⟨_, by rw [zf_X2_readsStatement, la_X2 h (show p < 2000 by omega), bd1_some, hL, if_neg (show ¬ (119 : Int32) = 97 from by decide), if_neg (show ¬ (119 : Int32) = 104 from by decide), if_neg (show ¬ (119 : Int32) = 110 from by decide), if_neg (show ¬ (119 : Int32) = 112 from by decide), if_neg (show ¬ (119 : Int32) = 115 from by decide), if_pos rfl, nI_1, F, bd3_some, if_pos rfl, t_0]⟩
  · skip
    refine Or.inl ⟨p + 1, by omega, fun rec => ?_, fun nums => ?_⟩
    · rw [X, fu7, fl_0 hn (by omega) hl (by omega) (by omega) (show p + 1 < 2000 by omega) c0 f0]
    · skip
      obtain ⟨Q, E⟩ := rn1_no (idx := 0) (t := 2) h (show p + 1 < 1000 by omega) (by omega) ⟨by omega, by omega⟩ i0 nums
      have F : zf_X2_readsNumber m (nI n) (nI (p + 1)) nums 0 2 = some (0, nI (p + 1), Q) := E
      exact ⟨_, by rw [zf_X2_readsStatement, la_X2 h (show p < 2000 by omega), bd1_some, hL, if_neg (show ¬ (119 : Int32) = 97 from by decide), if_neg (show ¬ (119 : Int32) = 104 from by decide), if_neg (show ¬ (119 : Int32) = 110 from by decide), if_neg (show ¬ (119 : Int32) = 112 from by decide), if_neg (show ¬ (119 : Int32) = 115 from by decide), if_pos rfl, nI_1, F, bd3_some, if_pos rfl, t_0]⟩
