/-! the pure side, 11: lots, what the rows tell, the mean -/
theorem draw_eq (sd : Int32) {d : Nat} (h0 : 0 < d) (hd : d < 31) : ∃ j, j < d ∧ zf_X1_draw sd (nI d) = some (nI j, sd * 1664525 + 1013904223) ∧ zf_X2_drawn sd (nI d) = some (nI j, sd * 1664525 + 1013904223) := by
  obtain ⟨n, hn, e⟩ := pk_andE (sd * 1664525 + 1013904223) (m := 2147483647) 31 (by decide)
  refine ⟨n / 256 % d, Nat.mod_lt _ h0, ?_, ?_⟩
  · rw [zf_X1_draw, if_neg (nI_nle h0 (by omega)), if_neg (nI_ne0 h0 (by omega)), e, l256, pk_div hn (by omega) (by omega), jr_nI (by omega) h0 (by omega)]
  · rw [zf_X2_drawn, if_neg (nI_ne0 h0 (by omega)), e, l256, pk_div hn (by omega) (by omega), jr_nI (by omega) h0 (by omega)]
theorem draw_loop {N : Nat} (hN : N < 5) {rec52 : Int32 → Int32 → (Nat → Int32) → Int32 → Option (Int32 × (Nat → Int32) × (Nat → Int32) × Int32)} {v3 v4 v5 : Int32} {ms : Nat → Int32} (h0 : ms 0 = nI N) : ∀ (d fu fu' i : Nat) (B : BT) (r : Nat → Int32) (sd : Int32), i + d = N → d < fu → d < fu' → RBN N B r →
    ∃ B' r' sd', zl3 zf_X1_drawPeople_b2 fu (nI i) B sd = some (B', sd') ∧ zl3 (zf_X2_lots_b72 rec52 v3 v4 v5 ms) fu' (nI i) r sd = zf_X2_lots_j122 rec52 v3 v4 v5 ms r' sd' ∧ RBN N B' r' ∧ r' 2 = r 2 := by
  intro d
  induction d with
  | zero =>
    intro fu fu' i B r sd hi hf hf' h
    obtain ⟨fu, rfl⟩ : ∃ x, fu = x + 1 := ⟨fu - 1, by omega⟩
    obtain ⟨fu', rfl⟩ : ∃ x, fu' = x + 1 := ⟨fu' - 1, by omega⟩
    have e : i = N := by omega
    subst e
    refine ⟨B, r, sd, ?_, ?_, h, rfl⟩
    · rw [zl3_s, zf_X1_drawPeople_b2, zf_X0_peopleCount, bd1_some, h.1, if_pos (Int32.le_refl _)]
    · rw [zl3_s, zf_X2_lots_b72, cl0, h0, if_pos (Int32.le_refl _)]
  | succ d ih =>
    intro fu fu' i B r sd hi hf hf' h
    obtain ⟨fu, rfl⟩ : ∃ x, fu = x + 1 := ⟨fu - 1, by omega⟩
    obtain ⟨fu', rfl⟩ : ∃ x, fu' = x + 1 := ⟨fu' - 1, by omega⟩
    have hiN : i < N := by omega
    have hv : ¬ nI N ≤ nI i := lim hiN (by omega)
    obtain ⟨a, ha, a1, a2⟩ := draw_eq sd (d := 30) (by omega) (by omega)
    obtain ⟨b, hb, b1, b2⟩ := draw_eq (sd * 1664525 + 1013904223) (d := 4) (by omega) (by omega)
    have h3 := RBN_place h hN hiN (rg_nI ha)
    have h4 := RBN_heading h3 hN hiN (rg_nI hb)
    obtain ⟨B', r', sd', q1, q2, q3, q4⟩ := ih fu fu' (i + 1) _ _ ((sd * 1664525 + 1013904223) * 1664525 + 1013904223) (by omega) (by omega) (by omega) h4
    obtain ⟨x0, y0, z0⟩ := px0 (p := i) (by omega)
    obtain ⟨x1, y1, z1⟩ := px1 (p := i) (by omega)
    refine ⟨B', r', sd', ?_, ?_, q3, ?_⟩
    · rw [zl3_s, zf_X1_drawPeople_b2, zf_X0_peopleCount, bd1_some, h.1, if_neg hv, l30, a1, bd2_some, putPlace_in h.1 hN hiN, bd1_some, l4, b1, bd2_some, putHeading_in h3.1 hN hiN, bd1_some, nI_1]
      exact q1
    · rw [zl3_s, zf_X2_lots_b72, cl0, h0, if_neg hv, of_0, bd1_some, l30, a2, bd2_some, if_neg (nI_in (c := 93 + 3 * i) (N := 105) (by omega) (by omega)), of_1, bd1_some, l4, b2, bd2_some, if_neg (nI_in (c := 94 + 3 * i) (N := 105) (by omega) (by omega)), z0, z1, nI_1]
      exact q2
    · rw [q4, up_n (by omega), up_n (by omega)]
theorem stuck_loop {N : Nat} {B : BT} {r : Nat → Int32} (h : RBN N B r) (hN : N < 5) {rec52 : Int32 → Int32 → (Nat → Int32) → Int32 → Option (Int32 × (Nat → Int32) × (Nat → Int32) × Int32)} {v5 sd : Int32} {ms : Nat → Int32} (h0 : ms 0 = nI N) : ∀ (d fu fu' i : Nat), i + d = N → d < fu → d < fu' →
    ∃ c, (∀ x, zl2 (zf_X0_stuckPeople_b4 B) fu x (nI i) = some (x + c)) ∧ ∀ y, zl2 (zf_X2_lots_b162 rec52 1 v5 ms r sd) fu' y (nI i) = rec52 (y + c) (v5 + 1) r sd := by
  intro d
  induction d with
  | zero =>
    intro fu fu' i hi hf hf'
    obtain ⟨fu, rfl⟩ : ∃ x, fu = x + 1 := ⟨fu - 1, by omega⟩
    obtain ⟨fu', rfl⟩ : ∃ x, fu' = x + 1 := ⟨fu' - 1, by omega⟩
    have e : i = N := by omega
    subst e
    refine ⟨0, fun x => ?_, fun y => ?_⟩
    · rw [zl2_s, zf_X0_stuckPeople_b4, h.1, if_pos (Int32.le_refl _), Int32.add_zero]
    · rw [zl2_s, zf_X2_lots_b162, cl0, h0, if_pos (Int32.le_refl _), Int32.add_zero]
  | succ d ih =>
    intro fu fu' i hi hf hf'
    obtain ⟨fu, rfl⟩ : ∃ x, fu = x + 1 := ⟨fu - 1, by omega⟩
    obtain ⟨fu', rfl⟩ : ∃ x, fu' = x + 1 := ⟨fu' - 1, by omega⟩
    have hiN : i < N := by omega
    have hv : ¬ nI N ≤ nI i := lim hiN (by omega)
    obtain ⟨c, q1, q2⟩ := ih fu fu' (i + 1) (by omega) (by omega) (by omega)
    obtain ⟨a1, -, -, ⟨a, ha, ea⟩, -⟩ := h.2.2.1 i hiN
    have sa : r (93 + 3 * i) = nI a := a1.symm.trans ea
    have k3 := (h.2.2.2.2 a ha).2.2.1
    obtain ⟨x0, y0, z0⟩ := px0 (p := i) (by omega)
    have E2 : ∀ y, zl2 (zf_X2_lots_b162 rec52 1 v5 ms r sd) (fu' + 1) y (nI i) = if (if r (63 + a) = 0 then (1 : Int32) else 0) = 0 then zl2 (zf_X2_lots_b162 rec52 1 v5 ms r sd) fu' (y + 0) (nI (i + 1)) else zl2 (zf_X2_lots_b162 rec52 1 v5 ms r sd) fu' (y + 1) (nI (i + 1)) := by
      intro y
      rw [zl2_s, zf_X2_lots_b162, cl0, h0, if_neg hv, if_pos rfl, of_0, bd1_some, if_neg (nI_in (c := 93 + 3 * i) (N := 105) (by omega) (by omega)), z0, sa, isDry_in r ha, bd1_some, nI_1]
    by_cases c0 : bt_wet B a = 0
    · refine ⟨1 + c, fun x => ?_, fun y => ?_⟩
      · rw [zl2_s, zf_X0_stuckPeople_b4, h.1, if_neg hv, placeOf_in h.1 hN hiN, bd1_some, ea, wetOf_in ha, bd1_some, if_pos c0, nI_1, q1, Int32.add_assoc]
      · rw [E2, if_pos (show r (63 + a) = 0 from k3.symm.trans c0), if_neg (by decide), q2, Int32.add_assoc]
    · refine ⟨c, fun x => ?_, fun y => ?_⟩
      · rw [zl2_s, zf_X0_stuckPeople_b4, h.1, if_neg hv, placeOf_in h.1 hN hiN, bd1_some, ea, wetOf_in ha, bd1_some, if_neg c0, nI_1, q1]
      · rw [E2, if_neg (show ¬ r (63 + a) = 0 from fun z => c0 (k3.trans z)), if_pos rfl, Int32.add_zero, q2]
theorem lots_0 (rec52 : Int32 → Int32 → (Nat → Int32) → Int32 → Option (Int32 × (Nat → Int32) × (Nat → Int32) × Int32)) (v5 sd y : Int32) (ms r : Nat → Int32) : zl2 (zf_X2_lots_b162 rec52 0 v5 ms r sd) zb_FU y 0 = rec52 y (v5 + 1) r sd := by
  rw [fu5, zl2_s, zf_X2_lots_b162]
  by_cases c : ms (0 : Int32).toNatClampNeg ≤ 0
  · rw [if_pos c]
  · rw [if_neg c, if_neg (by decide)]
theorem lots_loop {N k : Nat} {B0 : BT} {s g m : Nat → Int32} (h0 : RBN N B0 s) (h2 : s 2 = 0) (hN : N < 5) (hk : k ≤ 20) (hR : RR g m) (v3 : Int32) (hv3 : v3 = 0 ∨ v3 = 1) (x : Int32 × BT × Int32) (y : Int32 × (Nat → Int32) × Int32) (hxy : x.1 = y.1 ∧ x.2.2 = y.2.2) :
    Ok (fun a b => a.1 = b.1 ∧ RR a.2.2.1 b.2.2.1) (zl4 (zf_X1_lots_b48 (nI k) v3 B0 g) zb_FU x.1 (nI 0) x.2.1 x.2.2) (zl4 (zf_X2_lots_b52 (nI k) v3 s m) zb_FU y.1 (nI 0) y.2.1 y.2.2) := by
  refine lpg (n := k) (F := fun fu i (x : Int32 × BT × Int32) => zl4 (zf_X1_lots_b48 (nI k) v3 B0 g) fu x.1 (nI i) x.2.1 x.2.2) (G := fun fu i (x : Int32 × (Nat → Int32) × Int32) => zl4 (zf_X2_lots_b52 (nI k) v3 s m) fu x.1 (nI i) x.2.1 x.2.2) (fun _ x y => x.1 = y.1 ∧ x.2.2 = y.2.2) ?_ ?_ k zb_FU zb_FU 0 x y (by omega) (fu_lt (by omega)) (fu_lt (by omega)) hxy
  · rintro fu fu' ⟨x, B, sd⟩ ⟨y, q, sd'⟩ ⟨e, e'⟩
    try dsimp only at e e' ⊢
    rw [zl4_s, zl4_s, zf_X1_lots_b48, zf_X2_lots_b52, if_pos (Int32.le_refl _), if_pos (Int32.le_refl _)]
    exact ok ⟨e, hR⟩
  · rintro fu fu' i ⟨x, B, sd⟩ ⟨y, q, sd'⟩ hi ⟨e, e'⟩ ih
    try dsimp only at e e' ih ⊢
    subst e
    subst e'
    have hv : ¬ nI k ≤ nI i := lim hi (by omega)
    obtain ⟨B1, q1, e1, e2, e3, e4⟩ := becomes_copies (B := B) (q := q) h0 hN
    obtain ⟨B2, q2, sd2, d1, d2, d3, d4⟩ := draw_loop hN (rec52 := zl4 (zf_X2_lots_b52 (nI k) v3 s m) fu') (v3 := v3) (v4 := x) (v5 := nI i) h0.2.1 N zb_FU zb_FU 0 B1 q1 sd (by omega) (fu_lt (by omega)) (fu_lt (by omega)) e3
    obtain ⟨B3, q3, f1, f2, f3, f4⟩ := goOn_n (st := 0) (n := 12) d3 hN (SA0' (d4.trans (e4.trans h2))) (by omega)
    have E1 : zl4 (zf_X1_lots_b48 (nI k) v3 B0 g) (fu + 1) x (nI i) B sd = if v3 = 0 then (bd1 (zf_X0_allHelped B3) fun r9 => bd1 (zf_X0_allHelped B0) fun r10 => zl4 (zf_X1_lots_b48 (nI k) v3 B0 g) fu (x + (r9 - r10)) (nI (i + 1)) B3 sd2) else (bd1 (zf_X0_stuckPeople B3) fun r8 => zl4 (zf_X1_lots_b48 (nI k) v3 B0 g) fu (x + r8) (nI (i + 1)) B3 sd2) := by
      have d1' : zf_X1_drawPeople B1 sd = some (B2, sd2) := d1
      rw [zl4_s, zf_X1_lots_b48, if_neg hv, e1, bd1_some, d1', bd2_some, l12, f1, bd1_some, nI_1]
    have E2 : zl4 (zf_X2_lots_b52 (nI k) v3 s m) (fu' + 1) x (nI i) q sd = if v3 = 0 then (bd1 (zf_X2_allHelped q3) fun r6 => bd1 (zf_X2_allHelped s) fun r7 => zl2 (zf_X2_lots_b162 (zl4 (zf_X2_lots_b52 (nI k) v3 s m) fu') v3 (nI i) s q3 sd2) zb_FU (x + (r6 - r7)) 0) else zl2 (zf_X2_lots_b162 (zl4 (zf_X2_lots_b52 (nI k) v3 s m) fu') v3 (nI i) s q3 sd2) zb_FU (x + 0) 0 := by
      rw [zl4_s, zf_X2_lots_b52, if_neg hv, e2, bd1_some]
      refine d2.trans ?_
      rw [zf_X2_lots_j122, l12, f2, bd1_some]
    rw [E1, E2]
    rcases hv3 with rfl | rfl
    · obtain ⟨u, _, u1, u2, rfl⟩ := allHelped_ok f3 hN
      obtain ⟨w, _, w1, w2, rfl⟩ := allHelped_ok h0 hN
      rw [if_pos rfl, if_pos rfl, u1, u2, w1, w2, bd1_some, bd1_some, bd1_some, bd1_some, lots_0, nI_1]
      exact ih (_, _, _) (_, _, _) ⟨rfl, rfl⟩
    · obtain ⟨c, c1, c2⟩ := stuck_loop f3 hN (rec52 := zl4 (zf_X2_lots_b52 (nI k) 1 s m) fu') (v5 := nI i) (sd := sd2) h0.2.1 N zb_FU zb_FU 0 (by omega) (fu_lt (by omega)) (fu_lt (by omega))
      have c1' : zf_X0_stuckPeople B3 = some (0 + c) := c1 0
      have c2' := c2 x
      rw [if_neg (by decide), if_neg (by decide), c1', bd1_some, Int32.zero_add, Int32.add_zero]
      refine Eq.subst (motive := fun z => Ok _ _ z) c2'.symm ?_
      rw [nI_1]
      exact ih (_, _, _) (_, _, _) ⟨rfl, rfl⟩
theorem sim_lots {B M : BT} {s q g m : Nat → Int32} (hN : RN B s) (hR : RR g m) (gs ms v1 v2 v3 : Int32) : Ok (fun a b => a.1 = b.1 ∧ RR a.2.2.1 b.2.2.1) (zf_X1_lots B M g gs v1 v2 v3) (zf_X2_lots s q m ms v1 v2 v3) := by
  obtain ⟨⟨N, hN5, h⟩, h2⟩ := hN
  obtain ⟨g2, m2, r1, r2, r3⟩ := rf2 hR
  rw [zf_X1_lots, zf_X2_lots]
  rcases out_cases v1 1 20 (by omega) (by omega) with ⟨k, k1, k2, rfl, o⟩ | ⟨o, o1, o2⟩ | ⟨o, o1⟩
  · have o : zf_X1_outside (nI k) 1 20 = some 0 := o
    have t1 : (1 : Int32) ≤ nI k := nI_le (a := 1) k1 (by omega)
    have t2 : nI k ≤ (20 : Int32) := nI_le (b := 20) k2 (by omega)
    rw [o, bd1_some, if_pos rfl, if_pos t1, if_pos t2]
    rcases what1 v3 with c | ⟨c0, c⟩ | rfl | rfl
    · rw [if_pos c, isIn_lo c, bd1_some, if_pos rfl, r1, r2]
      exact ok ⟨rfl, r3⟩
    · rw [if_neg (not_lt0 c0), if_neg (gt_le c), isIn_hi c, bd1_some, if_pos rfl, r1, r2]
      exact ok ⟨rfl, r3⟩
    · rw [if_neg (by decide), if_pos (by decide), show zf_X2_isIn (nI 0) 0 1 = some 1 from isIn_in (a := 0) (n := 1) (by omega) (by omega) (by omega), bd1_some, if_neg (by decide)]
      exact lots_loop h h2 hN5 k2 hR 0 (Or.inl rfl) (0, M, v2) (0, q, v2) ⟨rfl, rfl⟩
    · rw [if_neg (by decide), if_pos (by decide), show zf_X2_isIn (nI 1) 0 1 = some 1 from isIn_in (a := 0) (n := 1) (by omega) (by omega) (by omega), bd1_some, if_neg (by decide)]
      exact lots_loop h h2 hN5 k2 hR 1 (Or.inr rfl) (0, M, v2) (0, q, v2) ⟨rfl, rfl⟩
  · have o : zf_X1_outside v1 1 20 = some (-6) := o
    obtain ⟨g', m', q1, q2, q3⟩ := rf6 hR
    rw [o, bd1_some, if_neg (by decide), if_pos (show (1 : Int32) ≤ v1 from o1), if_neg (gt_le (show (20 : Int32) < v1 from o2)), q1, q2]
    exact ok ⟨rfl, q3⟩
  · have o : zf_X1_outside v1 1 20 = some (-4) := o
    obtain ⟨g', m', q1, q2, q3⟩ := rf4 hR
    rw [o, bd1_some, if_neg (by decide), if_neg (show ¬ (1 : Int32) ≤ v1 from o1), q1, q2]
    exact ok ⟨rfl, q3⟩
