/-! the pure side, 12: the mean, what the rows tell -/
theorem lz {a : Nat} (h : a < 2 ^ 63) : (lg_cmp (lN a) 0 = 0) = (a = 0) := by
  rw [lg_cmp_eq, show (0 : Int64) = lN 0 from rfl, pk_lEQ h (by omega)]
theorem lz' {a : Nat} (h : a < 2 ^ 63) : (lN a = 0) = (a = 0) := by
  rw [show (0 : Int64) = lN 0 from rfl, pk_lEQ h (by omega)]
theorem gcd_loops : ∀ (k x y i fu fu' : Nat), x < 2 ^ 62 → y < 2 ^ k → k < 62 → i + 2 * k + 1 < 199 → 2 * k + 1 < fu → 2 * k + 1 < fu' →
    zl3 zf_X1_commonDivisor_b9 fu (lN x) (lN y) (nI i) = some (lN (Nat.gcd y x)) ∧ zl2 zf_X2_gcd_b6 fu' (lN x) (lN y) = some (lN (Nat.gcd y x)) := by
  intro k
  induction k with
  | zero =>
    intro x y i fu fu' hx hy hk hi hf hf'
    obtain ⟨fu, rfl⟩ : ∃ z, fu = z + 1 := ⟨fu - 1, by omega⟩
    obtain ⟨fu', rfl⟩ : ∃ z, fu' = z + 1 := ⟨fu' - 1, by omega⟩
    have e : y = 0 := by omega
    subst e
    have c : (lg_cmp (lN 0) 0 = 0) := by rw [lz (by omega)]
    have hv : ¬ (200 : Int32) ≤ nI i := lim (N := 200) (by omega) (by omega)
    rw [zl3_s, zf_X1_commonDivisor_b9, if_neg hv, if_pos c, zl2_s, zf_X2_gcd_b6, if_pos c, Nat.gcd_zero_left]
    exact ⟨rfl, rfl⟩
  | succ k ih =>
    intro x y i fu fu' hx hy hk hi hf hf'
    obtain ⟨fu, rfl⟩ : ∃ z, fu = z + 1 + 1 := ⟨fu - 2, by omega⟩
    obtain ⟨fu', rfl⟩ : ∃ z, fu' = z + 1 + 1 := ⟨fu' - 2, by omega⟩
    have hp : 2 ^ (k + 1) ≤ 2 ^ 62 := Nat.pow_le_pow_right (by omega) (by omega)
    have h62 : y < 2 ^ 62 := by omega
    have hv : ¬ (200 : Int32) ≤ nI i := lim (N := 200) (by omega) (by omega)
    by_cases c : y = 0
    · subst c
      have c : (lg_cmp (lN 0) 0 = 0) := by rw [lz (by omega)]
      rw [zl3_s, zf_X1_commonDivisor_b9, if_neg hv, if_pos c, zl2_s, zf_X2_gcd_b6, if_pos c, Nat.gcd_zero_left]
      exact ⟨rfl, rfl⟩
    have hv' : ¬ (200 : Int32) ≤ nI (i + 1) := lim (N := 200) (by omega) (by omega)
    have c1 : ¬ lg_cmp (lN y) 0 = 0 := by rw [lz (by omega)]; exact c
    have c2 : ¬ lN y = 0 := by rw [lz' (by omega)]; exact c
    have m1 : x % y < y := Nat.mod_lt _ (by omega)
    rw [zl3_s, zf_X1_commonDivisor_b9, if_neg hv, if_neg c1, if_neg c2, zl2_s, zf_X2_gcd_b6, if_neg c1, if_neg c2, nI_1, show jrL (lN x) (lN y) = lN (x % y) from pk_lRem (by omega) (by omega) (by omega)]
    by_cases d : x % y = 0
    · have d1 : (lg_cmp (lN (x % y)) 0 = 0) := by rw [lz (by omega)]; exact d
      rw [zl3_s, zf_X1_commonDivisor_b9, if_neg hv', if_pos d1, zl2_s, zf_X2_gcd_b6, if_pos d1, Nat.gcd_rec, d, Nat.gcd_zero_left]
      exact ⟨rfl, rfl⟩
    have d1 : ¬ lg_cmp (lN (x % y)) 0 = 0 := by rw [lz (by omega)]; exact d
    have d2 : ¬ lN (x % y) = 0 := by rw [lz' (by omega)]; exact d
    have half : y % (x % y) < 2 ^ k := by
      have m2 : y % (x % y) < x % y := Nat.mod_lt _ (by omega)
      have m3 : y % (x % y) ≤ y - x % y := by
        rw [Nat.mod_eq_sub_mod (by omega)]; exact Nat.mod_le _ _
      have : 2 ^ (k + 1) = 2 * 2 ^ k := by rw [Nat.pow_succ]; omega
      omega
    rw [zl3_s, zf_X1_commonDivisor_b9, if_neg hv', if_neg d1, if_neg d2, zl2_s, zf_X2_gcd_b6, if_neg d1, if_neg d2, nI_1, show jrL (lN y) (lN (x % y)) = lN (y % (x % y)) from pk_lRem (by omega) (by omega) (by omega)]
    have r := ih (x % y) (y % (x % y)) (i + 1 + 1) fu fu' (by omega) half (by omega) (by omega) (by omega) (by omega)
    rw [← Nat.gcd_rec, ← Nat.gcd_rec] at r
    exact r
theorem part_eq {a b : Nat} (ha : a < 2 ^ 62) (hb : b < 2 ^ 40) (h0 : 0 < b) (w : Int32) (hw : w = 0 ∨ w = 1) : ∃ z, zf_X1_partOf (lN a) (lN b) w = some z ∧ zf_X2_partOf (lN a) (lN b) w = some z := by
  obtain ⟨g1, g2⟩ := gcd_loops 40 a b 0 zb_FU zb_FU ha hb (by omega) (by omega) (fu_lt (by omega)) (fu_lt (by omega))
  have hg : 0 < Nat.gcd b a := Nat.gcd_pos_of_pos_left _ h0
  have hl : Nat.gcd b a ≤ b := Nat.gcd_le_left _ h0
  have hp : 2 ^ 40 < 2 ^ 62 := by omega
  have k1 : zf_X1_commonDivisor (lN a) (lN b) = some (lN (Nat.gcd b a)) := g1
  have k2 : zf_X2_gcd (lN a) (lN b) = some (lN (Nat.gcd b a)) := g2
  have c1 : ¬ lg_cmp (lN (Nat.gcd b a)) 0 = 0 := by rw [lz (by omega)]; omega
  have c2 : ¬ lN (Nat.gcd b a) = 0 := by rw [lz' (by omega)]; omega
  rw [zf_X1_partOf, k1, bd1_some, if_neg c1, if_neg c2, if_neg c2, zf_X2_partOf, k2, bd1_some, bd1_some, if_neg c2, if_neg c2]
  by_cases d : a = 0
  · subst d
    have d1 : lg_cmp (lN 0) 0 = 0 := by rw [lz (by omega)]
    rw [if_pos d1, Nat.gcd_zero_right, pk_lDiv (by omega) h0 (by omega), pk_lDiv (by omega) h0 (by omega), Nat.zero_div, Nat.div_self h0]
    rcases hw with rfl | rfl
    · exact ⟨_, rfl, rfl⟩
    · exact ⟨_, rfl, rfl⟩
  · have d1 : ¬ lg_cmp (lN a) 0 = 0 := by rw [lz (by omega)]; exact d
    rw [if_neg d1]
    by_cases e : w = 0
    · rw [if_pos e]; exact ⟨_, rfl, rfl⟩
    · rw [if_neg e]; exact ⟨_, rfl, rfl⟩
theorem sm_rg {f : Nat → Int32} : ∀ n, (∀ k, k < n → rg (f k) 10) → ∃ w, w ≤ 9 * n ∧ sm f n = nI w := by
  intro n
  induction n with
  | zero => exact fun _ => ⟨0, by omega, rfl⟩
  | succ n ih =>
    intro h
    obtain ⟨w, h1, h2⟩ := ih (fun k hk => h k (by omega))
    obtain ⟨j, hj, e⟩ := h n (by omega)
    exact ⟨w + j, by omega, by rw [sm_s, h2, e, nI_add]⟩
theorem rfW {g m g' m' : Nat → Int32} {c : Int32} (h1 : zf_X1_refuse g c = some (c, g')) (h2 : zf_X2_no m c = some (c, m')) : zf_X1_refuseLong g c = some (4000000000000000000 - c.toInt64, g') ∧ zf_X2_noWide m c = some (4000000000000000000 - c.toInt64, m') := by
  rw [zf_X1_refuseLong, zf_X2_noWide, h1, h2]; exact ⟨rfl, rfl⟩
theorem sim_mean {B : BT} {s g m : Nat → Int32} (hN : RN B s) (hR : RR g m) (v1 : Int32) : Ok (fun a b => a.1 = b.1 ∧ RR a.2 b.2) (zf_X1_mean B g v1) (zf_X2_mean s m v1) := by
  obtain ⟨⟨N, hN5, h⟩, h2⟩ := hN
  obtain ⟨g2, m2, r1, r2, r3⟩ := rf2 hR
  obtain ⟨r1, r2⟩ := rfW r1 r2
  obtain ⟨e1, e2⟩ := allWet_eq h
  obtain ⟨w, hw, e3⟩ := sm_rg 30 (fun k hk => (h.2.2.2.2 k hk).2.2.2.2)
  have e4 : (nI w).toInt64 = lN w := nI_l (by omega)
  have P : ∀ v, (v = 0 ∨ v = 1) → ∃ z, zf_X1_partOf (lN w) 30 v = some z ∧ zf_X2_partOf (lN w) 30 v = some z := fun v hv => part_eq (a := w) (b := 30) (by omega) (by omega) (by omega) v hv
  rw [zf_X1_mean, zf_X2_mean]
  rcases what1 v1 with c | ⟨c0, c⟩ | rfl | rfl
  · rw [if_pos c, isIn_lo c, bd1_some, if_pos rfl, r1, r2]
    exact ok ⟨rfl, r3⟩
  · rw [if_neg (not_lt0 c0), if_neg (gt_le c), isIn_hi c, bd1_some, if_pos rfl, r1, r2]
    exact ok ⟨rfl, r3⟩
  · obtain ⟨z, z1, z2⟩ := P (nI 0) (Or.inl rfl)
    rw [if_neg (by decide), if_pos (by decide), show zf_X2_isIn (nI 0) 0 1 = some 1 from isIn_in (a := 0) (n := 1) (by omega) (by omega) (by omega), bd1_some, if_neg (by decide), e1, e2, bd1_some, bd1_some, e3, e4, z1, z2]
    exact ok ⟨rfl, hR⟩
  · obtain ⟨z, z1, z2⟩ := P (nI 1) (Or.inr rfl)
    rw [if_neg (by decide), if_pos (by decide), show zf_X2_isIn (nI 1) 0 1 = some 1 from isIn_in (a := 0) (n := 1) (by omega) (by omega) (by omega), bd1_some, if_neg (by decide), e1, e2, bd1_some, bd1_some, e3, e4, z1, z2]
    exact ok ⟨rfl, hR⟩
/-! what the rows tell -/
theorem dead_rows {N p n : Nat} {tm : Nat → Int32} (hN : N < 5) (hp : p < N) (hn : n ≤ 16) {rec37 : Int32 → Int32 → (Nat → Int32) → Option (Int32 × (Nat → Int32) × (Nat → Int32))} {v4 v5 : Int32} : ∀ (d fu i : Nat) (B : BT) (r : Nat → Int32), i + d = n → d < fu → RBN N B r → r 2 = 0 →
    ∃ r', zl3 (zf_X2_whatIs_b89 rec37 (nI p) v4 v5 tm (nI n)) fu 0 (nI i) r = zf_X2_whatIs_j141 rec37 v4 v5 0 r' := by
  intro d
  induction d with
  | zero =>
    intro fu i B r hi hf h h2
    obtain ⟨fu, rfl⟩ : ∃ x, fu = x + 1 := ⟨fu - 1, by omega⟩
    have e : i = n := by omega
    subst e
    exact ⟨r, by rw [zl3_s, zf_X2_whatIs_b89, if_pos (Int32.le_refl _)]⟩
  | succ d ih =>
    intro fu i B r hi hf h h2
    obtain ⟨fu, rfl⟩ : ∃ x, fu = x + 1 := ⟨fu - 1, by omega⟩
    have hv : ¬ nI n ≤ nI i := lim (by omega) (by omega)
    obtain ⟨B', r1, e1, e2, e3, e4⟩ := goOn_1 h hN (SA0' h2)
    obtain ⟨r', q⟩ := ih fu (i + 1) B' r1 (by omega) (by omega) e3 (e4.trans h2)
    refine ⟨r', ?_⟩
    rw [zl3_s, zf_X2_whatIs_b89, if_neg hv, of_0, bd1_some, if_neg (nI_in (c := 93 + 3 * p) (N := 105) (by omega) (by omega)), if_neg (nI_in (c := i) (N := 16) (by omega) (by omega)), e2, bd1_some, bd1_some, nI_1, show (0 : Int32) &&& 1 = 0 from rfl, show (0 : Int32) &&& 0 = 0 from rfl, q]
    by_cases c : r (nI (93 + 3 * p)).toNatClampNeg = tm (nI i).toNatClampNeg
    · rw [if_pos c]
    · rw [if_neg c]
theorem live_rows {N p n : Nat} {tg tm : Nat → Int32} (hN : N < 5) (hp : p < N) (hn : n ≤ 16) (ht : ∀ j, j < n → tg j = tm j) {rec37 : Int32 → Int32 → (Nat → Int32) → Option (Int32 × (Nat → Int32) × (Nat → Int32))} {v4 v5 : Int32} : ∀ (d fu fu' i : Nat) (B B2 : BT) (r : Nat → Int32), i + d = n → d < fu → d < fu' → (if i = 0 then B2 = B else zf_X0_goOn B 1 0 = some B2) → RBN N B2 r → r 2 = 0 →
    ∃ b B' r', zl2 (zf_X1_isAsTold_b2 (nI p) tg (nI n)) fu (nI i) B = some (b, B') ∧ zl3 (zf_X2_whatIs_b89 rec37 (nI p) v4 v5 tm (nI n)) fu' 1 (nI i) r = zf_X2_whatIs_j141 rec37 v4 v5 b r' := by
  intro d
  induction d with
  | zero =>
    intro fu fu' i B B2 r hi hf hf' hB h h2
    obtain ⟨fu, rfl⟩ : ∃ x, fu = x + 1 := ⟨fu - 1, by omega⟩
    obtain ⟨fu', rfl⟩ : ∃ x, fu' = x + 1 := ⟨fu' - 1, by omega⟩
    have e : i = n := by omega
    subst e
    exact ⟨1, B, r, by rw [zl2_s, zf_X1_isAsTold_b2, if_pos (Int32.le_refl _)], by rw [zl3_s, zf_X2_whatIs_b89, if_pos (Int32.le_refl _)]⟩
  | succ d ih =>
    intro fu fu' i B B2 r hi hf hf' hB h h2
    obtain ⟨fu, rfl⟩ : ∃ x, fu = x + 1 := ⟨fu - 1, by omega⟩
    obtain ⟨fu', rfl⟩ : ∃ x, fu' = x + 1 := ⟨fu' - 1, by omega⟩
    have hv : ¬ nI n ≤ nI i := lim (by omega) (by omega)
    have hb : zl2 (zf_X1_isAsTold_b2 (nI p) tg (nI n)) (fu + 1) (nI i) B = if bt_place B2 p = tg i then zl2 (zf_X1_isAsTold_b2 (nI p) tg (nI n)) fu (nI (i + 1)) B2 else some (0, B2) := by
      rw [zl2_s, zf_X1_isAsTold_b2, if_neg hv]
      by_cases c : i = 0
      · rw [if_pos c] at hB
        subst hB
        rw [if_pos (by rw [c]; decide), placeOf_in h.1 hN hp, bd1_some, toldAt_in tg (by omega) hn, bd1_some, nI_1]
      · rw [if_neg c] at hB
        rw [if_neg (nI_nle (by omega) (by omega)), hB, bd1_some, placeOf_in h.1 hN hp, bd1_some, toldAt_in tg (by omega) hn, bd1_some, nI_1]
    obtain ⟨B3, r1, e1, e2, e3, e4⟩ := goOn_1 h hN (SA0' h2)
    have hp1 := (h.2.2.1 p hp).1
    have z0 := (px0 (p := p) (by omega)).2.2
    have hr : zl3 (zf_X2_whatIs_b89 rec37 (nI p) v4 v5 tm (nI n)) (fu' + 1) 1 (nI i) r = if bt_place B2 p = tg i then zl3 (zf_X2_whatIs_b89 rec37 (nI p) v4 v5 tm (nI n)) fu' 1 (nI (i + 1)) r1 else zl3 (zf_X2_whatIs_b89 rec37 (nI p) v4 v5 tm (nI n)) fu' 0 (nI (i + 1)) r1 := by
      rw [zl3_s, zf_X2_whatIs_b89, if_neg hv, of_0, bd1_some, if_neg (nI_in (c := 93 + 3 * p) (N := 105) (by omega) (by omega)), if_neg (nI_in (c := i) (N := 16) (by omega) (by omega)), e2, bd1_some, bd1_some, nI_1, show (1 : Int32) &&& 1 = 1 from rfl, show (1 : Int32) &&& 0 = 0 from rfl, z0, nI_clamp (by omega), hp1, ht i (by omega)]
    rw [hb, hr]
    by_cases c : bt_place B2 p = tg i
    · rw [if_pos c, if_pos c]
      exact ih fu fu' (i + 1) B2 B3 r1 (by omega) (by omega) (by omega) (by rw [if_neg (by omega)]; exact e1) e3 (e4.trans h2)
    · rw [if_neg c, if_neg c]
      obtain ⟨r', q⟩ := dead_rows (tm := tm) hN hp hn (rec37 := rec37) (v4 := v4) (v5 := v5) d fu' (i + 1) B3 r1 (by omega) (by omega) e3 (e4.trans h2)
      exact ⟨0, B2, r', rfl, q⟩
theorem what_loop {N p n t k : Nat} {B0 : BT} {s g m tg tm : Nat → Int32} (h0 : RBN N B0 s) (h2 : s 2 = 0) (hN : N < 5) (hp : p < N) (hk : k < 30) (hn : n ≤ 16) (ht : ∀ j, j < n → tg j = tm j) (hR : RR g m) {v3 lim5 : Int32} (hv3 : (v3 = 0 ∧ t = 6 ∧ lim5 = 5) ∨ (v3 = 1 ∧ t = 10 ∧ lim5 = 9)) (M : BT) (q : Nat → Int32) :
    Ok (fun a b => a.1 = b.1 ∧ RR a.2.2 b.2.2) (zl3 (zf_X1_whatIs_b58 (nI k) (nI p) v3 lim5 B0 tg (nI n) g) zb_FU 0 0 M) (zl3 (zf_X2_whatIs_b37 (nI k) (nI p) v3 s tm m (nI n)) zb_FU 0 0 q) := by
  have ht10 : t ≤ 10 := by rcases hv3 with ⟨-, h, -⟩ | ⟨-, h, -⟩ <;> omega
  have hlim : ∀ i, i ≤ 10 → (lim5 < nI i) = (t ≤ i) := by
    rcases hv3 with ⟨-, rfl, rfl⟩ | ⟨-, rfl, rfl⟩
    · exact fun i hi => (nI_lt' (a := 5) (by omega) (by omega)).trans (propext ⟨fun z => by omega, fun z => by omega⟩)
    · exact fun i hi => (nI_lt' (a := 9) (by omega) (by omega)).trans (propext ⟨fun z => by omega, fun z => by omega⟩)
  have hX2 : ∀ rec v4 i r, zf_X2_whatIs_b37 (nI k) (nI p) v3 s tm m (nI n) rec v4 (nI i) r = zf_X2_whatIs_j50 rec (nI k) (nI p) v3 v4 (nI i) (nI i) (nI t) s r tm m (nI n) := by
    intro rec v4 i r
    rcases hv3 with ⟨rfl, rfl, -⟩ | ⟨rfl, rfl, -⟩
    · rw [zf_X2_whatIs_b37, if_pos rfl]; rfl
    · rw [zf_X2_whatIs_b37, if_neg (by decide)]; rfl
  refine lpg (n := t) (F := fun fu i (x : Int32 × BT) => zl3 (zf_X1_whatIs_b58 (nI k) (nI p) v3 lim5 B0 tg (nI n) g) fu x.1 (nI i) x.2) (G := fun fu i (x : Int32 × (Nat → Int32)) => zl3 (zf_X2_whatIs_b37 (nI k) (nI p) v3 s tm m (nI n)) fu x.1 (nI i) x.2) (fun _ x y => x.1 = y.1) ?_ ?_ t zb_FU zb_FU 0 (0, M) (0, q) (by omega) (fu_lt (by omega)) (fu_lt (by omega)) rfl
  · rintro fu fu' ⟨x, B⟩ ⟨y, r⟩ e
    try dsimp only at e ⊢
    rw [zl3_s, zl3_s, zf_X1_whatIs_b58, hX2, zf_X2_whatIs_j50, if_pos (Int32.le_refl _), if_pos (by rw [hlim t ht10]; exact Nat.le_refl _)]
    exact ok ⟨e, hR⟩
  · rintro fu fu' i ⟨x, B⟩ ⟨y, r⟩ hi e ih
    try dsimp only at e ih ⊢
    subst e
    have hv : ¬ nI t ≤ nI i := lim hi (by omega)
    have hv' : ¬ lim5 < nI i := by rw [hlim i (by omega)]; omega
    obtain ⟨B1, q1, e1, e2, e3, e4⟩ := becomes_copies (B := B) (q := r) h0 hN
    rw [zl3_s, zl3_s, zf_X1_whatIs_b58, hX2, zf_X2_whatIs_j50, if_neg hv, if_neg hv', e1, bd1_some, e2, bd1_some]
    rcases hv3 with ⟨rfl, rfl, -⟩ | ⟨rfl, rfl, -⟩
    · have y3 : (105 ≤ 3 + k) = False := ge (by omega)
      have h3 := RBN_kind e3 hk (v := nI i)
      obtain ⟨b, B', r', f1, f2⟩ := live_rows hN hp hn ht (rec37 := zl3 (zf_X2_whatIs_b37 (nI k) (nI p) 0 s tm m (nI n)) fu') (v4 := x) (v5 := nI i) n zb_FU zb_FU 0 (bs_kind B1 (upd (bt_kind B1) k (nI i))) (bs_kind B1 (upd (bt_kind B1) k (nI i))) (upd q1 (3 + k) (nI i)) (by omega) (fu_lt (by omega)) (fu_lt (by omega)) (by rw [if_pos rfl]) h3 (u2 (e4.trans h2) (by omega))
      have f1' : zf_X1_isAsTold (bs_kind B1 (upd (bt_kind B1) k (nI i))) tg (nI n) (nI p) = some (b, B') := f1
      rw [if_pos rfl, if_pos rfl, putKind_in hk, bd1_some, f1', bd2_some, if_neg (show ¬ ((3 : Int32) + nI k < 0 ∨ 105 ≤ ((3 : Int32) + nI k).toNatClampNeg) from by rw [g3 hk, c3 hk, y3]; exact fun z => z.elim id id), c3 hk]
      refine Eq.subst (motive := fun z => Ok _ _ z) f2.symm ?_
      rw [zf_X2_whatIs_j141, nI_1, Int32.or_zero]
      by_cases c : b = 0
      · rw [if_pos c, if_pos c]; exact ih (_, _) (_, _) rfl
      · rw [if_neg c, if_neg c]; exact ih (_, _) (_, _) rfl
    · have y3 : (105 ≤ 33 + k) = False := ge (by omega)
      have h3 := RBN_figure e3 hk (v := nI i) (rg_nI hi)
      obtain ⟨b, B', r', f1, f2⟩ := live_rows hN hp hn ht (rec37 := zl3 (zf_X2_whatIs_b37 (nI k) (nI p) 1 s tm m (nI n)) fu') (v4 := x) (v5 := nI i) n zb_FU zb_FU 0 (bs_figure B1 (upd (bt_figure B1) k (nI i))) (bs_figure B1 (upd (bt_figure B1) k (nI i))) (upd q1 (33 + k) (nI i)) (by omega) (fu_lt (by omega)) (fu_lt (by omega)) (by rw [if_pos rfl]) h3 (u2 (e4.trans h2) (by omega))
      have f1' : zf_X1_isAsTold (bs_figure B1 (upd (bt_figure B1) k (nI i))) tg (nI n) (nI p) = some (b, B') := f1
      rw [if_neg (by decide), if_neg (by decide), putFigure_in hk, bd1_some, f1', bd2_some, if_neg (show ¬ ((33 : Int32) + nI k < 0 ∨ 105 ≤ ((33 : Int32) + nI k).toNatClampNeg) from by rw [g33 hk, c33 hk, y3]; exact fun z => z.elim id id), c33 hk]
      refine Eq.subst (motive := fun z => Ok _ _ z) f2.symm ?_
      rw [zf_X2_whatIs_j141, nI_1, Int32.or_zero]
      by_cases c : b = 0
      · rw [if_pos c, if_pos c]; exact ih (_, _) (_, _) rfl
      · rw [if_neg c, if_neg c]; exact ih (_, _) (_, _) rfl
theorem sim_whatIs {B M : BT} {s q g m tg tm : Nat → Int32} {c d : Int32} (hN : RN B s) (hO : RO tg c tm d) (hR : RR g m) (v1 v2 v3 : Int32) : Ok (fun a b => a.1 = b.1 ∧ RR a.2.2 b.2.2) (zf_X1_whatIs B M tg c g v1 v2 v3) (zf_X2_whatIs s q tm m d v1 v2 v3) := by
  obtain ⟨⟨N, hN5, h⟩, h2⟩ := hN
  obtain ⟨n, hn, rfl, rfl, ht⟩ := hO
  obtain ⟨g1, m1, a1, a2, a3⟩ := rf1 hR
  obtain ⟨g2, m2, r1, r2, r3⟩ := rf2 hR
  rw [zf_X1_whatIs, zf_X2_whatIs]
  rcases node_cases v1 with ⟨k, hk, rfl, w1, w2⟩ | ⟨w1, w2⟩
  · rcases person_cases h hN5 v2 with ⟨p, hp, rfl, n1, n2⟩ | ⟨n1, n2⟩
    · have at_ : zf_X2_areThere s (nI p) (nI k) = some 1 := by rw [zf_X2_areThere, n2, bd1_some, if_neg (by decide), w2, bd1_some, if_neg (by decide)]
      rw [w1, n1, at_, bd1_some, bd1_some, bd1_some, if_neg (show ¬ (1 : Int32) = 0 from by decide), if_neg (show ¬ (1 : Int32) = 0 from by decide), if_neg (show ¬ (1 : Int32) = 0 from by decide)]
      rcases what1 v3 with c | ⟨c0, c⟩ | rfl | rfl
      · rw [if_pos c, isIn_lo c, bd1_some, if_pos rfl, r1, r2]
        exact ok ⟨rfl, r3⟩
      · rw [if_neg (not_lt0 c0), if_neg (gt_le c), isIn_hi c, bd1_some, if_pos rfl, r1, r2]
        exact ok ⟨rfl, r3⟩
      · rw [if_neg (show ¬ nI 0 < 0 from by decide), if_pos (show nI 0 ≤ (1 : Int32) from by decide), if_pos (show nI 0 = (0 : Int32) from rfl), show zf_X2_isIn (nI 0) 0 1 = some 1 from isIn_in (a := 0) (n := 1) (by omega) (by omega) (by omega), bd1_some, if_neg (show ¬ (1 : Int32) = 0 from by decide)]
        exact what_loop h h2 hN5 hp hk hn ht hR (Or.inl ⟨rfl, rfl, rfl⟩) M q
      · rw [if_neg (show ¬ nI 1 < 0 from by decide), if_pos (show nI 1 ≤ (1 : Int32) from by decide), if_neg (show ¬ nI 1 = (0 : Int32) from by decide), show zf_X2_isIn (nI 1) 0 1 = some 1 from isIn_in (a := 0) (n := 1) (by omega) (by omega) (by omega), bd1_some, if_neg (show ¬ (1 : Int32) = 0 from by decide)]
        exact what_loop h h2 hN5 hp hk hn ht hR (Or.inr ⟨rfl, rfl, rfl⟩) M q
    · rw [w1, n1, bd1_some, if_neg (by decide), bd1_some, if_pos rfl, zf_X2_areThere, n2, bd1_some, if_pos rfl, bd1_some, if_pos rfl, a1, a2]
      exact ok ⟨rfl, a3⟩
  · have at_ : zf_X2_areThere s v2 v1 = some 0 := by
      rcases person_cases h hN5 v2 with ⟨p, hp, rfl, n1, n2⟩ | ⟨n1, n2⟩
      · rw [zf_X2_areThere, n2, bd1_some, if_neg (by decide), w2, bd1_some, if_pos rfl]
      · rw [zf_X2_areThere, n2, bd1_some, if_pos rfl]
    rw [w1, bd1_some, if_pos rfl, at_, bd1_some, if_pos rfl, a1, a2]
    exact ok ⟨rfl, a3⟩
