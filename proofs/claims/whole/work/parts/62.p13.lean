/-! the pure side, 13: steam -/
theorem weight_loop {N t z e : Nat} (hN : N < 5) (hz : 2 ≤ z ∧ z ≤ 20) (ht : t ≤ 7) {rec101 : Int64 → Int32 → (Nat → Int32) → Option (Int64 × (Nat → Int32) × (Nat → Int32))} {v1 v2 : Int32} {v6 : Int64} : ∀ (d fu fu' i : Nat) (u : Nat) (M : BT) (r : Nat → Int32), i + d = t → d < fu → d < fu' → RBN N M r → u ≤ 32 ^ i →
    ∃ u' M' r', u' ≤ 32 ^ t ∧ zl3 (zf_X1_weightInSteam_b17 (nI t) (nI z) (nI e)) fu (lN u) (nI i) M = some (lN u', M') ∧ zl3 (zf_X2_steam_b126 rec101 v1 v2 (nI t) (nI z) v6 (nI e)) fu' (lN u) (nI i) r = zf_X2_steam_j190 rec101 v1 v2 v6 (nI e) (lN u') r' ∧ RBN N M' r' := by
  intro d
  induction d with
  | zero =>
    intro fu fu' i u M r hi hf hf' h hu
    obtain ⟨fu, rfl⟩ : ∃ x, fu = x + 1 := ⟨fu - 1, by omega⟩
    obtain ⟨fu', rfl⟩ : ∃ x, fu' = x + 1 := ⟨fu' - 1, by omega⟩
    have e : i = t := by omega
    subst e
    exact ⟨u, M, r, hu, by rw [zl3_s, zf_X1_weightInSteam_b17, if_pos (Int32.le_refl _)], by rw [zl3_s, zf_X2_steam_b126, if_pos (Int32.le_refl _)], h⟩
  | succ d ih =>
    intro fu fu' i u M r hi hf hf' h hu
    obtain ⟨fu, rfl⟩ : ∃ x, fu = x + 1 := ⟨fu - 1, by omega⟩
    obtain ⟨fu', rfl⟩ : ∃ x, fu' = x + 1 := ⟨fu' - 1, by omega⟩
    have hv : ¬ nI t ≤ nI i := lim (by omega) (by omega)
    have hp : 32 ^ (i + 1) = 32 ^ i * 32 := Nat.pow_succ _ _
    rw [zl3_s, zf_X1_weightInSteam_b17, if_neg hv, zl3_s, zf_X2_steam_b126, if_neg hv]
    by_cases c : (nI e >>> (nI i &&& 31)) &&& 1 = 1
    · have hh : zf_X2_has (nI e) (nI i) = some 1 := by rw [zf_X2_has, if_pos c]
      have h3 := RBN_2 h (-1)
      obtain ⟨M', r', e1, e2, e3, e4⟩ := goOn_1 h3 hN (st := 15) (by rw [up_s]; exact SA_15)
      obtain ⟨u', M2, r2, k1, k2, k3, k4⟩ := ih fu fu' (i + 1) u M' r' (by omega) (by omega) (by omega) e3 (by omega)
      refine ⟨u', M2, r2, k1, ?_, ?_, k4⟩
      · rw [if_pos c, zf_X1_weightInSteam_j38, if_neg (by decide), e1, bd1_some, if_neg (by decide), nI_1]; exact k2
      · rw [hh, bd1_some, if_neg (by decide), zf_X2_steam_j153, hh, bd1_some, if_neg (by decide), cl2, e2, bd1_some, nI_1, show lN u * 1 = lN u from (lN_mul u 1).trans (by rw [Nat.mul_one])]; exact k3
    · have hh : zf_X2_has (nI e) (nI i) = some 0 := by rw [zf_X2_has, if_neg c]
      have h3 := RBN_2 h 0
      obtain ⟨M', r', e1, e2, e3, e4⟩ := goOn_1 h3 hN (st := 0) (by rw [up_s]; exact SA_0)
      have hm : u * (z - 1) ≤ 32 ^ (i + 1) := by rw [hp]; exact Nat.mul_le_mul hu (by omega)
      have hw : lN u * (nI z - 1).toInt64 = lN (u * (z - 1)) := by
        rw [show nI z - 1 = nI (z - 1) from pk_sub (b := 1) (by omega), nI_l (by omega), lN_mul]
      obtain ⟨u', M2, r2, k1, k2, k3, k4⟩ := ih fu fu' (i + 1) (u * (z - 1)) M' r' (by omega) (by omega) (by omega) e3 hm
      refine ⟨u', M2, r2, k1, ?_, ?_, k4⟩
      · rw [if_neg c, zf_X1_weightInSteam_j38, if_pos rfl, e1, bd1_some, if_pos rfl, hw, nI_1]; exact k2
      · rw [hh, bd1_some, if_pos rfl, zf_X2_steam_j153, hh, bd1_some, if_pos rfl, cl2, e2, bd1_some, hw, nI_1]; exact k3
theorem pow_X1 {t z : Nat} (hz : z ≤ 20) (ht : t ≤ 7) (v5 : Int32) (v6 : Int64) (M : BT) (g : Nat → Int32) : ∀ (d fu i : Nat), i + d = t → d < fu → zl2 (zf_X1_steam_b135 (nI t) (nI z) v5 v6 M g) fu (lN (z ^ i)) (nI i) = bd1 (zf_X1_partOf v6 (lN (z ^ t)) v5) fun r11 => some (r11, M, g) := by
  intro d
  induction d with
  | zero =>
    intro fu i hi hf
    obtain ⟨fu, rfl⟩ : ∃ x, fu = x + 1 := ⟨fu - 1, by omega⟩
    have e : i = t := by omega
    subst e
    rw [zl2_s, zf_X1_steam_b135, if_pos (Int32.le_refl _)]
  | succ d ih =>
    intro fu i hi hf
    obtain ⟨fu, rfl⟩ : ∃ x, fu = x + 1 := ⟨fu - 1, by omega⟩
    have hv : ¬ nI t ≤ nI i := lim (by omega) (by omega)
    rw [zl2_s, zf_X1_steam_b135, if_neg hv, nI_l (by omega), lN_mul, nI_1, ← Nat.pow_succ]
    exact ih fu (i + 1) (by omega) (by omega)
theorem pow_X2 {t z : Nat} (hz : z ≤ 20) (ht : t ≤ 7) (v1 v2 v5 : Int32) (v6 : Int64) (s q m : Nat → Int32) : ∀ (d fu i : Nat), i + d = t → d < fu → zl2 (zf_X2_steam_b78 v1 v2 (nI t) (nI z) v5 v6 s q m) fu (lN (z ^ i)) (nI i) = zl3 (zf_X2_steam_b101 v1 v2 (nI t) (nI z) v5 (lN (z ^ t)) s m) zb_FU v6 0 q := by
  intro d
  induction d with
  | zero =>
    intro fu i hi hf
    obtain ⟨fu, rfl⟩ : ∃ x, fu = x + 1 := ⟨fu - 1, by omega⟩
    have e : i = t := by omega
    subst e
    rw [zl2_s, zf_X2_steam_b78, if_pos (Int32.le_refl _)]
  | succ d ih =>
    intro fu i hi hf
    obtain ⟨fu, rfl⟩ : ∃ x, fu = x + 1 := ⟨fu - 1, by omega⟩
    have hv : ¬ nI t ≤ nI i := lim (by omega) (by omega)
    rw [zl2_s, zf_X2_steam_b78, if_neg hv, nI_l (by omega), lN_mul, nI_1, ← Nat.pow_succ]
    exact ih fu (i + 1) (by omega) (by omega)
theorem p32 {t : Nat} (h : t ≤ 7) : 32 ^ t ≤ 2 ^ 35 := Nat.le_trans (Nat.pow_le_pow_right (by omega) h) (by decide)
theorem p2 {t : Nat} (h : t ≤ 7) : 2 ^ t ≤ 128 := Nat.le_trans (Nat.pow_le_pow_right (by omega) h) (by decide)
theorem steam_loop {N p k t z : Nat} {B0 : BT} {s g m : Nat → Int32} (h0 : RBN N B0 s) (hN : N < 5) (hp : p < N) (hk : k < 30) (hz : 2 ≤ z ∧ z ≤ 20) (ht : t ≤ 7) (hR : RR g m) (w : Int32) (hw : w = 0 ∨ w = 1) (M : BT) (q : Nat → Int32) :
    Ok (fun a b => a.1 = b.1 ∧ RR a.2.2 b.2.2) (zl3 (zf_X1_steam_b85 (nI p) (nI k) (nI t) (nI z) w B0 g) zb_FU 0 0 M) (zl3 (zf_X2_steam_b101 (nI p) (nI k) (nI t) (nI z) w (lN (z ^ t)) s m) zb_FU 0 0 q) := by
  have h32 := p32 ht
  have h2t := p2 ht
  have hs : (1 : Int32) <<< (nI t &&& 31) = nI (2 ^ t) := one_shl t (by omega)
  have hzt : z ^ t ≤ 32 ^ t := Nat.pow_le_pow_left (by omega) t
  have hz0 : 0 < z ^ t := Nat.pow_pos (by omega)
  refine lpg (n := 2 ^ t) (F := fun fu i (x : Int64 × BT) => zl3 (zf_X1_steam_b85 (nI p) (nI k) (nI t) (nI z) w B0 g) fu x.1 (nI i) x.2) (G := fun fu i (x : Int64 × (Nat → Int32)) => zl3 (zf_X2_steam_b101 (nI p) (nI k) (nI t) (nI z) w (lN (z ^ t)) s m) fu x.1 (nI i) x.2) (fun i x y => x.1 = y.1 ∧ ∃ T, T ≤ i * 2 ^ 35 ∧ x.1 = lN T) ?_ ?_ (2 ^ t) zb_FU zb_FU 0 (0, M) (0, q) (by omega) (fu_lt (by omega)) (fu_lt (by omega)) ⟨rfl, 0, by omega, rfl⟩
  · rintro fu fu' ⟨x, B⟩ ⟨y, r⟩ ⟨e, T, hT, eT⟩
    try dsimp only at e eT ⊢
    subst e
    subst eT
    have hT' : T ≤ 128 * 2 ^ 35 := Nat.le_trans hT (Nat.mul_le_mul_right _ h2t)
    obtain ⟨c, c1, c2⟩ := part_eq (a := T) (b := z ^ t) (by omega) (by omega) hz0 w hw
    rw [zl3_s, zl3_s, zf_X1_steam_b85, zf_X2_steam_b101, hs, if_pos (Int32.le_refl _), if_pos (Int32.le_refl _), show zl2 (zf_X1_steam_b135 (nI t) (nI z) w (lN T) B g) zb_FU 1 0 = _ from pow_X1 hz.2 ht w (lN T) B g t zb_FU 0 (by omega) (fu_lt (by omega)), c1, c2]
    exact ok ⟨rfl, hR⟩
  · rintro fu fu' i ⟨x, B⟩ ⟨y, r⟩ hi ⟨e, T, hT, eT⟩ ih
    try dsimp only at e eT ih ⊢
    subst e
    subst eT
    have hv : ¬ nI (2 ^ t) ≤ nI i := lim hi (by omega)
    obtain ⟨B1, q1, e1, e2, e3, e4⟩ := becomes_copies (B := B) (q := r) h0 hN
    obtain ⟨u, B2, q2, d1, d2, d3, d4⟩ := weight_loop (e := i) hN hz ht (rec101 := zl3 (zf_X2_steam_b101 (nI p) (nI k) (nI t) (nI z) w (lN (z ^ t)) s m) fu') (v1 := nI p) (v2 := nI k) (v6 := lN T) t zb_FU zb_FU 0 1 B1 q1 (by omega) (fu_lt (by omega)) (fu_lt (by omega)) e3 (by omega)
    have d2' : zf_X1_weightInSteam B0 B (nI t) (nI z) (nI i) = some (lN u, B2) := by
      rw [zf_X1_weightInSteam, e1, bd1_some]; exact d2
    have hp1 := (d4.2.2.1 p hp).1
    have z0 := (px0 (p := p) (by omega)).2.2
    have E2 : zl3 (zf_X2_steam_b101 (nI p) (nI k) (nI t) (nI z) w (lN (z ^ t)) s m) (fu' + 1) (lN T) (nI i) r = zf_X2_steam_j190 (zl3 (zf_X2_steam_b101 (nI p) (nI k) (nI t) (nI z) w (lN (z ^ t)) s m) fu') (nI p) (nI k) (lN T) (nI i) (lN u) q2 := by
      rw [zl3_s, zf_X2_steam_b101, hs, if_neg hv, e2, bd1_some]
      exact d3
    rw [E2, zl3_s, zf_X1_steam_b85, hs, if_neg hv, d2', bd2_some, placeOf_in d4.1 hN hp, bd1_some, zf_X2_steam_j190, of_0, bd1_some, if_neg (nI_in (c := 93 + 3 * p) (N := 105) (by omega) (by omega)), z0, hp1, nI_1]
    by_cases c : q2 (93 + 3 * p) = nI k
    · rw [if_pos c, if_pos c]
      refine ih (_, _) (_, _) ⟨rfl, T + u, ?_, lN_add T u⟩
      have hh : (i + 1) * 2 ^ 35 = i * 2 ^ 35 + 2 ^ 35 := Nat.succ_mul _ _
      exact Nat.le_trans (Nat.add_le_add hT (Nat.le_trans d1 h32)) (Nat.le_of_eq hh.symm)
    · rw [if_neg c, if_neg c, show lN T + 0 = lN T from lN_add T 0]
      refine ih (_, _) (_, _) ⟨rfl, T, ?_, rfl⟩
      have hh : (i + 1) * 2 ^ 35 = i * 2 ^ 35 + 2 ^ 35 := Nat.succ_mul _ _
      exact Nat.le_trans hT (Nat.le_trans (Nat.le_add_right _ _) (Nat.le_of_eq hh.symm))
theorem sim_steam {B M : BT} {s q g m : Nat → Int32} (hN : RN B s) (hR : RR g m) (v1 v2 v3 v4 v5 : Int32) : Ok (fun a b => a.1 = b.1 ∧ RR a.2.2 b.2.2) (zf_X1_steam B M g v1 v2 v3 v4 v5) (zf_X2_steam s q m v1 v2 v3 v4 v5) := by
  obtain ⟨⟨N, hN5, h⟩, h2⟩ := hN
  obtain ⟨g1, m1, a1, a2, a3⟩ := rf1 hR
  obtain ⟨a1, a2⟩ := rfW a1 a2
  obtain ⟨g2, m2, b1, b2, b3⟩ := rf2 hR
  obtain ⟨b1, b2⟩ := rfW b1 b2
  obtain ⟨g4, m4, c1, c2, c3⟩ := rf4 hR
  obtain ⟨c1, c2⟩ := rfW c1 c2
  obtain ⟨g6, m6, d1, d2, d3⟩ := rf6 hR
  obtain ⟨d1, d2⟩ := rfW d1 d2
  rw [zf_X1_steam, zf_X2_steam]
  rcases person_cases h hN5 v1 with ⟨p, hp, rfl, n1, n2⟩ | ⟨n1, n2⟩
  · rcases node_cases v2 with ⟨k, hk, rfl, w1, w2⟩ | ⟨w1, w2⟩
    · have at_ : zf_X2_areThere s (nI p) (nI k) = some 1 := by rw [zf_X2_areThere, n2, bd1_some, if_neg (by decide), w2, bd1_some, if_neg (by decide)]
      rw [w1, n1, at_, bd1_some, bd1_some, bd1_some, if_neg (show ¬ (1 : Int32) = 0 from by decide), if_neg (show ¬ (1 : Int32) = 0 from by decide), if_neg (show ¬ (1 : Int32) = 0 from by decide)]
      by_cases t0 : v3 < 0
      · rw [if_pos t0, if_pos t0, c1, c2]; exact ok ⟨rfl, c3⟩
      rw [if_neg t0, if_neg t0]
      by_cases z2 : (2 : Int32) ≤ v4
      · rw [if_pos z2, if_pos z2]
        by_cases t7 : (7 : Int32) < v3
        · rw [if_pos t7, if_pos t7, d1, d2]; exact ok ⟨rfl, d3⟩
        rw [if_neg t7, if_neg t7]
        by_cases z20 : v4 ≤ (20 : Int32)
        · rw [if_pos z20, if_pos z20]
          obtain ⟨t, ht, rfl⟩ := nI_of2 (M := 7) (n := 7) (by decide) t0 (Int32.not_lt.mp t7)
          obtain ⟨z, hz, rfl⟩ := nI_of2 (M := 20) (n := 20) (by decide) (fun y => absurd (Int32.lt_of_le_of_lt z2 y) (by decide)) z20
          have hz2 : 2 ≤ z := (nI_leI (a := 2) (by omega) (by omega)).mp z2
          have fin : ∀ v, (v = 0 ∨ v = 1) → Ok (fun a b => a.1 = b.1 ∧ RR a.2.2 b.2.2) (zl3 (zf_X1_steam_b85 (nI p) (nI k) (nI t) (nI z) v B g) zb_FU 0 0 M) (zl2 (zf_X2_steam_b78 (nI p) (nI k) (nI t) (nI z) v 0 s q m) zb_FU 1 0) := by
            intro v hv
            rw [show zl2 (zf_X2_steam_b78 (nI p) (nI k) (nI t) (nI z) v 0 s q m) zb_FU 1 0 = _ from pow_X2 hz ht (nI p) (nI k) v 0 s q m t zb_FU 0 (by omega) (fu_lt (by omega))]
            exact steam_loop h hN5 hp hk ⟨hz2, hz⟩ ht hR v hv M q
          rcases what1 v5 with c | ⟨c0, c⟩ | rfl | rfl
          · rw [if_pos c, isIn_lo c, bd1_some, if_pos rfl, b1, b2]
            exact ok ⟨rfl, b3⟩
          · rw [if_neg (not_lt0 c0), if_neg (gt_le c), isIn_hi c, bd1_some, if_pos rfl, b1, b2]
            exact ok ⟨rfl, b3⟩
          · rw [if_neg (show ¬ nI 0 < 0 from by decide), if_pos (show nI 0 ≤ (1 : Int32) from by decide), show zf_X2_isIn (nI 0) 0 1 = some 1 from isIn_in (a := 0) (n := 1) (by omega) (by omega) (by omega), bd1_some, if_neg (show ¬ (1 : Int32) = 0 from by decide)]
            exact fin (nI 0) (Or.inl rfl)
          · rw [if_neg (show ¬ nI 1 < 0 from by decide), if_pos (show nI 1 ≤ (1 : Int32) from by decide), show zf_X2_isIn (nI 1) 0 1 = some 1 from isIn_in (a := 0) (n := 1) (by omega) (by omega) (by omega), bd1_some, if_neg (show ¬ (1 : Int32) = 0 from by decide)]
            exact fin (nI 1) (Or.inr rfl)
        · rw [if_neg z20, if_neg z20, d1, d2]; exact ok ⟨rfl, d3⟩
      · rw [if_neg z2, if_neg z2, c1, c2]; exact ok ⟨rfl, c3⟩
    · have at_ : zf_X2_areThere s (nI p) v2 = some 0 := by rw [zf_X2_areThere, n2, bd1_some, if_neg (by decide), w2, bd1_some, if_pos rfl]
      rw [n1, bd1_some, if_neg (show ¬ (1 : Int32) = 0 from by decide), w1, at_, bd1_some, bd1_some, if_pos rfl, if_pos rfl, a1, a2]
      exact ok ⟨rfl, a3⟩
  · have at_ : zf_X2_areThere s v1 v2 = some 0 := by rw [zf_X2_areThere, n2, bd1_some, if_pos rfl]
    rw [n1, at_, bd1_some, bd1_some, if_pos rfl, if_pos rfl, a1, a2]
    exact ok ⟨rfl, a3⟩
