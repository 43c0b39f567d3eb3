/-! the pure side, 8: in mind: comes, visits, stops, meets, round, then -/
theorem px0 {p : Nat} (hp : p < 4) : (nI (93 + 3 * p) < 0) = False ∧ (105 ≤ 93 + 3 * p) = False ∧ (nI (93 + 3 * p)).toNatClampNeg = 93 + 3 * p := ⟨ng (by omega), ge (by omega), nI_clamp (by omega)⟩
theorem px1 {p : Nat} (hp : p < 4) : (nI (94 + 3 * p) < 0) = False ∧ (105 ≤ 94 + 3 * p) = False ∧ (nI (94 + 3 * p)).toNatClampNeg = 94 + 3 * p := ⟨ng (by omega), ge (by omega), nI_clamp (by omega)⟩
theorem n60 {i : Nat} (h : i ≤ 60) : ¬ (60 : Int32) < nI i := nI_nlt (a := 60) h (by omega)
theorem SA0' {r : Nat → Int32} (h : r 2 = 0) : SA 0 (r 2) := by rw [h]; exact SA_0
theorem soonest {N p : Nat} (hN : N < 5) (hp : p < N) (v2 : Int32) : ∀ (d fu fu' i : Nat) (B : BT) (r : Nat → Int32), i + d = 61 → d < fu → d < fu' → RBN N B r → r 2 = 0 →
    Ok (fun a b => a.1 = b.1 ∧ (a.1 = -9 ∨ ∃ k, k ≤ 60 ∧ a.1 = nI k)) (zl2 (zf_X0_soonestAt_b2 (nI p) v2) fu (nI i) B) (zl2 (zf_X2_comesTo_b2 (nI p) v2) fu' (nI i) r) := by
  intro d
  induction d with
  | zero =>
    intro fu fu' i B r hi hf hf' h h2
    obtain ⟨fu, rfl⟩ : ∃ x, fu = x + 1 := ⟨fu - 1, by omega⟩
    obtain ⟨fu', rfl⟩ : ∃ x, fu' = x + 1 := ⟨fu' - 1, by omega⟩
    have e : i = 61 := by omega
    subst e
    rw [zl2_s, zl2_s, zf_X0_soonestAt_b2, zf_X2_comesTo_b2, if_pos (by decide), if_pos (by decide)]
    exact ok ⟨rfl, Or.inl rfl⟩
  | succ d ih =>
    intro fu fu' i B r hi hf hf' h h2
    obtain ⟨fu, rfl⟩ : ∃ x, fu = x + 1 := ⟨fu - 1, by omega⟩
    obtain ⟨fu', rfl⟩ : ∃ x, fu' = x + 1 := ⟨fu' - 1, by omega⟩
    obtain ⟨x0, y0, z0⟩ := px0 (p := p) (by omega)
    have a1 := (h.2.2.1 p hp).1
    rw [zl2_s, zl2_s]
    by_cases c : bt_place B p = v2
    · have c' : r (93 + 3 * p) = v2 := a1.symm.trans c
      simp only [zf_X0_soonestAt_b2, zf_X2_comesTo_b2, if_neg (n60 (show i ≤ 60 by omega)), placeOf_in h.1 hN hp, of_0, bd1_some, x0, y0, z0, or_self, if_pos c, if_pos c', ↓reduceIte]
      exact ok ⟨rfl, Or.inr ⟨i, by omega, rfl⟩⟩
    · have c' : ¬ r (93 + 3 * p) = v2 := fun z => c (a1.trans z)
      obtain ⟨B', r', e1, e2, e3, e4⟩ := goOn_1 h hN (SA0' h2)
      simp only [zf_X0_soonestAt_b2, zf_X2_comesTo_b2, if_neg (n60 (show i ≤ 60 by omega)), placeOf_in h.1 hN hp, of_0, bd1_some, x0, y0, z0, or_self, if_neg c, if_neg c', e1, e2, nI_1, ↓reduceIte]
      exact ih fu fu' (i + 1) B' r' (by omega) (by omega) (by omega) e3 (e4.trans h2)
theorem soonest0 {N p : Nat} {B : BT} {r : Nat → Int32} (hN : N < 5) (hp : p < N) (v2 : Int32) (h : RBN N B r) (h2 : r 2 = 0) : Ok (fun a b => a.1 = b.1 ∧ (a.1 = -9 ∨ ∃ k, k ≤ 60 ∧ a.1 = nI k)) (zf_X0_soonestAt B (nI p) v2) (zf_X2_comesTo r (nI p) v2) :=
  soonest hN hp v2 61 zb_FU zb_FU 0 B r (by omega) (fu_lt (by omega)) (fu_lt (by omega)) h h2
theorem sim_comes {B M : BT} {s q g m : Nat → Int32} (hN : RN B s) (hR : RR g m) (v1 v2 : Int32) : Ok (fun a b => a.1 = b.1 ∧ RR a.2.2 b.2.2) (zf_X1_comes B M g v1 v2) (zf_X2_comes s q m v1 v2) := by
  obtain ⟨⟨N, hN5, h⟩, h2⟩ := hN
  rcases person_cases h hN5 v1 with ⟨p, hp, rfl, n1, n2⟩ | ⟨n1, n2⟩
  · rcases node_cases v2 with ⟨k, hk, rfl, w1, w2⟩ | ⟨w1, w2⟩
    · obtain ⟨B', q', e1, e2, e3, e4⟩ := becomes_copies (B := M) (q := q) h hN5
      obtain ⟨⟨x, B1⟩, ⟨y, r1⟩, f1, f2, f3, -⟩ := soonest0 hN5 hp (nI k) e3 (e4.trans h2)
      simp only [zf_X1_comes, zf_X2_comes, zf_X2_areThere, n1, n2, w1, w2, bd1_some, bd2_some, one_0, e1, e2, f1, f2, ↓reduceIte]
      exact ok ⟨f3, hR⟩
    · obtain ⟨g', m', q1, q2, q3⟩ := rf1 hR
      simp only [zf_X1_comes, zf_X2_comes, zf_X2_areThere, n1, n2, w1, w2, bd1_some, bd2_some, one_0, q1, q2, ↓reduceIte]
      exact ok ⟨rfl, q3⟩
  · obtain ⟨g', m', q1, q2, q3⟩ := rf1 hR
    simp only [zf_X1_comes, zf_X2_comes, zf_X2_areThere, n1, n2, bd1_some, bd2_some, q1, q2, ↓reduceIte]
    exact ok ⟨rfl, q3⟩
theorem vis_loop {N p n : Nat} (hN : N < 5) (hp : p < N) (hn : n ≤ 60) : ∀ (d fu fu' i : Nat) (v : Int32) (B : BT) (r : Nat → Int32), i + d = n → d < fu → d < fu' → BS v → RBN N B r → r 2 = 0 →
    Ok (fun a b => a.1 = b.1 ∧ (∃ k, k ≤ 30 ∧ a.1 = nI k)) (zl3 (zf_X0_visitsIn_b11 (nI p) (nI n)) fu v (nI i) B) (zl3 (zf_X2_visitsIn_b16 (nI p) (nI n)) fu' v (nI i) r) := by
  intro d
  induction d with
  | zero =>
    intro fu fu' i v B r hi hf hf' hv h h2
    obtain ⟨fu, rfl⟩ : ∃ x, fu = x + 1 := ⟨fu - 1, by omega⟩
    obtain ⟨fu', rfl⟩ : ∃ x, fu' = x + 1 := ⟨fu' - 1, by omega⟩
    have e : i = n := by omega
    subst e
    have c : nI i ≤ nI i := nI_le (Nat.le_refl _) (by omega)
    obtain ⟨k, hk, e1, e2⟩ := bits_eq hv
    rw [zl3_s, zl3_s]
    simp only [zf_X0_visitsIn_b11, zf_X2_visitsIn_b16, if_pos c, e1, e2, bd1_some]
    exact ok ⟨rfl, k, hk, rfl⟩
  | succ d ih =>
    intro fu fu' i v B r hi hf hf' hv h h2
    obtain ⟨fu, rfl⟩ : ∃ x, fu = x + 1 := ⟨fu - 1, by omega⟩
    obtain ⟨fu', rfl⟩ : ∃ x, fu' = x + 1 := ⟨fu' - 1, by omega⟩
    obtain ⟨x0, y0, z0⟩ := px0 (p := p) (by omega)
    have c : ¬ nI n ≤ nI i := nI_ge (by omega) (by omega)
    obtain ⟨B', r', e1, e2, e3, e4⟩ := goOn_1 h hN (SA0' h2)
    obtain ⟨a1, -, -, ⟨a, ha, ea⟩, -⟩ := e3.2.2.1 p hp
    rw [zl3_s, zl3_s]
    simp only [zf_X0_visitsIn_b11, zf_X2_visitsIn_b16, if_neg c, e1, e2, bd1_some, placeOf_in e3.1 hN hp, of_0, x0, y0, z0, or_self, ← a1, ea, nI_1, ↓reduceIte]
    exact ih fu fu' (i + 1) _ B' r' (by omega) (by omega) (by omega) (BS_or hv ha) e3 (e4.trans h2)
theorem vis_in {N p n : Nat} {B : BT} {r : Nat → Int32} (hN : N < 5) (hp : p < N) (hn : n ≤ 60) (h : RBN N B r) (h2 : r 2 = 0) : Ok (fun a b => a.1 = b.1 ∧ (∃ k, k ≤ 30 ∧ a.1 = nI k)) (zf_X0_visitsIn B (nI p) (nI n)) (zf_X2_visitsIn r (nI p) (nI n)) := by
  obtain ⟨x0, y0, z0⟩ := px0 (p := p) (by omega)
  obtain ⟨a1, -, -, ⟨a, ha, ea⟩, -⟩ := h.2.2.1 p hp
  simp only [zf_X0_visitsIn, zf_X2_visitsIn, placeOf_in h.1 hN hp, of_0, bd1_some, x0, y0, z0, or_self, ← a1, ea, ↓reduceIte]
  exact vis_loop hN hp hn n zb_FU zb_FU 0 _ B r (by omega) (fu_lt (by omega)) (fu_lt (by omega)) (BS_1 ha) h h2
theorem sim_visits {B M : BT} {s q g m : Nat → Int32} (hN : RN B s) (hR : RR g m) (v1 v2 : Int32) : Ok (fun a b => a.1 = b.1 ∧ RR a.2.2 b.2.2) (zf_X1_visits B M g v1 v2) (zf_X2_visits s q m v1 v2) := by
  obtain ⟨⟨N, hN5, h⟩, h2⟩ := hN
  rcases person_cases h hN5 v1 with ⟨p, hp, rfl, n1, n2⟩ | ⟨n1, n2⟩
  · rcases out_cases v2 0 60 (by omega) (by omega) with ⟨n, -, hn, rfl, o⟩ | ⟨o, -⟩ | ⟨o, -⟩
    · have o' : zf_X2_wrongBy (nI n) 0 60 = some 0 := o
      have o : zf_X1_outside (nI n) 0 60 = some 0 := o
      obtain ⟨B', q', e1, e2, e3, e4⟩ := becomes_copies (B := M) (q := q) h hN5
      obtain ⟨⟨x, B1⟩, ⟨y, r1⟩, f1, f2, f3, -⟩ := vis_in hN5 hp hn e3 (e4.trans h2)
      simp only [zf_X1_visits, zf_X2_visits, zf_X2_visitsNow, n1, n2, o, o', bd1_some, bd2_some, one_0, e1, e2, f1, f2, ↓reduceIte]
      exact ok ⟨f3, hR⟩
    · have o' : zf_X2_wrongBy v2 0 60 = some (-6) := o
      have o : zf_X1_outside v2 0 60 = some (-6) := o
      obtain ⟨g', m', q1, q2, q3⟩ := rf6 hR
      simp only [zf_X1_visits, zf_X2_visits, n1, n2, o, o', bd1_some, bd2_some, one_0, m6_0, q1, q2, ↓reduceIte]
      exact ok ⟨rfl, q3⟩
    · have o' : zf_X2_wrongBy v2 0 60 = some (-4) := o
      have o : zf_X1_outside v2 0 60 = some (-4) := o
      obtain ⟨g', m', q1, q2, q3⟩ := rf4 hR
      simp only [zf_X1_visits, zf_X2_visits, n1, n2, o, o', bd1_some, bd2_some, one_0, m4_0, q1, q2, ↓reduceIte]
      exact ok ⟨rfl, q3⟩
  · obtain ⟨g', m', q1, q2, q3⟩ := rf1 hR
    simp only [zf_X1_visits, zf_X2_visits, n1, n2, bd1_some, bd2_some, q1, q2, ↓reduceIte]
    exact ok ⟨rfl, q3⟩
theorem stops_loop {N p : Nat} {g m : Nat → Int32} (hN : N < 5) (hp : p < N) (hR : RR g m) : ∀ (d fu fu' i : Nat) (B : BT) (r : Nat → Int32), i + d = 61 → d < fu → d < fu' → RBN N B r → r 2 = 0 →
    Ok (fun a b => a.1 = b.1 ∧ RR a.2.2 b.2.2) (zl2 (zf_X1_stops_b30 (nI p) g) fu (nI i) B) (zl2 (zf_X2_stops_b27 (nI p) m) fu' (nI i) r) := by
  intro d
  induction d with
  | zero =>
    intro fu fu' i B r hi hf hf' h h2
    obtain ⟨fu, rfl⟩ : ∃ x, fu = x + 1 := ⟨fu - 1, by omega⟩
    obtain ⟨fu', rfl⟩ : ∃ x, fu' = x + 1 := ⟨fu' - 1, by omega⟩
    have e : i = 61 := by omega
    subst e
    rw [zl2_s, zl2_s, zf_X1_stops_b30, zf_X2_stops_b27, if_pos (by decide), if_pos (by decide)]
    exact ok ⟨rfl, hR⟩
  | succ d ih =>
    intro fu fu' i B r hi hf hf' h h2
    obtain ⟨fu, rfl⟩ : ∃ x, fu = x + 1 := ⟨fu - 1, by omega⟩
    obtain ⟨fu', rfl⟩ : ∃ x, fu' = x + 1 := ⟨fu' - 1, by omega⟩
    obtain ⟨x0, y0, z0⟩ := px0 (p := p) (by omega)
    obtain ⟨a1, -, -, ⟨a, ha, ea⟩, -⟩ := h.2.2.1 p hp
    have ra : r (93 + 3 * p) = nI a := a1.symm.trans ea
    have k3 := (h.2.2.2.2 a ha).2.2.1
    rw [zl2_s, zl2_s]
    by_cases c : bt_wet B a = 0
    · have c' : r (63 + a) = 0 := k3.symm.trans c
      simp only [zf_X1_stops_b30, zf_X2_stops_b27, if_neg (n60 (show i ≤ 60 by omega)), placeOf_in h.1 hN hp, ea, wetOf_in ha, of_0, bd1_some, x0, y0, z0, ra, isDry_in r ha, or_self, if_pos c, if_pos c', one_0, ↓reduceIte]
      exact ok ⟨rfl, hR⟩
    · have c' : ¬ r (63 + a) = 0 := fun z => c (k3.trans z)
      obtain ⟨B', r', e1, e2, e3, e4⟩ := goOn_1 h hN (SA0' h2)
      simp only [zf_X1_stops_b30, zf_X2_stops_b27, if_neg (n60 (show i ≤ 60 by omega)), placeOf_in h.1 hN hp, ea, wetOf_in ha, of_0, bd1_some, x0, y0, z0, ra, isDry_in r ha, or_self, if_neg c, if_neg c', e1, e2, nI_1, ↓reduceIte]
      exact ih fu fu' (i + 1) B' r' (by omega) (by omega) (by omega) e3 (e4.trans h2)
theorem sim_stops {B M : BT} {s q g m : Nat → Int32} (hN : RN B s) (hR : RR g m) (v1 : Int32) : Ok (fun a b => a.1 = b.1 ∧ RR a.2.2 b.2.2) (zf_X1_stops B M g v1) (zf_X2_stops s q m v1) := by
  obtain ⟨⟨N, hN5, h⟩, h2⟩ := hN
  rcases person_cases h hN5 v1 with ⟨p, hp, rfl, n1, n2⟩ | ⟨n1, n2⟩
  · obtain ⟨B', q', e1, e2, e3, e4⟩ := becomes_copies (B := M) (q := q) h hN5
    simp only [zf_X1_stops, zf_X2_stops, n1, n2, bd1_some, one_0, e1, e2, ↓reduceIte]
    exact stops_loop hN5 hp hR 61 zb_FU zb_FU 0 B' q' (by omega) (fu_lt (by omega)) (fu_lt (by omega)) e3 (e4.trans h2)
  · obtain ⟨g', m', q1, q2, q3⟩ := rf1 hR
    simp only [zf_X1_stops, zf_X2_stops, n1, n2, bd1_some, bd2_some, q1, q2, ↓reduceIte]
    exact ok ⟨rfl, q3⟩
theorem two_cases {N : Nat} {B : BT} {r : Nat → Int32} (h : RBN N B r) (hN : N < 5) (v w : Int32) : (∃ p q, p < N ∧ q < N ∧ p ≠ q ∧ v = nI p ∧ w = nI q ∧ zf_X1_areTwo B v w = some 1 ∧ zf_X2_areTwo r v w = some 1) ∨ (zf_X1_areTwo B v w = some 0 ∧ zf_X2_areTwo r v w = some 0) := by
  rcases person_cases h hN v with ⟨p, hp, rfl, n1, n2⟩ | ⟨n1, n2⟩
  · rcases person_cases h hN w with ⟨q, hq, rfl, m1, m2⟩ | ⟨m1, m2⟩
    · by_cases c : nI p = nI q
      · refine Or.inr ⟨?_, ?_⟩
        · simp only [zf_X1_areTwo, n1, m1, bd1_some, one_0, if_pos c, ↓reduceIte]
        · simp only [zf_X2_areTwo, n2, m2, bd1_some, one_0, if_pos c, ↓reduceIte]
      · refine Or.inl ⟨p, q, hp, hq, fun z => c (by rw [z]), rfl, rfl, ?_, ?_⟩
        · simp only [zf_X1_areTwo, n1, m1, bd1_some, one_0, if_neg c, ↓reduceIte]
        · simp only [zf_X2_areTwo, n2, m2, bd1_some, one_0, if_neg c, ↓reduceIte]
    · refine Or.inr ⟨?_, ?_⟩
      · simp only [zf_X1_areTwo, n1, m1, bd1_some, one_0, ↓reduceIte]
      · simp only [zf_X2_areTwo, n2, m2, bd1_some, one_0, ↓reduceIte]
  · refine Or.inr ⟨?_, ?_⟩
    · simp only [zf_X1_areTwo, n1, bd1_some, ↓reduceIte]
    · simp only [zf_X2_areTwo, n2, bd1_some, ↓reduceIte]
theorem meets_loop {N p t : Nat} {g m : Nat → Int32} (hN : N < 5) (hp : p < N) (ht : t < N) (hR : RR g m) : ∀ (d fu fu' i : Nat) (B : BT) (r : Nat → Int32), i + d = 61 → d < fu → d < fu' → RBN N B r → r 2 = 0 →
    Ok (fun a b => a.1 = b.1 ∧ RR a.2.2 b.2.2) (zl2 (zf_X1_meets_b28 (nI p) (nI t) g) fu (nI i) B) (zl2 (zf_X2_meets_b28 (nI p) (nI t) m) fu' (nI i) r) := by
  intro d
  induction d with
  | zero =>
    intro fu fu' i B r hi hf hf' h h2
    obtain ⟨fu, rfl⟩ : ∃ x, fu = x + 1 := ⟨fu - 1, by omega⟩
    obtain ⟨fu', rfl⟩ : ∃ x, fu' = x + 1 := ⟨fu' - 1, by omega⟩
    have e : i = 61 := by omega
    subst e
    rw [zl2_s, zl2_s, zf_X1_meets_b28, zf_X2_meets_b28, if_pos (by decide), if_pos (by decide)]
    exact ok ⟨rfl, hR⟩
  | succ d ih =>
    intro fu fu' i B r hi hf hf' h h2
    obtain ⟨fu, rfl⟩ : ∃ x, fu = x + 1 := ⟨fu - 1, by omega⟩
    obtain ⟨fu', rfl⟩ : ∃ x, fu' = x + 1 := ⟨fu' - 1, by omega⟩
    obtain ⟨x0, y0, z0⟩ := px0 (p := p) (by omega)
    obtain ⟨u0, w0, t0⟩ := px0 (p := t) (by omega)
    have a1 := (h.2.2.1 p hp).1
    have b1 := (h.2.2.1 t ht).1
    rw [zl2_s, zl2_s]
    by_cases c : bt_place B p = bt_place B t
    · have c' : r (93 + 3 * p) = r (93 + 3 * t) := by rw [← a1, ← b1]; exact c
      simp only [zf_X1_meets_b28, zf_X2_meets_b28, if_neg (n60 (show i ≤ 60 by omega)), placeOf_in h.1 hN hp, placeOf_in h.1 hN ht, of_0, bd1_some, x0, y0, z0, u0, w0, t0, or_self, if_pos c, if_pos c', ↓reduceIte]
      exact ok ⟨rfl, hR⟩
    · have c' : ¬ r (93 + 3 * p) = r (93 + 3 * t) := by rw [← a1, ← b1]; exact c
      obtain ⟨B', r', e1, e2, e3, e4⟩ := goOn_1 h hN (SA0' h2)
      simp only [zf_X1_meets_b28, zf_X2_meets_b28, if_neg (n60 (show i ≤ 60 by omega)), placeOf_in h.1 hN hp, placeOf_in h.1 hN ht, of_0, bd1_some, x0, y0, z0, u0, w0, t0, or_self, if_neg c, if_neg c', e1, e2, nI_1, ↓reduceIte]
      exact ih fu fu' (i + 1) B' r' (by omega) (by omega) (by omega) e3 (e4.trans h2)
theorem meets_E1 {B M B' : BT} {g : Nat → Int32} {v1 v2 : Int32} (n1 : zf_X1_areTwo B v1 v2 = some 1) (e1 : zf_X0_becomes M B = some B') : zf_X1_meets B M g v1 v2 = zl2 (zf_X1_meets_b28 v1 v2 g) zb_FU 0 B' := by
  rw [zf_X1_meets, n1, bd1_some, if_neg (by decide), e1, bd1_some]
theorem meets_E2 {s q q' m : Nat → Int32} {v1 v2 : Int32} (n2 : zf_X2_areTwo s v1 v2 = some 1) (e2 : zf_X2_copies s q = some q') : zf_X2_meets s q m v1 v2 = zl2 (zf_X2_meets_b28 v1 v2 m) zb_FU 0 q' := by
  rw [zf_X2_meets, n2, bd1_some, if_neg (by decide), e2, bd1_some]
theorem sim_meets {B M : BT} {s q g m : Nat → Int32} (hN : RN B s) (hR : RR g m) (v1 v2 : Int32) : Ok (fun a b => a.1 = b.1 ∧ RR a.2.2 b.2.2) (zf_X1_meets B M g v1 v2) (zf_X2_meets s q m v1 v2) := by
  obtain ⟨⟨N, hN5, h⟩, h2⟩ := hN
  rcases two_cases h hN5 v1 v2 with ⟨p, t, hp, ht, -, rfl, rfl, n1, n2⟩ | ⟨n1, n2⟩
  · obtain ⟨B', q', e1, e2, e3, e4⟩ := becomes_copies (B := M) (q := q) h hN5
    rw [meets_E1 n1 e1, meets_E2 n2 e2]
    exact meets_loop hN5 hp ht hR 61 zb_FU zb_FU 0 B' q' (by omega) (fu_lt (by omega)) (fu_lt (by omega)) e3 (e4.trans h2)
  · obtain ⟨g', m', q1, q2, q3⟩ := rf1 hR
    rw [zf_X1_meets, zf_X2_meets, n1, n2, bd1_some, bd1_some, if_pos rfl, if_pos rfl, q1, q2]
    exact ok ⟨rfl, q3⟩
theorem round_loop {N p : Nat} {B0 : BT} {s g m : Nat → Int32} (h0 : RBN N B0 s) (hN : N < 5) (hp : p < N) (hR : RR g m) : ∀ (d fu fu' i : Nat) (B : BT) (r : Nat → Int32), i + d = 61 → d < fu → d < fu' → RBN N B r → r 2 = 0 →
    Ok (fun a b => a.1 = b.1 ∧ RR a.2.2 b.2.2) (zl2 (zf_X1_round_b30 (nI p) B0 g) fu (nI i) B) (zl2 (zf_X2_round_b27 (nI p) s m) fu' (nI i) r) := by
  intro d
  induction d with
  | zero =>
    intro fu fu' i B r hi hf hf' h h2
    obtain ⟨fu, rfl⟩ : ∃ x, fu = x + 1 := ⟨fu - 1, by omega⟩
    obtain ⟨fu', rfl⟩ : ∃ x, fu' = x + 1 := ⟨fu' - 1, by omega⟩
    have e : i = 61 := by omega
    subst e
    rw [zl2_s, zl2_s, zf_X1_round_b30, zf_X2_round_b27, if_pos (by decide), if_pos (by decide)]
    exact ok ⟨rfl, hR⟩
  | succ d ih =>
    intro fu fu' i B r hi hf hf' h h2
    obtain ⟨fu, rfl⟩ : ∃ x, fu = x + 1 := ⟨fu - 1, by omega⟩
    obtain ⟨fu', rfl⟩ : ∃ x, fu' = x + 1 := ⟨fu' - 1, by omega⟩
    obtain ⟨x0, y0, z0⟩ := px0 (p := p) (by omega)
    obtain ⟨u0, w0, t0⟩ := px1 (p := p) (by omega)
    obtain ⟨B', r', e1, e2, e3, e4⟩ := goOn_1 h hN (SA0' h2)
    obtain ⟨a1, a2, -, -, -⟩ := e3.2.2.1 p hp
    obtain ⟨b1, b2, -, -, -⟩ := h0.2.2.1 p hp
    rw [zl2_s, zl2_s]
    have rec' := ih fu fu' (i + 1) B' r' (by omega) (by omega) (by omega) e3 (e4.trans h2)
    by_cases c : bt_place B' p = bt_place B0 p
    · have c' : r' (93 + 3 * p) = s (93 + 3 * p) := by rw [← a1, ← b1]; exact c
      by_cases d : bt_heading B' p = bt_heading B0 p
      · have d' : r' (94 + 3 * p) = s (94 + 3 * p) := by rw [← a2, ← b2]; exact d
        simp only [zf_X1_round_b30, zf_X2_round_b27, if_neg (n60 (show i ≤ 60 by omega)), e1, e2, placeOf_in e3.1 hN hp, placeOf_in h0.1 hN hp, headingOf_in e3.1 hN hp, headingOf_in h0.1 hN hp, of_0, of_1, bd1_some, x0, y0, z0, u0, w0, t0, or_self, if_pos c, if_pos c', if_pos d, if_pos d', ↓reduceIte]
        exact ok ⟨rfl, hR⟩
      · have d' : ¬ r' (94 + 3 * p) = s (94 + 3 * p) := by rw [← a2, ← b2]; exact d
        simp only [zf_X1_round_b30, zf_X2_round_b27, if_neg (n60 (show i ≤ 60 by omega)), e1, e2, placeOf_in e3.1 hN hp, placeOf_in h0.1 hN hp, headingOf_in e3.1 hN hp, headingOf_in h0.1 hN hp, of_0, of_1, bd1_some, x0, y0, z0, u0, w0, t0, or_self, if_pos c, if_pos c', if_neg d, if_neg d', nI_1, ↓reduceIte]
        exact rec'
    · have c' : ¬ r' (93 + 3 * p) = s (93 + 3 * p) := by rw [← a1, ← b1]; exact c
      simp only [zf_X1_round_b30, zf_X2_round_b27, if_neg (n60 (show i ≤ 60 by omega)), e1, e2, placeOf_in e3.1 hN hp, placeOf_in h0.1 hN hp, of_0, bd1_some, x0, y0, z0, or_self, if_neg c, if_neg c', nI_1, ↓reduceIte]
      exact rec'
theorem sim_round {B M : BT} {s q g m : Nat → Int32} (hN : RN B s) (hR : RR g m) (v1 : Int32) : Ok (fun a b => a.1 = b.1 ∧ RR a.2.2 b.2.2) (zf_X1_round B M g v1) (zf_X2_round s q m v1) := by
  obtain ⟨⟨N, hN5, h⟩, h2⟩ := hN
  rcases person_cases h hN5 v1 with ⟨p, hp, rfl, n1, n2⟩ | ⟨n1, n2⟩
  · obtain ⟨B', q', e1, e2, e3, e4⟩ := becomes_copies (B := M) (q := q) h hN5
    simp only [zf_X1_round, zf_X2_round, n1, n2, bd1_some, one_0, e1, e2, ↓reduceIte]
    exact round_loop h hN5 hp hR 60 zb_FU zb_FU 1 B' q' (by omega) (fu_lt (by omega)) (fu_lt (by omega)) e3 (e4.trans h2)
  · obtain ⟨g', m', q1, q2, q3⟩ := rf1 hR
    simp only [zf_X1_round, zf_X2_round, n1, n2, bd1_some, bd2_some, q1, q2, ↓reduceIte]
    exact ok ⟨rfl, q3⟩
theorem sim_wetThen {B M : BT} {s q g m : Nat → Int32} (hN : RN B s) (hR : RR g m) (v1 v2 : Int32) : Ok (fun a b => a.1 = b.1 ∧ RR a.2.2 b.2.2) (zf_X1_wetThen B M g v1 v2) (zf_X2_wetThen s q m v1 v2) := by
  obtain ⟨⟨N, hN5, h⟩, h2⟩ := hN
  rcases node_cases v1 with ⟨k, hk, rfl, n1, n2⟩ | ⟨n1, n2⟩
  · rcases out_cases v2 0 60 (by omega) (by omega) with ⟨n, -, hn, rfl, o⟩ | ⟨o, -⟩ | ⟨o, -⟩
    · have o' : zf_X2_wrongBy (nI n) 0 60 = some 0 := o
      have o : zf_X1_outside (nI n) 0 60 = some 0 := o
      obtain ⟨B', q', e1, e2, e3, e4⟩ := becomes_copies (B := M) (q := q) h hN5
      obtain ⟨B1, r1, f1, f2, f3, f4⟩ := goOn_n (st := 0) (n := n) e3 hN5 (SA0' (e4.trans h2)) (by omega)
      have k3 := (f3.2.2.2.2 k hk).2.2.1
      have y63 : (105 ≤ 63 + k) = False := ge (by omega)
      simp only [zf_X1_wetThen, zf_X2_wetThen, zf_X2_takes, n1, n2, o, o', bd1_some, bd2_some, one_0, e1, e2, f1, f2, wetOf_in hk, g63 hk, c63 hk, y63, or_self, ↓reduceIte]
      exact ok ⟨k3, hR⟩
    · have o' : zf_X2_wrongBy v2 0 60 = some (-6) := o
      have o : zf_X1_outside v2 0 60 = some (-6) := o
      obtain ⟨g', m', q1, q2, q3⟩ := rf6 hR
      simp only [zf_X1_wetThen, zf_X2_wetThen, n1, n2, o, o', bd1_some, bd2_some, one_0, m6_0, q1, q2, ↓reduceIte]
      exact ok ⟨rfl, q3⟩
    · have o' : zf_X2_wrongBy v2 0 60 = some (-4) := o
      have o : zf_X1_outside v2 0 60 = some (-4) := o
      obtain ⟨g', m', q1, q2, q3⟩ := rf4 hR
      simp only [zf_X1_wetThen, zf_X2_wetThen, n1, n2, o, o', bd1_some, bd2_some, one_0, m4_0, q1, q2, ↓reduceIte]
      exact ok ⟨rfl, q3⟩
  · obtain ⟨g', m', q1, q2, q3⟩ := rf1 hR
    simp only [zf_X1_wetThen, zf_X2_wetThen, n1, n2, bd1_some, bd2_some, q1, q2, ↓reduceIte]
    exact ok ⟨rfl, q3⟩
