/-! the pure side, 6: sums, steps, letters, the row, the image, counts -/
def sm (f : Nat → Int32) : Nat → Int32
  | 0 => 0
  | n + 1 => sm f n + f n
theorem sm_s (f : Nat → Int32) (n : Nat) : sm f (n + 1) = sm f n + f n := rfl
theorem sm_congr {f g : Nat → Int32} : ∀ {n : Nat}, (∀ k, k < n → f k = g k) → sm f n = sm g n
  | 0, _ => rfl
  | n + 1, h => by rw [sm_s, sm_s, sm_congr (fun k hk => h k (by omega)), h n (by omega)]
theorem sm_add (f : Nat → Int32) (a : Nat) : ∀ b, sm f (a + b) = sm f a + sm (fun k => f (a + k)) b
  | 0 => (Int32.add_zero _).symm
  | b + 1 => by rw [← Nat.add_assoc, sm_s, sm_s, sm_add f a b, Int32.add_assoc]
theorem sumOf_ok (r : Nat → Int32) {a n b : Nat} (h : ∀ k, k < n → a + b * k < 105) (hn : n < 4000) (hb : a < 2 ^ 20 ∧ b < 2 ^ 10) : zf_X2_sumOf r (nI a) (nI n) (nI b) = some (sm (fun k => r (a + b * k)) n) := by
  have lp : ∀ (d fu k : Nat), k + d = n → d < fu → zl2 (zf_X2_sumOf_b6 (nI a) (nI n) (nI b) r) fu (sm (fun k => r (a + b * k)) k) (nI k) = some (sm (fun k => r (a + b * k)) n) := by
    intro d
    induction d with
    | zero =>
      intro fu k hk hf
      obtain ⟨fu, rfl⟩ : ∃ x, fu = x + 1 := ⟨fu - 1, by omega⟩
      have e : k = n := by omega
      subst e
      rw [zl2_s, zf_X2_sumOf_b6, if_pos (nI_le (Nat.le_refl _) (by omega))]
    | succ d ih =>
      intro fu k hk hf
      obtain ⟨fu, rfl⟩ : ∃ x, fu = x + 1 := ⟨fu - 1, by omega⟩
      have hi := h k (by omega)
      rw [zl2_s, zf_X2_sumOf_b6, if_neg (nI_ge (by omega) (by omega)), pk_mul, nI_add, if_neg (by rw [ix hi (by omega)]; exact id), nI_clamp (by omega), nI_1]
      exact ih fu (k + 1) (by omega) (by omega)
  exact lp n zb_FU 0 (by omega) (fu_lt (by omega))
theorem wetInRow_ok (B : BT) {w : Nat} (hw : w < 5) : zf_X0_wetInRow B (nI w) = some (sm (fun c => bt_wet B (w * 6 + c)) 6) := by
  have lp : ∀ (d fu k : Nat), k + d = 6 → d < fu → zl2 (zf_X0_wetInRow_b4 (nI w) B) fu (sm (fun c => bt_wet B (w * 6 + c)) k) (nI k) = some (sm (fun c => bt_wet B (w * 6 + c)) 6) := by
    intro d
    induction d with
    | zero =>
      intro fu k hk hf
      obtain ⟨fu, rfl⟩ : ∃ x, fu = x + 1 := ⟨fu - 1, by omega⟩
      have e : k = 6 := by omega
      subst e
      rw [zl2_s, zf_X0_wetInRow_b4, l6, if_pos (nI_le (Nat.le_refl _) (by omega))]
    | succ d ih =>
      intro fu k hk hf
      obtain ⟨fu, rfl⟩ : ∃ x, fu = x + 1 := ⟨fu - 1, by omega⟩
      rw [zl2_s, zf_X0_wetInRow_b4, l6, if_neg (nI_ge (by omega) (by omega)), pk_mul, nI_add, wetOf_in (by omega), bd1_some, nI_1]
      exact ih fu (k + 1) (by omega) (by omega)
  exact lp 6 zb_FU 0 (by omega) (fu_lt (by omega))
theorem rows_sum (f : Nat → Int32) : ∀ R, sm (fun w => sm (fun c => f (w * 6 + c)) 6) R = sm f (R * 6)
  | 0 => rfl
  | R + 1 => by rw [sm_s, rows_sum f R, Nat.succ_mul, sm_add]
theorem allWetB_ok (B : BT) : zf_X0_allWet B = some (sm (bt_wet B) 30) := by
  have lp : ∀ (d fu k : Nat), k + d = 5 → d < fu → zl2 (zf_X0_allWet_b4 B) fu (sm (fun w => sm (fun c => bt_wet B (w * 6 + c)) 6) k) (nI k) = some (sm (fun w => sm (fun c => bt_wet B (w * 6 + c)) 6) 5) := by
    intro d
    induction d with
    | zero =>
      intro fu k hk hf
      obtain ⟨fu, rfl⟩ : ∃ x, fu = x + 1 := ⟨fu - 1, by omega⟩
      have e : k = 5 := by omega
      subst e
      rw [zl2_s, zf_X0_allWet_b4, l5, if_pos (nI_le (Nat.le_refl _) (by omega))]
    | succ d ih =>
      intro fu k hk hf
      obtain ⟨fu, rfl⟩ : ∃ x, fu = x + 1 := ⟨fu - 1, by omega⟩
      rw [zl2_s, zf_X0_allWet_b4, l5, if_neg (nI_ge (by omega) (by omega)), wetInRow_ok B (by omega), bd1_some, nI_1]
      exact ih fu (k + 1) (by omega) (by omega)
  have e := lp 5 zb_FU 0 (by omega) (fu_lt (by omega))
  rw [rows_sum (bt_wet B) 5] at e
  exact e
theorem allWet_eq {N : Nat} {B : BT} {r : Nat → Int32} (h : RBN N B r) : zf_X0_allWet B = some (sm (bt_wet B) 30) ∧ zf_X2_allWet r = some (sm (bt_wet B) 30) := by
  refine ⟨allWetB_ok B, ?_⟩
  unfold zf_X2_allWet
  rw [l63, l30, l1, sumOf_ok r (a := 63) (n := 30) (b := 1) (fun k hk => by omega) (by omega) ⟨by omega, by omega⟩, bd1_some]
  exact congrArg some (sm_congr fun k hk => by rw [Nat.one_mul]; exact (h.2.2.2.2 k hk).2.2.1.symm)
theorem sim_steps {B : BT} {s g m : Nat → Int32} (hN : RN B s) (hR : RR g m) (v1 : Int32) : Ok (fun a b => a.1 = b.1 ∧ RN a.2.1 b.2.1 ∧ RR a.2.2 b.2.2) (zf_X1_steps B g v1) (zf_X2_steps s m v1) := by
  obtain ⟨⟨N, hN5, h⟩, h2⟩ := id hN
  rcases out_cases v1 1 60 (by omega) (by omega) with ⟨j, hj1, hj, rfl, o⟩ | ⟨o, c1, c2⟩ | ⟨o, c1⟩
  · have o : zf_X1_outside (nI j) 1 60 = some 0 := o
    have a1 : (1 : Int32) ≤ nI j := nI_le hj1 (by omega)
    have a2 : ¬ (60 : Int32) < nI j := nI_nlt (a := 60) hj (by omega)
    have e4 : bt_step B = s 1 := h.2.2.2.1
    by_cases c : bt_step B + nI j ≤ 999
    · have c' : s 1 + nI j ≤ 999 := by rw [← e4]; exact c
      obtain ⟨B', r', g1, g2, g3, g4⟩ := goOn_n (st := 0) (n := j) h hN5 (by rw [h2]; exact SA_0) (by omega)
      obtain ⟨w1, w2⟩ := allWet_eq g3
      simp only [zf_X1_steps, zf_X2_steps, zf_X0_stepCount, o, bd1_some, bd2_some, if_pos a1, if_neg a2, cl1, if_pos c, if_pos c', g1, g2, w1, w2, ↓reduceIte]
      exact ok ⟨rfl, ⟨⟨N, hN5, g3⟩, g4.trans h2⟩, hR⟩
    · have c' : ¬ s 1 + nI j ≤ 999 := by rw [← e4]; exact c
      obtain ⟨g', m', q1, q2, q3⟩ := rf6 hR
      simp only [zf_X1_steps, zf_X2_steps, zf_X0_stepCount, o, bd1_some, bd2_some, if_pos a1, if_neg a2, cl1, if_neg c, if_neg c', q1, q2, ↓reduceIte]
      exact ok ⟨rfl, hN, q3⟩
  · have o : zf_X1_outside v1 1 60 = some (-6) := o
    have c1 : (1 : Int32) ≤ v1 := c1
    have c2 : (60 : Int32) < v1 := c2
    obtain ⟨g', m', q1, q2, q3⟩ := rf6 hR
    simp only [zf_X1_steps, zf_X2_steps, o, bd1_some, bd2_some, m6_0, if_pos c1, if_pos c2, q1, q2, ↓reduceIte]
    exact ok ⟨rfl, hN, q3⟩
  · have o : zf_X1_outside v1 1 60 = some (-4) := o
    have c1 : ¬ (1 : Int32) ≤ v1 := c1
    obtain ⟨g', m', q1, q2, q3⟩ := rf4 hR
    simp only [zf_X1_steps, zf_X2_steps, o, bd1_some, bd2_some, m4_0, if_neg c1, q1, q2, ↓reduceIte]
    exact ok ⟨rfl, hN, q3⟩
theorem lt_nge {a b : Int32} (h : a < b) : ¬ b ≤ a := gt_le h
theorem sim_letter {g m lg lm : Nat → Int32} {c d : Int32} (hE : RE lg c lm d) (hR : RR g m) (v1 : Int32) : Ok (fun a b => a.1 = b.1 ∧ RE a.2.1 a.2.2.1 b.2.1 b.2.2.2 ∧ RR a.2.2.2 b.2.2.1) (zf_X1_letter lg c g v1) (zf_X2_letter lm m d v1) := by
  obtain ⟨n, hn, rfl, rfl, h⟩ := id hE
  rcases pk_ix v1 (n := 256) (by omega) with a | a | ⟨j, hj, rfl⟩
  · obtain ⟨g', m', q1, q2, q3⟩ := rf4 hR
    simp only [zf_X1_letter, zf_X2_letter, if_neg (lt_nge a), q1, q2, bd2_some]
    exact ok ⟨rfl, hE, q3⟩
  · have a1 : (0 : Int32) ≤ v1 := Int32.le_trans (by decide) a
    have a2 : (255 : Int32) < v1 := Int32.lt_of_lt_of_le (by decide) a
    obtain ⟨g', m', q1, q2, q3⟩ := rf6 hR
    simp only [zf_X1_letter, zf_X2_letter, if_pos a1, if_pos a2, q1, q2, bd2_some]
    exact ok ⟨rfl, hE, q3⟩
  · have a1 : (0 : Int32) ≤ nI j := nI_pos' (by omega)
    have a2 : ¬ (255 : Int32) < nI j := nI_nlt (a := 255) (by omega) (by omega)
    by_cases f : n < 96
    · have b1 : nI n < 96 := nI_lt (b := 96) f (by omega)
      have b2 : ¬ nI n < 0 := nI_pos (by omega)
      have b3 : ¬ (96 : Int32) ≤ nI n := nI_ge (b := 96) f (by omega)
      have b4 : ¬ nI n = 96 := fun z => by have := (nI_eq (b := 96) (by omega) (by omega)).mp z; omega
      have b5 : (96 ≤ n) = False := ge f
      simp only [zf_X1_letter, zf_X2_letter, if_pos a1, if_neg a2, if_pos b1, if_neg b2, if_neg b3, if_neg b4, ng (show n < 2 ^ 31 by omega), nI_clamp (show n < 2 ^ 31 by omega), b5, or_self, ↓reduceIte]
      refine ok ⟨rfl, ⟨n + 1, by omega, nI_1 n, nI_1 n, fun i hi => ?_⟩, hR⟩
      show upd lg n (nI j) i = upd lm n (nI j) i ∧ rg (upd lg n (nI j) i) 256
      by_cases e : i = n
      · subst e; rw [up_s, up_s]; exact ⟨rfl, rg_nI hj⟩
      · rw [up_n e, up_n e]; exact h i (by omega)
    · have e : n = 96 := by omega
      subst e
      have b1 : ¬ nI 96 < 96 := by decide
      have b4 : nI 96 = 96 := rfl
      obtain ⟨g', m', q1, q2, q3⟩ := rf6 hR
      simp only [zf_X1_letter, zf_X2_letter, if_pos a1, if_neg a2, if_neg b1, if_pos b4, q1, q2, bd2_some]
      exact ok ⟨rfl, hE, q3⟩
theorem sim_row {g m tg tm : Nat → Int32} {c d : Int32} (hO : RO tg c tm d) (hR : RR g m) (v1 : Int32) : Ok (fun a b => a.1 = b.1 ∧ RO a.2.1 a.2.2.1 b.2.1 b.2.2.2 ∧ RR a.2.2.2 b.2.2.1) (zf_X1_row tg c g v1) (zf_X2_row tm m d v1) := by
  obtain ⟨n, hn, rfl, rfl, h⟩ := id hO
  rcases pk_ix v1 (n := 100) (by omega) with a | a | ⟨j, hj, rfl⟩
  · obtain ⟨g', m', q1, q2, q3⟩ := rf4 hR
    have o : zf_X2_wrongBy v1 0 99 = some (-4) := by unfold zf_X2_wrongBy; rw [if_neg (lt_nge a)]
    simp only [zf_X1_row, zf_X2_row, zf_X2_row_j24, o, bd1_some, m4_0, if_neg (lt_nge a), q1, q2, bd2_some, ↓reduceIte]
    exact ok ⟨rfl, hO, q3⟩
  · have a1 : (0 : Int32) ≤ v1 := Int32.le_trans (by decide) a
    have a2 : (99 : Int32) < v1 := Int32.lt_of_lt_of_le (by decide) a
    obtain ⟨g', m', q1, q2, q3⟩ := rf6 hR
    have o : zf_X2_wrongBy v1 0 99 = some (-6) := by unfold zf_X2_wrongBy; rw [if_pos a1, if_neg (lt_nge a2)]
    simp only [zf_X1_row, zf_X2_row, zf_X2_row_j24, o, bd1_some, m6_0, if_pos a1, if_pos a2, q1, q2, bd2_some, ↓reduceIte]
    exact ok ⟨rfl, hO, q3⟩
  · have a1 : (0 : Int32) ≤ nI j := nI_pos' (by omega)
    have a2 : ¬ (99 : Int32) < nI j := nI_nlt (a := 99) (by omega) (by omega)
    have o : zf_X2_wrongBy (nI j) 0 99 = some 0 := by unfold zf_X2_wrongBy; rw [if_pos a1, if_pos (show nI j ≤ (99 : Int32) from nI_le (b := 99) (by omega) (by omega))]
    by_cases f : n < 16
    · have b1 : nI n < 16 := nI_lt (b := 16) f (by omega)
      have b2 : ¬ nI n < 0 := nI_pos (by omega)
      have b3 : ¬ (16 : Int32) ≤ nI n := nI_ge (b := 16) f (by omega)
      have b4 : ¬ nI n = 16 := fun z => by have := (nI_eq (b := 16) (by omega) (by omega)).mp z; omega
      have b5 : (16 ≤ n) = False := ge f
      simp only [zf_X1_row, zf_X2_row, zf_X2_row_j24, o, bd1_some, if_pos a1, if_neg a2, if_pos b1, if_neg b2, if_neg b3, if_neg b4, ng (show n < 2 ^ 31 by omega), nI_clamp (show n < 2 ^ 31 by omega), b5, or_self, ↓reduceIte]
      refine ok ⟨rfl, ⟨n + 1, by omega, nI_1 n, nI_1 n, fun i hi => ?_⟩, hR⟩
      show upd tg n (nI j) i = upd tm n (nI j) i
      by_cases e : i = n
      · subst e; rw [up_s, up_s]
      · rw [up_n e, up_n e]; exact h i (by omega)
    · have e : n = 16 := by omega
      subst e
      have b1 : ¬ nI 16 < 16 := by decide
      have b4 : nI 16 = 16 := rfl
      obtain ⟨g', m', q1, q2, q3⟩ := rf6 hR
      simp only [zf_X1_row, zf_X2_row, zf_X2_row_j24, o, bd1_some, m6_0, if_pos a1, if_neg a2, if_neg b1, if_pos b4, q1, q2, bd2_some, ↓reduceIte]
      exact ok ⟨rfl, hO, q3⟩
theorem sim_clear {tg tm : Nat → Int32} {c d : Int32} (hO : RO tg c tm d) : Ok (fun a b => a.1 = b.1 ∧ RO tg a.2 tm b.2) (zf_X1_clear c) (zf_X2_clear d) := by
  obtain ⟨n, hn, rfl, rfl, h⟩ := hO
  exact ok ⟨rfl, ⟨0, by omega, rfl, rfl, fun j hj => absurd hj (Nat.not_lt_zero j)⟩⟩
theorem RO_0 (f g : Nat → Int32) : RO f 0 g 0 := ⟨0, by omega, rfl, rfl, fun j hj => absurd hj (Nat.not_lt_zero j)⟩
theorem RE_0 (f g : Nat → Int32) : RE f 0 g 0 := ⟨0, by omega, rfl, rfl, fun j hj => absurd hj (Nat.not_lt_zero j)⟩
theorem nI_ne_neg {i : Nat} (h : i < 2 ^ 31) : ¬ nI i = (-9) := fun z => absurd (nI_pos' h) (by rw [z]; decide)
theorem toldAt_in (tg : Nat → Int32) {n i : Nat} (h : i < n) (hn : n ≤ 16) : zf_X1_toldAt tg (nI n) (nI i) = some (tg i) := by
  unfold zf_X1_toldAt
  rw [if_neg (nI_pos (by omega)), if_neg (nI_ge h (by omega)), if_neg (show ¬ (16 : Int32) ≤ nI i from nI_ge (b := 16) (by omega) (by omega)), if_neg (by rw [ix (by omega) (by omega)]; exact id), nI_clamp (by omega)]
theorem sim_judge {B : BT} {s tg tm : Nat → Int32} {c d : Int32} (hN : RN B s) (hO : RO tg c tm d) : Ok (fun a b => a.1 = b.1 ∧ RO tg a.2 tm b.2) (zf_X1_judge B tg c) (zf_X2_judge s tm d) := by
  obtain ⟨⟨N, hN5, h⟩, h2⟩ := hN
  obtain ⟨n, hn, rfl, rfl, ht⟩ := hO
  have lp : ∀ (d fu fu' i : Nat), i + d = n → d + 1 < fu → d < fu' → Ok (fun a b => a.1 = b.1 ∧ RO tg a.2 tm b.2) (zl2 (zf_X1_judge_b5 B tg (nI n)) fu (-9) (nI i)) (zl1 (zf_X2_judge_b12 (nI n) s tm 0) fu' (nI i)) := by
    intro d
    induction d with
    | zero =>
      intro fu fu' i hi hf hf'
      obtain ⟨fu, rfl⟩ : ∃ x, fu = x + 1 := ⟨fu - 1, by omega⟩
      obtain ⟨fu', rfl⟩ : ∃ x, fu' = x + 1 := ⟨fu' - 1, by omega⟩
      have e : i = n := by omega
      subst e
      rw [zl2_s, zl1_s, zf_X1_judge_b5, zf_X2_judge_b12, if_pos (nI_le (Nat.le_refl _) (by omega)), if_pos (nI_le (Nat.le_refl _) (by omega))]
      exact ok ⟨rfl, RO_0 _ _⟩
    | succ d ih =>
      intro fu fu' i hi hf hf'
      obtain ⟨fu, rfl⟩ : ∃ x, fu = x + 1 := ⟨fu - 1, by omega⟩
      obtain ⟨fu', rfl⟩ : ∃ x, fu' = x + 1 := ⟨fu' - 1, by omega⟩
      have hv : ¬ nI n ≤ nI i := nI_ge (by omega) (by omega)
      have hk : i < 30 := by omega
      obtain ⟨k1, k2, k3, -, -⟩ := h.2.2.2.2 i hk
      have y63 : (105 ≤ 63 + i) = False := ge (by omega)
      have y16 : (16 ≤ i) = False := ge (by omega)
      have te := ht i (by omega)
      rw [zl2_s, zl1_s]
      by_cases c : tg i = bt_wet B i
      · have c' : s (63 + i) = tm i := by rw [← k3, ← c, te]
        simp only [zf_X1_judge_b5, zf_X2_judge_b12, if_neg hv, toldAt_in tg (show i < n by omega) hn, wetOf_in hk, bd1_some, if_pos c, g63 hk, c63 hk, y63, ng (show i < 2 ^ 31 by omega), nI_clamp (show i < 2 ^ 31 by omega), y16, or_self, if_pos c', nI_1, ↓reduceIte]
        exact ih fu fu' (i + 1) (by omega) (by omega) (by omega)
      · have c' : ¬ s (63 + i) = tm i := fun z => c (by rw [te, ← z, ← k3])
        obtain ⟨fu, rfl⟩ : ∃ x, fu = x + 1 := ⟨fu - 1, by omega⟩
        simp only [zf_X1_judge_b5, zf_X2_judge_b12, if_neg hv, toldAt_in tg (show i < n by omega) hn, wetOf_in hk, bd1_some, if_neg c, g63 hk, c63 hk, y63, ng (show i < 2 ^ 31 by omega), nI_clamp (show i < 2 ^ 31 by omega), y16, or_self, if_neg c', nI_1, zl2_s, if_neg (nI_ne_neg (show i < 2 ^ 31 by omega)), ite_self, ↓reduceIte]
        exact ok ⟨rfl, RO_0 _ _⟩
  exact lp n zb_FU zb_FU 0 (by omega) (fu_lt (by omega)) (fu_lt (by omega))
theorem sim_image {B T : BT} {s i : Nat → Int32} {t h : Int32} (hN : RN B s) : Ok (fun a b => a.1 = b.1 ∧ RT a.2.1 a.2.2 b.2.1 b.2.2) (zf_X1_image B T t) (zf_X2_image s i h) := by
  obtain ⟨⟨N, hN5, hb⟩, h2⟩ := hN
  obtain ⟨B', q', e1, e2, e3, e4⟩ := becomes_copies (B := T) (q := i) hb hN5
  simp only [zf_X1_image, zf_X2_image, zf_X0_stepCount, e1, e2, bd1_some, cl1]
  exact ok ⟨hb.2.2.2.1, rfl, Or.inr ⟨rfl, ⟨N, hN5, e3⟩, e4.trans h2⟩⟩
theorem sim_on {B T : BT} {s i g m : Nat → Int32} {t h : Int32} (hN : RN B s) (hT : RT T t i h) (hR : RR g m) : Ok (fun a b => a.1 = b.1 ∧ RN a.2.1 b.2.1 ∧ RR a.2.2 b.2.2) (zf_X1_on B T t g) (zf_X2_on s i h m) := by
  obtain ⟨rfl, rfl | ⟨rfl, ⟨N, hN5, hb⟩, h2⟩⟩ := hT
  · obtain ⟨g', m', q1, q2, q3⟩ := rf3 hR
    simp only [zf_X1_on, zf_X2_on, q1, q2, bd2_some, ↓reduceIte]
    exact ok ⟨rfl, hN, q3⟩
  · obtain ⟨B', q', e1, e2, e3, e4⟩ := becomes_copies (B := B) (q := s) hb hN5
    simp only [zf_X1_on, zf_X2_on, zf_X0_stepCount, one_0, e1, e2, bd1_some, cl1, ↓reduceIte]
    exact ok ⟨e3.2.2.2.1, ⟨⟨N, hN5, e3⟩, e4.trans h2⟩, hR⟩
