/-! the pure side, 18: a wall -/
theorem st_none {g m : Nat → Int32} {n p : Nat} (h : LG g m n) (hp : p < n) (a1 : ¬ LE g n p = 97) (a2 : ¬ LE g n p = 104) (a3 : ¬ LE g n p = 110) (a4 : ¬ LE g n p = 112) (a5 : ¬ LE g n p = 115) (a6 : ¬ LE g n p = 119) : ST g m n p := by
  have hn := h.1
  have hf : zf_X1_formBehind (LE g n p) = some 3 := by
    rw [zf_X1_formBehind, if_neg a1, if_neg a2, if_neg a3, if_neg a4, if_neg a5, if_neg a6]
  refine Or.inl ⟨p, by omega, fun rec => ?_, fun nums => ⟨nums, ?_⟩⟩
  · rw [zf_X1_placeAmiss_b11, if_neg (lim hp (by omega)), la_X1 g hn (by omega), bd1_some, hf, bd1_some, if_neg (by omega), form_empty.2.2.2, bd1_some, if_neg (show ¬ (1 : Int32) = 0 from by decide)]
  · rw [zf_X2_readsStatement, la_X2 h (by omega), bd1_some, if_neg a1, if_neg a2, if_neg a3, if_neg a4, if_neg a5, if_neg a6, nI_1, nI_pred]
theorem st_all {g m : Nat → Int32} {n p : Nat} (h : LG g m n) (hp : p < n) : ST g m n p := by
  by_cases a1 : LE g n p = 97
  · exact st_a h hp a1
  by_cases a2 : LE g n p = 104
  · exact st_h h hp a2
  by_cases a3 : LE g n p = 110
  · exact st_n h hp a3
  by_cases a4 : LE g n p = 112
  · exact st_p h hp a4
  by_cases a5 : LE g n p = 115
  · exact st_s h hp a5
  by_cases a6 : LE g n p = 119
  · exact st_w h hp a6
  exact st_none h hp a1 a2 a3 a4 a5 a6
def GD (g m : Nat → Int32) (n p e : Nat) : Prop := ∃ k, zf_X1_formBehind (LE g n p) = some k ∧ k < 3 ∧ zf_J0_length_8abf5 k = some (nI e) ∧ ∀ nums, ∃ nums', zf_X2_readsStatement m (nI n) (nI p) nums = some (1, nI (p + 1 + e), nums') ∧ ∀ N B r, N < 5 → RBN N B r → r 2 = 0 → AC (zf_X1_tellOne B g (nI n) (nI p)) (zf_X2_isDone r nums' (LE g n p))
def GS (g m : Nat → Int32) (n : Nat) : Nat → Nat → Prop
  | 0, p => p = n
  | c + 1, p => p < n ∧ ∃ e, GD g m n p e ∧ GS g m n c (p + 1 + e)
theorem neg9 : ∀ q, q < 200 → ¬ ((-1000 : Int32) - nI q = -9) ∧ ¬ ((-2000 : Int32) - nI q = -9) ∧ ¬ (nI q < 0) := by decide +kernel
theorem wall_reads {g m s w : Nat → Int32} {n : Nat} (h : LG g m n) : ∀ (d fu fu' p a : Nat) (nums : Nat → Int32), n ≤ p + d → p < n → d < fu → d < fu' →
    (∃ q, q < 200 ∧ zl1 (zf_X1_placeAmiss_b11 g (nI n)) fu (nI p) = some (nI q) ∧ ∃ v nums', zl4 (zf_X2_wall_b10 s w m (nI n)) fu' (nI a) (-9) (nI p) nums = zf_X2_wall_j46 v ((-1000) - nI q) s w m (nI n) nums') ∨
    (∃ c, GS g m n c p ∧ zl1 (zf_X1_placeAmiss_b11 g (nI n)) fu (nI p) = some (-1) ∧ ∃ nums', zl4 (zf_X2_wall_b10 s w m (nI n)) fu' (nI a) (-9) (nI p) nums = zf_X2_wall_j46 (nI (a + c)) (-9) s w m (nI n) nums') := by
  intro d
  have hn := h.1
  induction d with
  | zero => intro fu fu' p a nums hd hp; omega
  | succ d ih =>
    intro fu fu' p a nums hd hp hf hf'
    obtain ⟨fu, rfl⟩ : ∃ x, fu = x + 1 := ⟨fu - 1, by omega⟩
    obtain ⟨fu', rfl⟩ : ∃ x, fu' = x + 1 := ⟨fu' - 1, by omega⟩
    rcases st_all h hp with ⟨q, hq, x1, x2⟩ | ⟨e, k, k1, k2, k3, k4, k5, k6, x1, x2⟩
    · obtain ⟨nums', y2⟩ := x2 nums
      refine Or.inl ⟨q, hq, ?_, nI a + 1, nums', ?_⟩
      · rw [zl1_s, x1]
      · rw [zl4_s, zf_X2_wall_b10, y2, bd3_some, if_pos rfl, if_neg (neg9 q hq).1]
    · obtain ⟨nums', y2, y3⟩ := x2 nums
      have hgd : GD g m n p e := ⟨k, k1, k2, k3, x2⟩
      have E2 : zl4 (zf_X2_wall_b10 s w m (nI n)) (fu' + 1) (nI a) (-9) (nI p) nums = if nI (p + 1 + e) < nI n then zl4 (zf_X2_wall_b10 s w m (nI n)) fu' (nI (a + 1)) (-9) (nI (p + 1 + e)) nums' else zf_X2_wall_j46 (nI (a + 1)) (-9) s w m (nI n) nums' := by
        rw [zl4_s, zf_X2_wall_b10, y2, bd3_some, if_neg (show ¬ (1 : Int32) = 0 from by decide), if_pos rfl, nI_1]
      rw [zl1_s, x1, E2]
      by_cases c : p + 1 + e < n
      · rw [if_pos (nI_lt c (by omega))]
        rcases ih fu fu' (p + 1 + e) (a + 1) nums' (by omega) c (by omega) (by omega) with ⟨q, hq, z1, z2⟩ | ⟨t, t1, t2, nums2, t3⟩
        · exact Or.inl ⟨q, hq, z1, z2⟩
        · refine Or.inr ⟨t + 1, ⟨hp, e, hgd, t1⟩, t2, nums2, ?_⟩
          rw [t3, show a + 1 + t = a + (t + 1) by omega]
      · have ee : p + 1 + e = n := by omega
        obtain ⟨fu, rfl⟩ : ∃ x, fu = x + 1 := ⟨fu - 1, by omega⟩
        rw [if_neg (nI_nlt (by omega) (by omega))]
        refine Or.inr ⟨1, ⟨hp, e, hgd, ee⟩, ?_, nums', rfl⟩
        rw [zl1_s, zf_X1_placeAmiss_b11, ee, if_pos (Int32.le_refl _)]
theorem becomes_row {N : Nat} {C B : BT} {r : Nat → Int32} (h : RBN N C r) (hN : N < 5) : ∃ B', zf_X0_becomes B C = some B' ∧ RBN N B' r := by
  obtain ⟨B', q', e1, e2, e3, e4⟩ := becomes_copies (B := B) (q := r) h hN
  obtain ⟨q2, f1, f2⟩ := copies_ok r r
  have e : q' = q2 := Option.some.inj (e2.symm.trans f1)
  refine ⟨B', e1, RBN_congr e3 hN (fun k hk => ?_)⟩
  rw [e, f2 k hk]
theorem wall_tells {g m w s0 : Nat → Int32} {n N0 : Nat} {B0 : BT} (h : LG g m n) (h0 : RBN N0 B0 s0) (hN0 : N0 < 5) (h02 : s0 2 = 0) (hw : ∀ j, j < 105 → w j = s0 j) (V : Nat) : ∀ (c fu fu' p b N : Nat) (M : BT) (s nums : Nat → Int32), c < fu → c + 1 < fu' → p ≤ n → GS g m n c p → b + c = V → N < 5 → RBN N M s → s 2 = 0 →
    Ok (fun x y => x.1 = y.1 ∧ RN x.2.1 y.2.1 ∧ y.2.2.2.1 = 0) (zl3 (zf_X1_tellAll_b15 B0 g (nI n)) fu (nI b) (nI p) M) (zl4 (zf_X2_wall_b62 (nI V) w m (nI n)) fu' (-9) s (nI p) nums) := by
  have hn := h.1
  intro c
  induction c with
  | zero =>
    intro fu fu' p b N M s nums hf hf' hp hG hb hN hM h2
    obtain ⟨fu, rfl⟩ : ∃ x, fu = x + 1 := ⟨fu - 1, by omega⟩
    obtain ⟨fu', rfl⟩ : ∃ x, fu' = x + 1 := ⟨fu' - 1, by omega⟩
    have e : p = n := hG
    subst e
    have eb : b = V := by omega
    subst eb
    obtain ⟨B', e1, e2⟩ := becomes_row (B := B0) hM hN
    rw [zl3_s, zl4_s, zf_X1_tellAll_b15, zf_X2_wall_b62, if_pos (Int32.le_refl _), if_pos (show (-9 : Int32) = -9 from rfl), if_pos (Int32.le_refl _), zf_X1_tellAll_j59, e1, bd1_some, zf_X2_wall_j128, if_pos (show (-9 : Int32) = -9 from rfl)]
    exact ok ⟨rfl, ⟨⟨N, hN, e2⟩, h2⟩, rfl⟩
  | succ c ih =>
    intro fu fu' p b N M s nums hf hf' hp hG hb hN hM h2
    obtain ⟨fu, rfl⟩ : ∃ x, fu = x + 1 := ⟨fu - 1, by omega⟩
    obtain ⟨fu', rfl⟩ : ∃ x, fu' = x + 1 := ⟨fu' - 1, by omega⟩
    obtain ⟨hpn, e, ⟨k, k1, k2, k3, x2⟩, hG'⟩ := hG
    obtain ⟨nums', y2, y3⟩ := x2 nums
    have hle : p + 1 + e ≤ n := by
      cases c with
      | zero => exact Nat.le_of_eq hG'
      | succ c => exact Nat.le_of_lt hG'.1
    have E2 : zl4 (zf_X2_wall_b62 (nI V) w m (nI n)) (fu' + 1) (-9) s (nI p) nums = bd2 (zf_X2_isDone s nums' (LE g n p)) fun r9 n10 => if r9 = 0 then (bd1 (zf_X2_copies w n10) fun n11 => zl4 (zf_X2_wall_b62 (nI V) w m (nI n)) fu' ((-2000) - nI p) n11 (nI (p + 1 + e)) nums') else zl4 (zf_X2_wall_b62 (nI V) w m (nI n)) fu' (-9) n10 (nI (p + 1 + e)) nums' := by
      rw [zl4_s, zf_X2_wall_b62, if_pos (show (-9 : Int32) = -9 from rfl), if_neg (lim hpn (by omega)), la_X2 h (by omega), bd1_some, y2, bd3_some]
    rw [E2, zl3_s, zf_X1_tellAll_b15, if_neg (lim hpn (by omega))]
    rcases y3 N M s hN hM h2 with ⟨B', r', f1, f2⟩ | ⟨B', r', N', f1, f2, hN', hM', h2'⟩
    · obtain ⟨s2, q1, q2⟩ := copies_ok w r'
      obtain ⟨fu', rfl⟩ : ∃ x, fu' = x + 1 := ⟨fu' - 1, by omega⟩
      have n9 := (neg9 p (by omega)).2.1
      rw [f1, f2, bd2_some, bd2_some, if_pos rfl, if_pos rfl, q1, bd1_some, zl4_s, zf_X2_wall_b62, if_neg n9, zf_X2_wall_j128, if_neg n9]
      have hs : ∀ j, j < 105 → s2 j = s0 j := fun j hj => (q2 j hj).trans (hw j hj)
      exact ok ⟨rfl, ⟨⟨N0, hN0, RBN_congr h0 hN0 hs⟩, (hs 2 (by omega)).trans h02⟩, rfl⟩
    · have ep : nI p + ((1 : Int32) + nI e) = nI (p + 1 + e) := by
        rw [l1, nI_add, nI_add]; exact congrArg nI (by omega)
      rw [f1, f2, bd2_some, bd2_some, if_neg (show ¬ (1 : Int32) = 0 from by decide), if_neg (show ¬ (1 : Int32) = 0 from by decide), la_X1 g hn (by omega), bd1_some, k1, bd1_some, if_neg (by omega), k3, bd1_some, nI_1, ep]
      exact ih fu fu' (p + 1 + e) (b + 1) N' B' r' nums' (by omega) (by omega) hle hG' (by omega) hN' hM' h2'
theorem GS_le {g m : Nat → Int32} {n : Nat} : ∀ c p, GS g m n c p → p ≤ n → c ≤ n - p := by
  intro c
  induction c with
  | zero => intro p _ _; omega
  | succ c ih =>
    intro p h hp
    obtain ⟨h1, e, -, h2⟩ := h
    have hle : p + 1 + e ≤ n := by
      cases c with
      | zero => exact Nat.le_of_eq h2
      | succ c => exact Nat.le_of_lt h2.1
    have := ih (p + 1 + e) h2 hle
    omega
theorem sim_wall {B M : BT} {s w lg lm nums : Nat → Int32} {c d pl : Int32} (hN : RN B s) (hE : RE lg c lm d) : Ok (fun x y => x.1 = y.1 ∧ RN x.2.1 y.2.1 ∧ RE lg x.2.2.2 lm y.2.2.2.1) (zf_X1_wall B M lg c) (zf_X2_wall s w lm d pl nums) := by
  obtain ⟨⟨N, hN5, h⟩, h2⟩ := id hN
  obtain ⟨n, hn, rfl, rfl, hl⟩ := hE
  have hL : LG lg lm n := ⟨hn, hl⟩
  obtain ⟨w', w1, w2⟩ := copies_ok s w
  have J : ∀ v q nums', q < 200 → zf_X2_wall_j46 v ((-1000) - nI q) s w lm (nI n) nums' = some ((-1000) - nI q, s, w', 0, 0, nums') := by
    intro v q nums' hq
    have n9 := (neg9 q hq).1
    rw [zf_X2_wall_j46, w1, bd1_some, fu5, zl4_s, zf_X2_wall_b62, if_neg n9, zf_X2_wall_j128, if_neg n9]
  have F : ∀ q, q < 200 → ∀ X, X = some ((-1000) - nI q, s, w', 0, 0, nums) → True := fun _ _ _ _ => trivial
  rw [zf_X1_wall, zf_X1_placeAmiss]
  by_cases c0 : n = 0
  · subst c0
    have e2 : zf_X2_readsStatement lm (nI 0) 0 nums = some (0, nI 0, nums) := by
      rw [zf_X2_readsStatement, show zf_X2_here lm (nI 0) 0 = some (-1) from by rw [zf_X2_here, if_pos (by decide)], bd1_some, if_neg (by decide), if_neg (by decide), if_neg (by decide), if_neg (by decide), if_neg (by decide), if_neg (by decide)]; rfl
    have E2 : zf_X2_wall s w lm (nI 0) pl nums = some ((-1000) - nI 0, s, w', 0, 0, nums) := by
      rw [zf_X2_wall, fu5, zl4_s, zf_X2_wall_b10, e2, bd3_some, if_pos rfl, if_neg (neg9 0 (by omega)).1, J _ 0 nums (by omega)]
    rw [E2, if_pos (show nI 0 = 0 from rfl), bd1_some, if_neg (show ¬ (0 : Int32) < 0 from by decide)]
    exact ok ⟨rfl, hN, RE_0 lg lm⟩
  · rw [if_neg (nI_ne0 (by omega) (by omega))]
    rcases wall_reads (s := s) (w := w) hL n zb_FU zb_FU 0 0 nums (by omega) (by omega) (fu_lt (by omega)) (fu_lt (by omega)) with ⟨q, hq, z1, v, nums', z2⟩ | ⟨t, t1, t2, nums', t3⟩
    · have z1' : zl1 (zf_X1_placeAmiss_b11 lg (nI n)) zb_FU 0 = some (nI q) := z1
      have E2 : zf_X2_wall s w lm (nI n) pl nums = some ((-1000) - nI q, s, w', 0, 0, nums') := z2.trans (J v q nums' hq)
      rw [z1', E2, bd1_some, if_neg (neg9 q hq).2.2]
      exact ok ⟨rfl, hN, RE_0 lg lm⟩
    · have t2' : zl1 (zf_X1_placeAmiss_b11 lg (nI n)) zb_FU 0 = some (-1) := t2
      have htn := GS_le t 0 t1 (by omega)
      obtain ⟨B1, e1, e2⟩ := becomes_row (B := M) h hN5
      have E2 : zf_X2_wall s w lm (nI n) pl nums = zl4 (zf_X2_wall_b62 (nI t) w' lm (nI n)) zb_FU (-9) s 0 nums' := by
        refine t3.trans ?_
        rw [zf_X2_wall_j46, w1, bd1_some, Nat.zero_add]
      have E1 : zf_X1_tellAll B M lg (nI n) = zl3 (zf_X1_tellAll_b15 B lg (nI n)) zb_FU 0 0 B1 := by
        rw [zf_X1_tellAll, e1, bd1_some]
      obtain ⟨⟨x1, x2, x3⟩, ⟨y1, y2, y3, y4, y5⟩, g1, g2, g3, g4, g5⟩ := wall_tells hL h hN5 h2 w2 t t zb_FU zb_FU 0 0 N B1 s nums' (fu_lt (by omega)) (fu_lt (by omega)) (by omega) t1 (by omega) hN5 e2 h2
      have g1' : zl3 (zf_X1_tellAll_b15 B lg (nI n)) zb_FU 0 0 B1 = some (x1, x2, x3) := g1
      have g2' : zl4 (zf_X2_wall_b62 (nI t) w' lm (nI n)) zb_FU (-9) s 0 nums' = some (y1, y2, y3, y4, y5) := g2
      rw [t2', E2, bd1_some, if_pos (show (-1 : Int32) < 0 from by decide), E1, g1', g2', bd3_some]
      refine ok ⟨g3, g4, ?_⟩
      dsimp only at g5 ⊢
      rw [g5]
      exact RE_0 lg lm
