/-! the pure side, 15: the least way -/
def CC (b : Nat) (g m : Nat → Int32) : Prop := ∀ k, k < 30 → (∃ x, x ≤ b ∧ g k = nI x ∧ m k = nI x) ∨ (g k = nI 1000 ∧ m k = nI 1000000000)
theorem CC_le {b c : Nat} {g m : Nat → Int32} (h : CC b g m) (hc : b ≤ c) : CC c g m := by
  intro k hk
  rcases h k hk with ⟨x, h1, h2⟩ | h2
  · exact Or.inl ⟨x, by omega, h2⟩
  · exact Or.inr h2
theorem costOf_in (g : Nat → Int32) {k : Nat} (hk : k < 30) : zf_X1_costOf g (nI k) = some (g k) := by
  rw [zf_X1_costOf, if_neg (nI_pos (by omega)), if_neg (show ¬ (30 : Int32) ≤ nI k from lim (N := 30) hk (by omega)), if_neg (nI_in (by omega) (by omega)), nI_clamp (by omega)]
theorem putCost_in (g : Nat → Int32) {k : Nat} (hk : k < 30) (v : Int32) : zf_X1_putCost g (nI k) v = some (upd g k v) := by
  rw [zf_X1_putCost, if_neg (nI_pos (by omega)), if_neg (show ¬ (30 : Int32) ≤ nI k from lim (N := 30) hk (by omega)), if_neg (nI_in (by omega) (by omega)), nI_clamp (by omega)]
theorem nd_ne : ∀ a, a < 30 → ∀ w, w < 4 → nd a w ≠ some a := by decide +kernel
theorem spread_loop {v x κ b : Nat} (hv : v < 30) (hx : x ≤ b) (hκ : κ ≤ 1) (hb : b < 950) : ∀ (d fu fu' i : Nat) (fl : Int32) (g m : Nat → Int32), i + d = 4 → d < fu → d < fu' → CC (b + 1) g m → m v = nI x → (fl = 0 ∨ fl = 1) →
    ∃ f g' m', zl3 (zf_X1_spread_b5 (nI v) (nI (x + κ))) fu fl (nI i) g = some (f, g') ∧ (∀ rec42, zl2 (zf_X2_measures_b110 rec42 (nI v) (nI κ)) fu' (nI i) m = rec42 (nI v + 1) m') ∧ CC (b + 1) g' m' ∧ (f = 0 ∨ f = 1) ∧ (f = 0 → fl = 0 ∧ g' = g) := by
  intro d
  induction d with
  | zero =>
    intro fu fu' i fl g m hi hf hf' hC hm hfl
    obtain ⟨fu, rfl⟩ : ∃ x, fu = x + 1 := ⟨fu - 1, by omega⟩
    obtain ⟨fu', rfl⟩ : ∃ x, fu' = x + 1 := ⟨fu' - 1, by omega⟩
    have e : i = 4 := by omega
    subst e
    refine ⟨fl, g, m, ?_, fun rec42 => ?_, hC, hfl, fun z => ⟨z, rfl⟩⟩
    · rw [zl3_s, zf_X1_spread_b5, if_pos (show (4 : Int32) ≤ nI 4 from by decide), if_pos hfl]
    · rw [zl2_s, zf_X2_measures_b110, if_pos (show (4 : Int32) ≤ nI 4 from by decide)]
  | succ d ih =>
    intro fu fu' i fl g m hi hf hf' hC hm hfl
    obtain ⟨fu, rfl⟩ : ∃ x, fu = x + 1 := ⟨fu - 1, by omega⟩
    obtain ⟨fu', rfl⟩ : ∃ x, fu' = x + 1 := ⟨fu' - 1, by omega⟩
    have h4 : ¬ (4 : Int32) ≤ nI i := lim (N := 4) (by omega) (by omega)
    have n1 := nd_X1 v hv i (by omega)
    have n2 := nd_X2 v hv i (by omega)
    have n3 := nd_lt v hv i (by omega)
    have n4 := nd_ne v hv i (by omega)
    cases hn : nd v i with
    | none =>
      rw [hn] at n1 n2
      dsimp only at n1 n2
      obtain ⟨f, g', m', k1, k2, k3, k4, k5⟩ := ih fu fu' (i + 1) fl g m (by omega) (by omega) (by omega) hC hm hfl
      refine ⟨f, g', m', ?_, fun rec42 => ?_, k3, k4, k5⟩
      · rw [zl3_s, zf_X1_spread_b5, if_neg h4, n1, bd1_some, if_pos (by decide), nI_1]; exact k1
      · rw [zl2_s, zf_X2_measures_b110, if_neg h4, n2, bd1_some, if_pos (by decide), nI_1]; exact k2 rec42
    | some c =>
      rw [hn] at n1 n2 n3 n4
      dsimp only [Option.getD_some] at n1 n2 n3
      have hcv : v ≠ c := fun z => n4 (by rw [z])
      have E2 : ∀ rec42 y, zf_X2_least (m c) (nI (x + κ)) = some y → zl2 (zf_X2_measures_b110 rec42 (nI v) (nI κ)) (fu' + 1) (nI i) m = zl2 (zf_X2_measures_b110 rec42 (nI v) (nI κ)) fu' (nI (i + 1)) (upd m c y) := by
        intro rec42 y hy
        rw [zl2_s, zf_X2_measures_b110, if_neg h4, n2, bd1_some, if_neg (nI_pos (by omega)), if_neg (nI_in (c := c) (N := 30) (by omega) (by omega)), if_neg (nI_in (c := v) (N := 30) (by omega) (by omega)), nI_clamp (show v < 2 ^ 31 by omega), nI_clamp (show c < 2 ^ 31 by omega), hm, nI_add, hy, bd1_some, if_neg (show ¬ (nI c < 0 ∨ 30 ≤ c) from fun z => z.elim (nI_pos (by omega)) (fun z => absurd z (by omega))), nI_1]
      have E1 : zl3 (zf_X1_spread_b5 (nI v) (nI (x + κ))) (fu + 1) fl (nI i) g = if g c ≤ nI (x + κ) then zl3 (zf_X1_spread_b5 (nI v) (nI (x + κ))) fu fl (nI (i + 1)) g else zl3 (zf_X1_spread_b5 (nI v) (nI (x + κ))) fu 1 (nI (i + 1)) (upd g c (nI (x + κ))) := by
        rw [zl3_s, zf_X1_spread_b5, if_neg h4, n1, bd1_some, if_neg (nI_pos (by omega)), costOf_in g n3, bd1_some, putCost_in g n3, bd1_some, nI_1]
      by_cases cc : g c ≤ nI (x + κ)
      · have hmc : zf_X2_least (m c) (nI (x + κ)) = some (m c) := by
          rcases hC c n3 with ⟨y, y1, y2, y3⟩ | ⟨y2, y3⟩
          · rw [y2] at cc
            rw [y3, zf_X2_least]
            by_cases e : nI (x + κ) ≤ nI y
            · rw [if_pos e, Int32.le_antisymm e cc]
            · rw [if_neg e]
          · rw [y2] at cc
            exact absurd cc (lim (by omega) (by omega))
        have hC' : CC (b + 1) g (upd m c (m c)) := by
          intro k hk
          by_cases e : k = c
          · rw [e, up_s]; exact hC c n3
          · rw [up_n e]; exact hC k hk
        obtain ⟨f, g', m', k1, k2, k3, k4, k5⟩ := ih fu fu' (i + 1) fl g (upd m c (m c)) (by omega) (by omega) (by omega) hC' (by rw [up_n hcv]; exact hm) hfl
        refine ⟨f, g', m', ?_, fun rec42 => ?_, k3, k4, k5⟩
        · rw [E1, if_pos cc]; exact k1
        · rw [E2 rec42 _ hmc]; exact k2 rec42
      · have hmc : zf_X2_least (m c) (nI (x + κ)) = some (nI (x + κ)) := by
          rw [zf_X2_least]
          rcases hC c n3 with ⟨y, y1, y2, y3⟩ | ⟨y2, y3⟩
          · rw [y2] at cc
            rw [y3, if_pos (Int32.le_of_lt (Int32.not_le.mp cc))]
          · rw [y3, if_pos (nI_le (by omega) (by omega))]
        have hC' : CC (b + 1) (upd g c (nI (x + κ))) (upd m c (nI (x + κ))) := by
          intro k hk
          by_cases e : k = c
          · rw [e, up_s, up_s]; exact Or.inl ⟨x + κ, by omega, rfl, rfl⟩
          · rw [up_n e, up_n e]; exact hC k hk
        obtain ⟨f, g', m', k1, k2, k3, k4, k5⟩ := ih fu fu' (i + 1) 1 (upd g c (nI (x + κ))) (upd m c (nI (x + κ))) (by omega) (by omega) (by omega) hC' (by rw [up_n hcv]; exact hm) (Or.inr rfl)
        refine ⟨f, g', m', ?_, fun rec42 => ?_, k3, k4, fun z => absurd (k5 z).1 (by decide)⟩
        · rw [E1, if_neg cc]; exact k1
        · rw [E2 rec42 _ hmc]; exact k2 rec42
/-- from a dry place nothing spreads, where dry places bar the way -/
theorem spread_bar {v b : Nat} {c : Nat} (hv : v < 30) (hc : 1000 ≤ c ∧ c < 4000) {g m : Nat → Int32} (hb : b < 950) (hC : CC b g m) : ∀ (d fu i : Nat), i + d = 4 → d < fu → zl3 (zf_X1_spread_b5 (nI v) (nI c)) fu 0 (nI i) g = some (0, g) := by
  intro d
  induction d with
  | zero =>
    intro fu i hi hf
    obtain ⟨fu, rfl⟩ : ∃ x, fu = x + 1 := ⟨fu - 1, by omega⟩
    have e : i = 4 := by omega
    subst e
    rw [zl3_s, zf_X1_spread_b5, if_pos (show (4 : Int32) ≤ nI 4 from by decide), if_pos (Or.inl rfl)]
  | succ d ih =>
    intro fu i hi hf
    obtain ⟨fu, rfl⟩ : ∃ x, fu = x + 1 := ⟨fu - 1, by omega⟩
    have h4 : ¬ (4 : Int32) ≤ nI i := lim (N := 4) (by omega) (by omega)
    have n1 := nd_X1 v hv i (by omega)
    have n3 := nd_lt v hv i (by omega)
    rw [zl3_s, zf_X1_spread_b5, if_neg h4, n1, bd1_some]
    cases hn : nd v i with
    | none =>
      dsimp only
      rw [if_pos (by decide), nI_1]
      exact ih fu (i + 1) (by omega) (by omega)
    | some a =>
      rw [hn] at n3
      dsimp only [Option.getD_some] at n3 ⊢
      have hle : g a ≤ nI c := by
        rcases hC a n3 with ⟨y, y1, y2, y3⟩ | ⟨y2, y3⟩
        · rw [y2]; exact nI_le (by omega) (by omega)
        · rw [y2]; exact nI_le (by omega) (by omega)
      rw [if_neg (nI_pos (by omega)), costOf_in g n3, bd1_some, if_pos hle, nI_1]
      exact ih fu (i + 1) (by omega) (by omega)
/-- the two counts: a step's cost at a wet and at a dry place -/
def MD (v2 v3 v4 : Int32) : Prop := (v2 = 0 ∧ v3 = 1 ∧ v4 = 1000) ∨ (v2 = 1 ∧ v3 = 0 ∧ v4 = 1)
theorem node_step {N b j : Nat} {B : BT} {s : Nat → Int32} (h : RBN N B s) {v2 v3 v4 : Int32} (hM : MD v2 v3 v4) (hj : j < 30) (hb : b < 950) {g m : Nat → Int32} (hC : CC b g m) :
    ∃ f g' m', (∀ rec22 rec40 v6 fl, zf_X1_leastCost_b40 rec22 v3 v4 v6 B rec40 fl (nI j) g = rec40 (if f = 0 then fl else 1) (nI (j + 1)) g') ∧ (∀ rec33 rec42 v3', zf_X2_measures_b42 rec33 v2 v3' s rec42 (nI j) m = rec42 (nI (j + 1)) m') ∧ CC (b + 1) g' m' ∧ (f = 0 ∨ f = (1 : Int32)) ∧ (f = 0 → g' = g) := by
  have h30 : ¬ (30 : Int32) ≤ nI j := lim (N := 30) hj (by omega)
  have k3 := (h.2.2.2.2 j hj).2.2.1
  obtain ⟨w, hw, ew⟩ := (h.2.2.2.2 j hj).2.2.2.2
  rcases hC j hj with ⟨x, hx, hgx, hmx⟩ | ⟨hgx, hmx⟩
  · have hg1 : ¬ (1000 : Int32) ≤ g j := by rw [hgx]; exact lim (N := 1000) (by omega) (by omega)
    have hm1 : ¬ (1000000000 : Int32) ≤ m j := by rw [hmx]; exact lim (N := 1000000000) (by omega) (by omega)
    have X1 : ∀ (κ : Nat) f g', zf_X1_spread g (nI j) (nI (x + κ)) = some (f, g') → ∀ rec40 fl, zf_X1_leastCost_j65 rec40 fl (nI j) (nI κ) g = rec40 (if f = 0 then fl else 1) (nI (j + 1)) g' := by
      intro κ f g' hs rec40 fl
      rw [zf_X1_leastCost_j65, costOf_in g hj, bd1_some, if_neg hg1, bd1_some, hgx, nI_add, hs, bd2_some, nI_1]
      by_cases e : f = 0
      · rw [if_pos e, if_pos e]
      · rw [if_neg e, if_neg e]
    have go : ∀ κ, κ ≤ 1 → ∃ f g' m', zf_X1_spread g (nI j) (nI (x + κ)) = some (f, g') ∧ (∀ rec42, zl2 (zf_X2_measures_b110 rec42 (nI j) (nI κ)) zb_FU 0 m = rec42 (nI j + 1) m') ∧ CC (b + 1) g' m' ∧ (f = 0 ∨ f = 1) ∧ (f = 0 → g' = g) := by
      intro κ hκ
      obtain ⟨f, g', m', k1, k2, k3, k4, k5⟩ := spread_loop hj hx hκ hb 4 zb_FU zb_FU 0 0 g m (by omega) (fu_lt (by omega)) (fu_lt (by omega)) (CC_le hC (by omega)) hmx (Or.inl rfl)
      exact ⟨f, g', m', k1, k2, k3, k4, fun z => (k5 z).2⟩
    by_cases c : bt_wet B j = 0
    · have c' : s (63 + j) = 0 := k3.symm.trans c
      have le0 : bt_wet B j ≤ 0 := by rw [c]; exact Int32.le_refl _
      rcases hM with ⟨rfl, rfl, rfl⟩ | ⟨rfl, rfl, rfl⟩
      · refine ⟨0, g, m, fun rec22 rec40 v6 fl => ?_, fun rec33 rec42 v3' => ?_, CC_le hC (by omega), Or.inl rfl, fun _ => rfl⟩
        · have hs : zf_X1_spread g (nI j) (nI (x + 1000)) = some (0, g) := spread_bar hj ⟨by omega, by omega⟩ hb hC 4 zb_FU 0 (by omega) (fu_lt (by omega))
          rw [zf_X1_leastCost_b40, if_neg h30, wetOf_in hj, bd1_some, if_pos le0]
          exact X1 1000 0 g hs rec40 fl
        · rw [zf_X2_measures_b42, if_neg h30, if_neg (nI_in (c := j) (N := 30) (by omega) (by omega)), nI_clamp (by omega), if_neg hm1, if_pos rfl, isDry_in s hj, if_pos c', bd1_some, if_neg (show ¬ (1 : Int32) = 0 from by decide), nI_1]
      · obtain ⟨f, g', m', k1, k2, k3, k4, k5⟩ := go 1 (by omega)
        refine ⟨f, g', m', fun rec22 rec40 v6 fl => ?_, fun rec33 rec42 v3' => ?_, k3, k4, k5⟩
        · rw [zf_X1_leastCost_b40, if_neg h30, wetOf_in hj, bd1_some, if_pos le0]
          exact X1 1 f g' k1 rec40 fl
        · rw [zf_X2_measures_b42, if_neg h30, if_neg (nI_in (c := j) (N := 30) (by omega) (by omega)), nI_clamp (by omega), if_neg hm1, if_neg (show ¬ (1 : Int32) = 0 from by decide), if_neg (show ¬ (1 : Int32) = 0 from by decide), isDry_in s hj, if_pos c', bd1_some, if_neg (show ¬ (1 : Int32) = 0 from by decide), ← nI_1]
          exact k2 rec42
    · have c' : ¬ s (63 + j) = 0 := fun z => c (k3.trans z)
      have le0 : ¬ bt_wet B j ≤ 0 := by
        rw [ew]
        exact nI_nle (by
          rcases Nat.eq_zero_or_pos w with z | z
          · exact absurd (ew.trans (by rw [z]; rfl)) c
          · exact z) (by omega)
      rcases hM with ⟨rfl, rfl, rfl⟩ | ⟨rfl, rfl, rfl⟩
      · obtain ⟨f, g', m', k1, k2, k3, k4, k5⟩ := go 1 (by omega)
        refine ⟨f, g', m', fun rec22 rec40 v6 fl => ?_, fun rec33 rec42 v3' => ?_, k3, k4, k5⟩
        · rw [zf_X1_leastCost_b40, if_neg h30, wetOf_in hj, bd1_some, if_neg le0]
          exact X1 1 f g' k1 rec40 fl
        · rw [zf_X2_measures_b42, if_neg h30, if_neg (nI_in (c := j) (N := 30) (by omega) (by omega)), nI_clamp (by omega), if_neg hm1, if_pos rfl, isDry_in s hj, if_neg c', bd1_some, if_pos rfl, if_pos rfl, ← nI_1]
          exact k2 rec42
      · obtain ⟨f, g', m', k1, k2, k3, k4, k5⟩ := go 0 (by omega)
        refine ⟨f, g', m', fun rec22 rec40 v6 fl => ?_, fun rec33 rec42 v3' => ?_, k3, k4, k5⟩
        · rw [zf_X1_leastCost_b40, if_neg h30, wetOf_in hj, bd1_some, if_neg le0]
          exact X1 0 f g' k1 rec40 fl
        · rw [zf_X2_measures_b42, if_neg h30, if_neg (nI_in (c := j) (N := 30) (by omega) (by omega)), nI_clamp (by omega), if_neg hm1, if_neg (show ¬ (1 : Int32) = 0 from by decide), if_neg (show ¬ (1 : Int32) = 0 from by decide), isDry_in s hj, if_neg c', bd1_some, if_pos rfl, ← nI_1]
          exact k2 rec42
  · have hg1 : (1000 : Int32) ≤ g j := by rw [hgx]; exact Int32.le_refl _
    have hm1 : (1000000000 : Int32) ≤ m j := by rw [hmx]; exact Int32.le_refl _
    refine ⟨0, g, m, fun rec22 rec40 v6 fl => ?_, fun rec33 rec42 v3' => ?_, CC_le hC (by omega), Or.inl rfl, fun _ => rfl⟩
    · have X1 : ∀ κ, zf_X1_leastCost_j65 rec40 fl (nI j) κ g = rec40 (if (0 : Int32) = 0 then fl else 1) (nI (j + 1)) g := by
        intro κ
        rw [zf_X1_leastCost_j65, costOf_in g hj, bd1_some, if_pos hg1, nI_1, if_pos rfl]
      rw [zf_X1_leastCost_b40, if_neg h30, wetOf_in hj, bd1_some, X1, X1]
      by_cases c : bt_wet B j ≤ 0
      · rw [if_pos c]
      · rw [if_neg c]
    · rw [zf_X2_measures_b42, if_neg h30, if_neg (nI_in (c := j) (N := 30) (by omega) (by omega)), nI_clamp (by omega), if_pos hm1, nI_1]
theorem round_step {N b : Nat} {B : BT} {s : Nat → Int32} (h : RBN N B s) {v2 v3 v4 : Int32} (hM : MD v2 v3 v4) (hb : b < 900) : ∀ (d fu fu' j : Nat) (fl : Int32) (g m : Nat → Int32), j + d = 30 → d < fu → d < fu' → CC (b + j) g m → (fl = 0 ∨ fl = 1) →
    ∃ f g' m', (∀ rec22 v6, zl3 (zf_X1_leastCost_b40 rec22 v3 v4 v6 B) fu fl (nI j) g = rec22 f (v6 + 1) g') ∧ (∀ rec33 v3', zl2 (zf_X2_measures_b42 rec33 v2 v3' s) fu' (nI j) m = rec33 (v3' + 1) m') ∧ CC (b + 30) g' m' ∧ (f = 0 ∨ f = 1) ∧ (f = 0 → fl = 0 ∧ g' = g) := by
  intro d
  induction d with
  | zero =>
    intro fu fu' j fl g m hi hf hf' hC hfl
    obtain ⟨fu, rfl⟩ : ∃ x, fu = x + 1 := ⟨fu - 1, by omega⟩
    obtain ⟨fu', rfl⟩ : ∃ x, fu' = x + 1 := ⟨fu' - 1, by omega⟩
    have e : j = 30 := by omega
    subst e
    refine ⟨fl, g, m, fun rec22 v6 => ?_, fun rec33 v3' => ?_, hC, hfl, fun z => ⟨z, rfl⟩⟩
    · rw [zl3_s, zf_X1_leastCost_b40, if_pos (show (30 : Int32) ≤ nI 30 from by decide)]
    · rw [zl2_s, zf_X2_measures_b42, if_pos (show (30 : Int32) ≤ nI 30 from by decide)]
  | succ d ih =>
    intro fu fu' j fl g m hi hf hf' hC hfl
    obtain ⟨fu, rfl⟩ : ∃ x, fu = x + 1 := ⟨fu - 1, by omega⟩
    obtain ⟨fu', rfl⟩ : ∃ x, fu' = x + 1 := ⟨fu' - 1, by omega⟩
    obtain ⟨f1, g1, m1, a1, a2, a3, a4, a5⟩ := node_step h hM (show j < 30 by omega) (show b + j < 950 by omega) hC
    obtain ⟨f, g', m', k1, k2, k3, k4, k5⟩ := ih fu fu' (j + 1) (if f1 = 0 then fl else 1) g1 m1 (by omega) (by omega) (by omega) a3 (by
      by_cases e : f1 = 0
      · rw [if_pos e]; exact hfl
      · rw [if_neg e]; exact Or.inr rfl)
    refine ⟨f, g', m', fun rec22 v6 => ?_, fun rec33 v3' => ?_, k3, k4, fun z => ?_⟩
    · rw [zl3_s, a1]; exact k1 rec22 v6
    · rw [zl2_s, a2]; exact k2 rec33 v3'
    · obtain ⟨z1, z2⟩ := k5 z
      by_cases e : f1 = 0
      · rw [if_pos e] at z1
        exact ⟨z1, z2.trans (a5 e)⟩
      · rw [if_neg e] at z1
        exact absurd z1 (by decide)
theorem rounds_still {N : Nat} {B : BT} {s : Nat → Int32} (h : RBN N B s) {v2 v3 v4 : Int32} (hM : MD v2 v3 v4) {g : Nat → Int32} (hg : ∀ rec22 v6, zl3 (zf_X1_leastCost_b40 rec22 v3 v4 v6 B) zb_FU 0 0 g = rec22 0 (v6 + 1) g) : ∀ (d fu i : Nat) (m : Nat → Int32), i + d = 30 → d < fu → CC (30 * i) g m →
    ∃ m', zl2 (zf_X2_measures_b33 v2 s) fu (nI i) m = some m' ∧ CC 900 g m' := by
  intro d
  induction d with
  | zero =>
    intro fu i m hi hf hC
    obtain ⟨fu, rfl⟩ : ∃ x, fu = x + 1 := ⟨fu - 1, by omega⟩
    have e : i = 30 := by omega
    subst e
    exact ⟨m, by rw [zl2_s, zf_X2_measures_b33, if_pos (show (30 : Int32) ≤ nI 30 from by decide)], hC⟩
  | succ d ih =>
    intro fu i m hi hf hC
    obtain ⟨fu, rfl⟩ : ∃ x, fu = x + 1 := ⟨fu - 1, by omega⟩
    have h30 : ¬ (30 : Int32) ≤ nI i := lim (N := 30) (by omega) (by omega)
    obtain ⟨f, g', m', k1, k2, k3, k4, k5⟩ := round_step h hM (show 30 * i < 900 by omega) 30 zb_FU zb_FU 0 0 g m (by omega) (fu_lt (by omega)) (fu_lt (by omega)) hC (Or.inl rfl)
    have e := (hg (fun a _ c => some (a, c)) 0).symm.trans (k1 (fun a _ c => some (a, c)) 0)
    have e2 : g' = g := (congrArg Prod.snd (Option.some.inj e)).symm
    rw [e2] at k3
    obtain ⟨m2, q1, q2⟩ := ih fu (i + 1) m' (by omega) (by omega) k3
    refine ⟨m2, ?_, q2⟩
    rw [zl2_s, zf_X2_measures_b33, if_neg h30]
    refine (k2 _ _).trans ?_
    rw [nI_1]; exact q1
theorem rounds_all {N v : Nat} {B : BT} {s : Nat → Int32} (h : RBN N B s) (hv : v < 30) {v2 v3 v4 : Int32} (hM : MD v2 v3 v4) : ∀ (d fu fu' i : Nat) (fl : Int32) (g m : Nat → Int32), i + d = 30 → d < fu → d < fu' → CC (30 * i) g m → (fl = 0 ∨ fl = 1) → (fl = 0 → ∀ rec22 v6, zl3 (zf_X1_leastCost_b40 rec22 v3 v4 v6 B) zb_FU 0 0 g = rec22 0 (v6 + 1) g) →
    ∃ g' m', zl3 (zf_X1_leastCost_b22 (nI v) v3 v4 B) fu fl (nI i) g = some (g' v, g') ∧ zl2 (zf_X2_measures_b33 v2 s) fu' (nI i) m = some m' ∧ CC 900 g' m' := by
  intro d
  induction d with
  | zero =>
    intro fu fu' i fl g m hi hf hf' hC hfl hg
    obtain ⟨fu, rfl⟩ : ∃ x, fu = x + 1 := ⟨fu - 1, by omega⟩
    obtain ⟨fu', rfl⟩ : ∃ x, fu' = x + 1 := ⟨fu' - 1, by omega⟩
    have e : i = 30 := by omega
    subst e
    refine ⟨g, m, ?_, ?_, hC⟩
    · rw [zl3_s, zf_X1_leastCost_b22, if_pos (show (30 : Int32) ≤ nI 30 from by decide), costOf_in g hv, bd1_some]
    · rw [zl2_s, zf_X2_measures_b33, if_pos (show (30 : Int32) ≤ nI 30 from by decide)]
  | succ d ih =>
    intro fu fu' i fl g m hi hf hf' hC hfl hg
    have h30 : ¬ (30 : Int32) ≤ nI i := lim (N := 30) (by omega) (by omega)
    by_cases e : fl = 0
    · obtain ⟨fu, rfl⟩ : ∃ x, fu = x + 1 := ⟨fu - 1, by omega⟩
      obtain ⟨m', q1, q2⟩ := rounds_still h hM (hg e) (d + 1) fu' i m (by omega) (by omega) hC
      refine ⟨g, m', ?_, q1, q2⟩
      rw [zl3_s, zf_X1_leastCost_b22, if_neg h30, if_pos e, costOf_in g hv, bd1_some]
    · obtain ⟨fu, rfl⟩ : ∃ x, fu = x + 1 := ⟨fu - 1, by omega⟩
      obtain ⟨fu', rfl⟩ : ∃ x, fu' = x + 1 := ⟨fu' - 1, by omega⟩
      obtain ⟨f, g', m', k1, k2, k3, k4, k5⟩ := round_step h hM (show 30 * i < 900 by omega) 30 zb_FU zb_FU 0 0 g m (by omega) (fu_lt (by omega)) (fu_lt (by omega)) hC (Or.inl rfl)
      have k1' : ∀ rec22 v6, zl3 (zf_X1_leastCost_b40 rec22 v3 v4 v6 B) zb_FU 0 0 g = rec22 f (v6 + 1) g' := k1
      obtain ⟨g2, m2, q1, q2, q3⟩ := ih fu fu' (i + 1) f g' m' (by omega) (by omega) (by omega) k3 k4 (by
        intro z
        have e2 := (k5 z).2
        rw [z] at k1'
        rw [e2] at k1' ⊢
        exact k1')
      refine ⟨g2, m2, ?_, ?_, q3⟩
      · rw [zl3_s, zf_X1_leastCost_b22, if_neg h30, if_neg e, k1', nI_1]; exact q1
      · rw [zl2_s, zf_X2_measures_b33, if_neg h30]
        refine (k2 _ _).trans ?_
        rw [nI_1]; exact q2
theorem fill_loop (v : Int32) : ∀ (d fu i : Nat) (r : Nat → Int32), i + d = 30 → d < fu → (∀ k, k < i → r k = v) → ∃ r', zl2 (zf_J7_fill_53178_b5 v 30) fu (nI i) r = some r' ∧ ∀ k, k < 30 → r' k = v := by
  intro d
  induction d with
  | zero =>
    intro fu i r hi hf hr
    obtain ⟨fu, rfl⟩ : ∃ x, fu = x + 1 := ⟨fu - 1, by omega⟩
    have e : i = 30 := by omega
    subst e
    exact ⟨r, by rw [zl2_s, zf_J7_fill_53178_b5, if_pos (show (30 : Int32) ≤ nI 30 from by decide)], hr⟩
  | succ d ih =>
    intro fu i r hi hf hr
    obtain ⟨fu, rfl⟩ : ∃ x, fu = x + 1 := ⟨fu - 1, by omega⟩
    have h30 : ¬ (30 : Int32) ≤ nI i := lim (N := 30) (by omega) (by omega)
    obtain ⟨r', k1, k2⟩ := ih fu (i + 1) (upd r i v) (by omega) (by omega) (fun k hk => by
      by_cases e : k = i
      · rw [e, up_s]
      · rw [up_n e]; exact hr k (by omega))
    refine ⟨r', ?_, k2⟩
    rw [zl2_s, zf_J7_fill_53178_b5, if_neg h30, if_neg (nI_in (by omega) (by omega)), nI_clamp (by omega), nI_1]
    exact k1
theorem fill_ok (r : Nat → Int32) (v : Int32) : ∃ r', zf_J7_fill_53178 r v = some r' ∧ ∀ k, k < 30 → r' k = v := fill_loop v 30 zb_FU 0 r (by omega) (fu_lt (by omega)) (fun k hk => absurd hk (Nat.not_lt_zero k))
theorem init_loop {a : Nat} (ha : a < 30) (v2 : Int32) (s : Nat → Int32) : ∀ (d fu i : Nat) (r : Nat → Int32), i + d = 30 → d < fu → (∀ k, k < i → r k = if k = a then 0 else nI 1000000000) → ∃ r', zl2 (zf_X2_measures_b2 (nI a) v2 s) fu (nI i) r = zl2 (zf_X2_measures_b33 v2 s) zb_FU 0 r' ∧ ∀ k, k < 30 → r' k = if k = a then 0 else nI 1000000000 := by
  intro d
  induction d with
  | zero =>
    intro fu i r hi hf hr
    obtain ⟨fu, rfl⟩ : ∃ x, fu = x + 1 := ⟨fu - 1, by omega⟩
    have e : i = 30 := by omega
    subst e
    exact ⟨r, by rw [zl2_s, zf_X2_measures_b2, if_pos (show (30 : Int32) ≤ nI 30 from by decide)], hr⟩
  | succ d ih =>
    intro fu i r hi hf hr
    obtain ⟨fu, rfl⟩ : ∃ x, fu = x + 1 := ⟨fu - 1, by omega⟩
    have h30 : ¬ (30 : Int32) ≤ nI i := lim (N := 30) (by omega) (by omega)
    obtain ⟨r', k1, k2⟩ := ih fu (i + 1) (upd r i (if i = a then 0 else nI 1000000000)) (by omega) (by omega) (fun k hk => by
      by_cases e : k = i
      · rw [e, up_s]
      · rw [up_n e]; exact hr k (by omega))
    refine ⟨r', ?_, k2⟩
    rw [zl2_s, zf_X2_measures_b2, if_neg h30, if_neg (nI_in (c := i) (N := 30) (by omega) (by omega)), if_neg (nI_in (c := i) (N := 30) (by omega) (by omega)), nI_clamp (by omega), nI_1]
    by_cases e : i = a
    · rw [if_pos e] at k1
      rw [if_pos (by rw [e])]
      exact k1
    · rw [if_neg e] at k1
      rw [if_neg (fun z => e ((nI_eq (by omega) (by omega)).mp z))]
      exact k1
theorem way_core {N a v : Nat} {B : BT} {s : Nat → Int32} (h : RBN N B s) (ha : a < 30) (hv : v < 30) {v2 v3 v4 : Int32} (hM : MD v2 v3 v4) (gc mc : Nat → Int32) :
    ∃ g' m', zf_X1_leastCost B gc (nI a) (nI v) v3 v4 = some (g' v, g') ∧ zf_X2_measures s mc (nI a) v2 = some m' ∧ CC 900 g' m' := by
  obtain ⟨g1, e1, e2⟩ := fill_ok gc 1000
  obtain ⟨m1, f1, f2⟩ := init_loop ha v2 s 30 zb_FU 0 mc (by omega) (fu_lt (by omega)) (fun k hk => absurd hk (Nat.not_lt_zero k))
  have hC : CC (30 * 0) (upd g1 a 0) m1 := by
    intro k hk
    by_cases e : k = a
    · rw [f2 k hk, if_pos e, e, up_s]; exact Or.inl ⟨0, by omega, rfl, rfl⟩
    · rw [f2 k hk, if_neg e, up_n e, e2 k hk]; exact Or.inr ⟨rfl, rfl⟩
  obtain ⟨g', m', k1, k2, k3⟩ := rounds_all h hv hM 30 zb_FU zb_FU 0 1 (upd g1 a 0) m1 (by omega) (fu_lt (by omega)) (fu_lt (by omega)) hC (Or.inr rfl) (fun z => absurd z (by decide))
  refine ⟨g', m', ?_, ?_, k3⟩
  · rw [zf_X1_leastCost, e1, bd1_some, putCost_in g1 ha, bd1_some]; exact k1
  · exact f1.trans k2
theorem sim_way {B : BT} {s g m gc mc : Nat → Int32} (hN : RN B s) (hR : RR g m) (v1 v2 v3 : Int32) : Ok (fun x y => x.1 = y.1 ∧ RR x.2.1 y.2.1) (zf_X1_way B g gc v1 v2 v3) (zf_X2_way s m mc v1 v2 v3) := by
  obtain ⟨⟨N, hN5, h⟩, h2⟩ := hN
  obtain ⟨ga, ma, a1, a2, a3⟩ := rf1 hR
  obtain ⟨g2, m2, b1, b2, b3⟩ := rf2 hR
  have n1 : ¬ (1 : Int32) = 0 := by decide
  rw [zf_X1_way, zf_X2_way]
  rcases node_cases v1 with ⟨a, ha, rfl, w1, w2⟩ | ⟨w1, w2⟩
  · rw [w1, w2, bd1_some, bd1_some, if_neg n1, if_neg n1]
    rcases node_cases v2 with ⟨v, hv, rfl, u1, u2⟩ | ⟨u1, u2⟩
    · rw [u1, u2, bd1_some, bd1_some, if_neg n1, if_neg n1]
      have fin : ∀ {g' m' : Nat → Int32}, CC 900 g' m' → Ok (fun (x : Int32 × (Nat → Int32) × (Nat → Int32)) (y : Int32 × (Nat → Int32) × (Nat → Int32)) => x.1 = y.1 ∧ RR x.2.1 y.2.1) (if (1000 : Int32) ≤ g' v then some (-9, g, g') else some (g' v, g, g')) (if nI v < 0 ∨ 30 ≤ (nI v).toNatClampNeg then none else if m' (nI v).toNatClampNeg < 1000000000 then (if nI v < 0 ∨ 30 ≤ (nI v).toNatClampNeg then none else some (m' (nI v).toNatClampNeg, m, m')) else some (-9, m, m')) := by
        intro g' m' hC
        rw [if_neg (nI_in (c := v) (N := 30) (by omega) (by omega)), if_neg (nI_in (c := v) (N := 30) (by omega) (by omega)), nI_clamp (by omega)]
        rcases hC v hv with ⟨x, hx, e1, e2⟩ | ⟨e1, e2⟩
        · rw [e1, e2, if_neg (show ¬ (1000 : Int32) ≤ nI x from lim (N := 1000) (by omega) (by omega)), if_pos (show nI x < (1000000000 : Int32) from nI_lt (b := 1000000000) (by omega) (by omega))]
          exact ok ⟨rfl, hR⟩
        · rw [e1, e2, if_pos (show (1000 : Int32) ≤ nI 1000 from Int32.le_refl _), if_neg (show ¬ nI 1000000000 < (1000000000 : Int32) from Int32.lt_irrefl)]
          exact ok ⟨rfl, hR⟩
      rcases what1 v3 with c | ⟨c0, c⟩ | rfl | rfl
      · rw [if_pos c, isIn_lo c, bd1_some, if_pos rfl, b1, b2]
        exact ok ⟨rfl, b3⟩
      · rw [if_neg (not_lt0 c0), if_neg (gt_le c), isIn_hi c, bd1_some, if_pos rfl, b1, b2]
        exact ok ⟨rfl, b3⟩
      · obtain ⟨g', m', k1, k2, k3⟩ := way_core h ha hv (v2 := 0) (v3 := 1) (v4 := 1000) (Or.inl ⟨rfl, rfl, rfl⟩) gc mc
        rw [if_neg (show ¬ nI 0 < 0 from by decide), if_pos (show nI 0 ≤ (1 : Int32) from by decide), if_pos (show nI 0 = (0 : Int32) from rfl), show zf_X2_isIn (nI 0) 0 1 = some 1 from isIn_in (a := 0) (n := 1) (by omega) (by omega) (by omega), bd1_some, if_neg n1, if_neg (show ¬ nI 0 = (1 : Int32) from by decide), k1, k2, bd2_some, bd1_some]
        exact fin k3
      · obtain ⟨g', m', k1, k2, k3⟩ := way_core h ha hv (v2 := 1) (v3 := 0) (v4 := 1) (Or.inr ⟨rfl, rfl, rfl⟩) gc mc
        rw [if_neg (show ¬ nI 1 < 0 from by decide), if_pos (show nI 1 ≤ (1 : Int32) from by decide), if_neg (show ¬ nI 1 = (0 : Int32) from by decide), show zf_X2_isIn (nI 1) 0 1 = some 1 from isIn_in (a := 0) (n := 1) (by omega) (by omega) (by omega), bd1_some, if_neg n1, if_pos (show nI 1 = (1 : Int32) from rfl), k1, k2, bd2_some, bd1_some]
        exact fin k3
    · rw [u1, u2, bd1_some, bd1_some, if_pos rfl, if_pos rfl, a1, a2]
      exact ok ⟨rfl, a3⟩
  · rw [w1, w2, bd1_some, bd1_some, if_pos rfl, if_pos rfl, a1, a2]
    exact ok ⟨rfl, a3⟩
