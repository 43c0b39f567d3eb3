/-! the pure side, 3: a step of all, steps, copies -/
def SA (st x : Int32) : Prop := ∀ p, p < 4 → (((st >>> (nI p &&& 31)) &&& 1) = 0 ↔ ¬ ((x >>> (nI p &&& 31)) &&& 1) = 1)
theorem SA_0 : SA 0 0 := by unfold SA; decide +kernel
theorem SA_15 : SA 15 (-1) := by unfold SA; decide +kernel
theorem ppl {N : Nat} (hN : N < 5) (rec2 : Int32 → BT → Option BT) (v2 v3 : Int32) : ∀ (d fu fu' p : Nat) (B : BT) (r : Nat → Int32), p + d = N → d < fu → d < fu' → RBN N B r → SA v2 (r 2) →
    ∃ B' r', zl2 (zf_X0_goOn_b20 rec2 v2 v3) fu (nI p) B = rec2 (v3 + 1) B' ∧ zl2 zf_X2_step_b9 fu' (nI p) r = some r' ∧ RBN N B' r' ∧ r' 2 = r 2 := by
  intro d
  induction d with
  | zero =>
    intro fu fu' p B r hp hf hf' h hs
    obtain ⟨fu, rfl⟩ : ∃ k, fu = k + 1 := ⟨fu - 1, by omega⟩
    obtain ⟨fu', rfl⟩ : ∃ k, fu' = k + 1 := ⟨fu' - 1, by omega⟩
    have e : p = N := by omega
    subst e
    refine ⟨B, r, ?_, ?_, h, rfl⟩
    · rw [zl2_s, zf_X0_goOn_b20]
      rw [if_pos (by rw [h.1]; exact nI_le (Nat.le_refl _) (by omega))]
    · rw [zl2_s, zf_X2_step_b9]
      rw [cl0, if_pos (by rw [h.2.1]; exact nI_le (Nat.le_refl _) (by omega))]
  | succ d ih =>
    intro fu fu' p B r hp hf hf' h hs
    obtain ⟨fu, rfl⟩ : ∃ k, fu = k + 1 := ⟨fu - 1, by omega⟩
    obtain ⟨fu', rfl⟩ : ∃ k, fu' = k + 1 := ⟨fu' - 1, by omega⟩
    rw [zl2_s, zl2_s]
    rw [zf_X0_goOn_b20, zf_X2_step_b9, cl0, cl2, if_neg (show ¬ bt_people B ≤ nI p by rw [h.1]; exact nI_ge (by omega) (by omega)), if_neg (show ¬ r 0 ≤ nI p by rw [h.2.1]; exact nI_ge (by omega) (by omega)), nI_1, zf_X2_has]
    by_cases c : ((v2 >>> (nI p &&& 31)) &&& 1) = 0
    · have c' := (hs p (by omega)).mp c
      obtain ⟨B1, r1, e1, e2, h1, h2⟩ := follow_goes h hN (p := p) (by omega)
      rw [if_pos c, if_neg c', bd1_some, if_pos rfl, e1, bd1_some, e2, bd1_some]
      obtain ⟨B2, r2, g1, g2, g3, g4⟩ := ih fu fu' (p + 1) B1 r1 (by omega) (by omega) (by omega) h1 (by rw [h2]; exact hs)
      exact ⟨B2, r2, g1, g2, g3, g4.trans h2⟩
    · have c' : ((r 2 >>> (nI p &&& 31)) &&& 1) = 1 := Decidable.byContradiction fun z => c ((hs p (by omega)).mpr z)
      rw [if_neg c, if_pos c', bd1_some, if_neg (by decide)]
      exact ih fu fu' (p + 1) B r (by omega) (by omega) (by omega) h hs
theorem one_step {N : Nat} {B : BT} {r : Nat → Int32} {v1 v2 v3 : Int32} {rec2 : Int32 → BT → Option BT} (h : RBN N B r) (hN : N < 5) (hs : SA v2 (r 2)) (hv : ¬ v1 ≤ v3) : ∃ B' r', zf_X0_goOn_b2 v1 v2 rec2 v3 B = rec2 (v3 + 1) B' ∧ zf_X2_step r = some r' ∧ RBN N B' r' ∧ r' 2 = r 2 := by
  have h' := RBN_step h (bt_step B + 1)
  obtain ⟨B1, r1, g1, g2, g3, g4⟩ := ppl hN rec2 v2 v3 N zb_FU zb_FU 0 _ _ (by omega) (fu_lt (by omega)) (fu_lt (by omega)) h' (by rw [up_n (by omega)]; exact hs)
  refine ⟨B1, r1, ?_, ?_, g3, by rw [g4, up_n (by omega)]⟩
  · unfold zf_X0_goOn_b2
    rw [if_neg hv]; exact g1
  · unfold zf_X2_step
    rw [cl1]
    have e : bt_step B = r 1 := h.2.2.2.1
    rw [← e]; exact g2
theorem steps_on {N : Nat} (hN : N < 5) {st : Int32} {n : Nat} (hn : n < 2 ^ 30) : ∀ (d fu fu' i : Nat) (B : BT) (r : Nat → Int32), i + d = n → d < fu → d < fu' → RBN N B r → SA st (r 2) →
    ∃ B' r', zl2 (zf_X0_goOn_b2 (nI n) st) fu (nI i) B = some B' ∧ zl2 (zf_X2_stepsOn_b2 (nI n)) fu' (nI i) r = some r' ∧ RBN N B' r' ∧ r' 2 = r 2 := by
  intro d
  induction d with
  | zero =>
    intro fu fu' i B r hi hf hf' h hs
    obtain ⟨fu, rfl⟩ : ∃ k, fu = k + 1 := ⟨fu - 1, by omega⟩
    obtain ⟨fu', rfl⟩ : ∃ k, fu' = k + 1 := ⟨fu' - 1, by omega⟩
    have e : i = n := by omega
    subst e
    refine ⟨B, r, ?_, ?_, h, rfl⟩
    · rw [zl2_s, zf_X0_goOn_b2]
      rw [if_pos (nI_le (Nat.le_refl _) (by omega))]
    · rw [zl2_s, zf_X2_stepsOn_b2]
      rw [if_pos (nI_le (Nat.le_refl _) (by omega))]
  | succ d ih =>
    intro fu fu' i B r hi hf hf' h hs
    obtain ⟨fu, rfl⟩ : ∃ k, fu = k + 1 := ⟨fu - 1, by omega⟩
    obtain ⟨fu', rfl⟩ : ∃ k, fu' = k + 1 := ⟨fu' - 1, by omega⟩
    have hv : ¬ nI n ≤ nI i := nI_ge (by omega) (by omega)
    rw [zl2_s, zl2_s]
    obtain ⟨B1, r1, g1, g2, g3, g4⟩ := one_step (v1 := nI n) (v2 := st) (v3 := nI i) (rec2 := zl2 (zf_X0_goOn_b2 (nI n) st) fu) h hN hs hv
    rw [g1]
    rw [zf_X2_stepsOn_b2, if_neg hv, g2, bd1_some, nI_1]
    obtain ⟨B2, r2, e1, e2, e3, e4⟩ := ih fu fu' (i + 1) B1 r1 (by omega) (by omega) (by omega) g3 (by rw [g4]; exact hs)
    exact ⟨B2, r2, e1, e2, e3, e4.trans g4⟩
theorem goOn_n {N : Nat} {B : BT} {r : Nat → Int32} {st : Int32} {n : Nat} (h : RBN N B r) (hN : N < 5) (hs : SA st (r 2)) (hn : n < 4096) : ∃ B' r', zf_X0_goOn B (nI n) st = some B' ∧ zf_X2_stepsOn r (nI n) = some r' ∧ RBN N B' r' ∧ r' 2 = r 2 :=
  steps_on hN (by omega) n zb_FU zb_FU 0 B r (by omega) (fu_lt hn) (fu_lt hn) h hs
theorem goOn_1 {N : Nat} {B : BT} {r : Nat → Int32} {st : Int32} (h : RBN N B r) (hN : N < 5) (hs : SA st (r 2)) : ∃ B' r', zf_X0_goOn B 1 st = some B' ∧ zf_X2_step r = some r' ∧ RBN N B' r' ∧ r' 2 = r 2 := by
  obtain ⟨B1, r1, g1, g2, g3, g4⟩ := one_step (v1 := 1) (v2 := st) (v3 := 0) (rec2 := zl2 (zf_X0_goOn_b2 1 st) 4095) h hN hs (by decide)
  refine ⟨B1, r1, ?_, g2, g3, g4⟩
  show zl2 (zf_X0_goOn_b2 1 st) (4095 + 1) 0 B = some B1
  rw [zl2_s, g1]
  show zl2 (zf_X0_goOn_b2 1 st) (4094 + 1) (0 + 1) B1 = some B1
  rw [zl2_s, zf_X0_goOn_b2]
  rw [if_pos (by decide)]
/-! copies -/
theorem RBN_congr {N : Nat} {B : BT} {r q : Nat → Int32} (h : RBN N B r) (hN : N < 5) (e : ∀ k, k < 105 → q k = r k) : RBN N B q := by
  obtain ⟨h1, h2, h3, h4, h5⟩ := h
  refine ⟨h1, by rw [e 0 (by omega)]; exact h2, fun p hp => ?_, by rw [e 1 (by omega)]; exact h4, fun k hk => ?_⟩
  · rw [e _ (by omega), e _ (by omega), e _ (by omega)]; exact h3 p hp
  · rw [e _ (by omega), e _ (by omega), e _ (by omega)]; exact h5 k hk
theorem cpy_loop (r : Nat → Int32) : ∀ (d fu k : Nat) (q : Nat → Int32), k + d = 105 → d < fu → (∀ j, j < k → q j = r j) → ∃ q', zl2 (zf_X2_copies_b2 r) fu (nI k) q = some q' ∧ ∀ j, j < 105 → q' j = r j := by
  intro d
  induction d with
  | zero =>
    intro fu k q hk hf h
    obtain ⟨fu, rfl⟩ : ∃ x, fu = x + 1 := ⟨fu - 1, by omega⟩
    refine ⟨q, ?_, fun j hj => h j (by omega)⟩
    rw [zl2_s, zf_X2_copies_b2]
    rw [l105, if_pos (nI_le (by omega) (by omega))]
  | succ d ih =>
    intro fu k q hk hf h
    obtain ⟨fu, rfl⟩ : ∃ x, fu = x + 1 := ⟨fu - 1, by omega⟩
    rw [zl2_s, zf_X2_copies_b2]
    rw [l105, if_neg (nI_ge (by omega) (by omega)), if_neg (by rw [ix (by omega) (by omega)]; exact id), if_neg (by rw [ix (by omega) (by omega)]; exact id), nI_clamp (by omega), nI_1]
    refine ih fu (k + 1) _ (by omega) (by omega) fun j hj => ?_
    by_cases e : j = k
    · subst e; rw [up_s]
    · rw [up_n e]; exact h j (by omega)
theorem copies_ok (r q : Nat → Int32) : ∃ q', zf_X2_copies r q = some q' ∧ ∀ j, j < 105 → q' j = r j :=
  cpy_loop r 105 zb_FU 0 q (by omega) (fu_lt (by omega)) (fun j hj => absurd hj (Nat.not_lt_zero j))
theorem cpy_at {f g : Nat → Int32} {n k : Nat} (h : k < n) : va_cpy f g 0 0 n k = f k := by
  rw [pk_cpy_in (by omega) (by omega)]
  congr 1
  omega
theorem becomes_copies {N : Nat} {C B : BT} {r q : Nat → Int32} (h : RBN N C r) (hN : N < 5) : ∃ B' q', zf_X0_becomes B C = some B' ∧ zf_X2_copies r q = some q' ∧ RBN N B' q' ∧ q' 2 = r 2 := by
  obtain ⟨q', e1, e2⟩ := copies_ok r q
  refine ⟨_, q', rfl, e1, RBN_congr (r := r) ?_ hN e2, e2 2 (by omega)⟩
  obtain ⟨h1, h2, h3, h4, h5⟩ := h
  refine ⟨h1, h2, fun p hp => ?_, h4, fun k hk => ?_⟩
  · have c : ∀ f g : Nat → Int32, va_cpy f g (0 : Int32).toNatClampNeg (0 : Int32).toNatClampNeg (4 : Int32).toNatClampNeg p = f p := fun f g => cpy_at (n := 4) (by omega)
    show va_cpy _ _ _ _ _ p = _ ∧ va_cpy _ _ _ _ _ p = _ ∧ va_cpy _ _ _ _ _ p = _ ∧ rg (va_cpy _ _ _ _ _ p) 30 ∧ rg (va_cpy _ _ _ _ _ p) 4
    rw [c, c, c]; exact h3 p hp
  · have c : ∀ f g : Nat → Int32, va_cpy f g (0 : Int32).toNatClampNeg (0 : Int32).toNatClampNeg (30 : Int32).toNatClampNeg k = f k := fun f g => cpy_at (n := 30) (by omega)
    show va_cpy _ _ _ _ _ k = _ ∧ va_cpy _ _ _ _ _ k = _ ∧ va_cpy _ _ _ _ _ k = _ ∧ rg (va_cpy _ _ _ _ _ k) 10 ∧ rg (va_cpy _ _ _ _ _ k) 10
    rw [c, c, c]; exact h5 k hk
