/-! the pure side, 19: the start; what the two hold together -/
theorem initX2_loop : ∀ (d fu i : Nat) (r : Nat → Int32), i + d = 30 → d < fu → (∀ k, k < i → r (63 + k) = 9) → (∀ k, (k < 63 ∨ 93 ≤ k) → r k = 0) → ∃ r', zl2 zf_X2_init_b77 fu (nI i) r = some r' ∧ (∀ k, k < 30 → r' (63 + k) = 9) ∧ ∀ k, (k < 63 ∨ 93 ≤ k) → r' k = 0 := by
  intro d
  induction d with
  | zero =>
    intro fu i r hi hf h1 h2
    obtain ⟨fu, rfl⟩ : ∃ x, fu = x + 1 := ⟨fu - 1, by omega⟩
    have e : i = 30 := by omega
    subst e
    exact ⟨r, by rw [zl2_s, zf_X2_init_b77, if_pos (show (30 : Int32) ≤ nI 30 from by decide)], h1, h2⟩
  | succ d ih =>
    intro fu i r hi hf h1 h2
    obtain ⟨fu, rfl⟩ : ∃ x, fu = x + 1 := ⟨fu - 1, by omega⟩
    have h30 : ¬ (30 : Int32) ≤ nI i := lim (N := 30) (by omega) (by omega)
    have hi30 : i < 30 := by omega
    obtain ⟨r', k1, k2, k3⟩ := ih fu (i + 1) (upd r (63 + i) 9) (by omega) (by omega) (fun k hk => by
      by_cases e : k = i
      · rw [e, up_s]
      · rw [up_n (by omega)]; exact h1 k (by omega)) (fun k hk => by rw [up_n (by omega)]; exact h2 k hk)
    refine ⟨r', ?_, k2, k3⟩
    have y63 : ¬ ((63 : Int32) + nI i < 0 ∨ 105 ≤ ((63 : Int32) + nI i).toNatClampNeg) := by rw [g63 hi30, c63 hi30]; exact fun z => z.elim id (fun z => absurd z (by omega))
    rw [zl2_s, zf_X2_init_b77, if_neg h30, if_neg y63, c63 hi30, nI_1]
    exact k1
theorem start_X2 : ∃ r', zf_X2_init = some r' ∧ (∀ k, k < 30 → r' (63 + k) = 9) ∧ ∀ k, (k < 63 ∨ 93 ≤ k) → r' k = 0 := initX2_loop 30 zb_FU 0 zb_Z (by omega) (fu_lt (by omega)) (fun k hk => absurd hk (Nat.not_lt_zero k)) (fun _ _ => rfl)
theorem start_RN : ∃ wb wm, zf_J7_fill_53178 zb_Z 9 = some wb ∧ zf_X2_init = some wm ∧ RN (zb_B0 wb) wm := by
  obtain ⟨wb, e1, e2⟩ := fill_ok zb_Z 9
  obtain ⟨wm, f1, f2, f3⟩ := start_X2
  refine ⟨wb, wm, e1, f1, ⟨0, by omega, rfl, f3 0 (by omega), fun p hp => absurd hp (Nat.not_lt_zero p), (f3 1 (by omega)).symm, fun k hk => ⟨(f3 (3 + k) (by omega)).symm, (f3 (33 + k) (by omega)).symm, (e2 k hk).trans (f2 k hk).symm, ⟨0, by omega, rfl⟩, ⟨9, by omega, e2 k hk⟩⟩⟩, f3 2 (by omega)⟩
/-- what the class and the reference hold together -/
def SR (g_now g_taken : BT) (g_isTaken : Int32) (g_letters : Nat → Int32) (g_letterCount : Int32) (g_told : Nat → Int32) (g_toldCount : Int32) (g_refusals m_s m_image : Nat → Int32) (m_hasImage : Int32) (m_letters m_row m_refused : Nat → Int32) (m_letterMany m_rowMany : Int32) : Prop :=
  RN g_now m_s ∧ RT g_taken g_isTaken m_image m_hasImage ∧ RE g_letters g_letterCount m_letters m_letterMany ∧ RO g_told g_toldCount m_row m_rowMany ∧ RR g_refusals m_refused
theorem start_SR {wb wm : Nat → Int32} (h : RN (zb_B0 wb) wm) (T : BT) : SR (zb_B0 wb) T 0 zb_Z 0 zb_Z 0 zb_Z wm zb_Z 0 zb_Z zb_Z zb_Z 0 0 :=
  ⟨h, ⟨rfl, Or.inl rfl⟩, RE_0 _ _, RO_0 _ _, fun _ _ => rfl⟩
