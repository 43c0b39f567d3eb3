/-! the law's entry, 1: what the tables give -/
theorem law_K {s : State} {b : Nat} (hts : ∀ w ∈ lw_tbl, w.before #[Value.ref b] s = true) : ∃ D cI, zb_K D cI s := by
  obtain ⟨c0, i0, h0⟩ := u_known (C := RX0) (T := TX0) (N := 8) (n := 8) hts zv_X0 (hts _ zv_r1_13)
  obtain ⟨c1, i1, h1⟩ := u_known (C := RX1) (T := TX1) (N := 12) (n := 12) hts zv_X1 (hts _ zv_r1_1)
  obtain ⟨c2, i2, h2⟩ := u_known (C := RX2) (T := TX2) (N := 14) (n := 14) hts zv_X2 (hts _ zv_r1_4)
  obtain ⟨cA, kA, comp, e1, e2, e3⟩ := Cond.arrayClass_spec (hts _ zv_r1_18)
  have hAr : ArrOfT s cA .int := fun n z => ⟨fun k h => (by cases h), kA, e2, comp, e3⟩
  refine ⟨(fun k => if k = 0 then c0 else if k = 1 then c1 else c2, fun k => if k = 0 then i0 else if k = 1 then i1 else i2), cA, ⟨?_, ?_⟩, va_Nw.of rfl (hts _ (by decide +kernel)), va_Nw.of rfl (hts _ (by decide +kernel))⟩
  · intro k q hq
    match k, hq with
    | 0, hq => cases hq; exact h0
    | 1, hq => cases hq; exact h1
    | 2, hq => cases hq; exact h2
    | k + 3, hq => simp [zb_cl] at hq
  · intro k q hk
    match k, hk with
    | 0, hk => cases hk; exact ⟨hAr, e1⟩
    | k + 1, hk => simp at hk
