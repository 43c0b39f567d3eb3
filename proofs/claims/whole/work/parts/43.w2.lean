abbrev rm_X2_wettestRow : Room := { frames := 1, cells := 0, slots := 0, locals := 25 }
theorem hd_X2_wettestRow : yX2_wettestRow.cls = RX2 ∧ yX2_wettestRow.cls ≠ "java/lang/invoke/MethodHandle" ∧ yX2_wettestRow.cls ≠ "java/lang/invoke/VarHandle" ∧ (parseMethodDescriptor yX2_wettestRow.desc).map (fun d => d.parameters.length) = some 0 := by decide +kernel
theorem zi_X2_wettestRow_X2 : ∀ w ∈ wsX20, w ∈ wsX2_wettestRow := fun _ h => List.mem_cons_of_mem _ (List.mem_append_right _ h)
theorem zk_X2_wettestRow_0 : Cond.fieldLink RX2 9 "GroutingIsFollowedModel" "s" "[I" ∈ wsX2_wettestRow := by decide +kernel
set_option maxHeartbeats 4000000 in
set_option maxRecDepth 100000 in
theorem zc_X2_wettestRow (l : Launch) (D : va_G) (cI : ClassId) (ad : Nat → Nat) (m_s : (Nat → Int32)) (m_m : (Nat → Int32)) (m_image : (Nat → Int32)) (m_was : (Nat → Int32)) (m_hasImage : Int32) (m_letters : (Nat → Int32)) (m_row : (Nat → Int32)) (m_refused : (Nat → Int32)) (m_letterMany : Int32) (m_rowMany : Int32) (m_place : Int32) (m_numbers : (Nat → Int32)) (m_cost : (Nat → Int32)) (m_seed : Int32) (r0 : Int32) (h : zf_X2_wettestRow m_s = some r0) : Cn l D cI yX2_wettestRow wsX2_wettestRow rm_X2_wettestRow [.ref (ad 0)] (zb_M cI ad m_s m_m m_image m_was m_hasImage m_letters m_row m_refused m_letterMany m_rowMany m_place m_numbers m_cost m_seed) (some (.int r0)) (zb_M cI ad m_s m_m m_image m_was m_hasImage m_letters m_row m_refused m_letterMany m_rowMany m_place m_numbers m_cost m_seed) := by
  refine zb_ofW (cc := cX2_wettestRow) (maxL := 3) (ret := (some .int)) (by decide) rfl (Nat.le_of_ble_eq_true rfl) ?_
  intro p e s m args below meth c A ls hx hb hr hml hts hown hlk hK hP hD hA hl
  have hS : va_S A s.heap s.heap [] := va_S.rf
  have hl : lv_has ls 3 [(0, .ref (ad 0))] := hl
  unfold zf_X2_wettestRow at h
  refine lv_iconst (v := (0 : Int32)) hx hb dX2_wettestRow_0 (by decide) ?_
  refine lv_istore_n (lv' := [(1, .int (0 : Int32)), (0, .ref (ad 0))]) hx hb dX2_wettestRow_1 rfl hl (by decide) rfl (fun ls hl => ?_)
  refine lv_iconst (v := (0 : Int32)) hx hb dX2_wettestRow_2 (by decide) ?_
  refine lv_istore_n (lv' := [(2, .int (0 : Int32)), (1, .int (0 : Int32)), (0, .ref (ad 0))]) hx hb dX2_wettestRow_3 rfl hl (by decide) rfl (fun ls hl => ?_)
  have lp3 : ∀ (fu3 : Nat) (x1 : Int32) (x2 : Int32) (H : Heap) (locs : List Loc) (hP : va_P D zb_cl (zb_M cI ad m_s m_m m_image m_was m_hasImage m_letters m_row m_refused m_letterMany m_rowMany m_place m_numbers m_cost m_seed) H) (hD : va_D A (zb_M cI ad m_s m_m m_image m_was m_hasImage m_letters m_row m_refused m_letterMany m_rowMany m_place m_numbers m_cost m_seed)) (hS : va_S A s.heap H locs) (ls : Array Slot) (hl : lv_has ls 3 [(0, .ref (ad 0)), (1, .int x1), (2, .int x2)]) (h : zl2 (zf_X2_wettestRow_b4 m_s) fu3 x1 x2 = some r0), W p l e rm_X2_wettestRow s m args below meth c H locs 0 0 (zb_Q below D (some (.int r0)) (zb_M cI ad m_s m_m m_image m_was m_hasImage m_letters m_row m_refused m_letterMany m_rowMany m_place m_numbers m_cost m_seed) A args s) (F0 m 4 ls []) := by
    intro fu3
    induction fu3 with
    | zero => intro x1 x2 H locs hP hD hS ls hl h; exact zb_no h
    | succ fu3 ih3 =>
      intro x1 x2 H locs hP hD hS ls hl h
      replace h : zf_X2_wettestRow_b4 m_s (zl2 (zf_X2_wettestRow_b4 m_s) fu3) x1 x2 = some r0 := h
      unfold zf_X2_wettestRow_b4 at h
      refine lv_iload_n hx hb dX2_wettestRow_4 rfl (lv_at hl 2 rfl) ?_
      refine lv_iconst (v := (5 : Int32)) hx hb dX2_wettestRow_5 (by decide) ?_
      refine lv_icmp_ge (tgt := 54) hx hb dX2_wettestRow_6 (by decide) (fun c4 => ?_) (fun c4 => ?_)
      · replace h := it_t c4 h
        refine lv_iload_n hx hb dX2_wettestRow_54 rfl (lv_at hl 1 rfl) ?_
        obtain rfl := re1 h
        exact zb_iret hx hb hr hlk hP hS dX2_wettestRow_55
      · replace h := it_f c4 h
        refine lv_aload_n hx hb dX2_wettestRow_9 rfl (lv_at hl 0 rfl) ?_
        refine va_get (D := D) (ci := 2) (v := .ref (ad 1)) (C := RX2) (T := TX2) (N := 14) hx hb hts zi_X2_wettestRow_X2 hown hK.1 hP 0 rfl rfl 0 (by decide) (hts _ zk_X2_wettestRow_0) (fun _ h9 => h9) rfl dX2_wettestRow_10 ?_
        refine lv_bipush (v := (63 : Int32)) hx hb dX2_wettestRow_13 (by decide) ?_
        refine lv_bipush (v := (6 : Int32)) hx hb dX2_wettestRow_15 (by decide) ?_
        refine lv_iload_n hx hb dX2_wettestRow_17 rfl (lv_at hl 2 rfl) ?_
        refine lv_imul hx hb dX2_wettestRow_18 ?_
        refine lv_iadd hx hb dX2_wettestRow_19 ?_
        refine lv_bipush (v := (6 : Int32)) hx hb dX2_wettestRow_20 (by decide) ?_
        refine lv_iconst (v := (1 : Int32)) hx hb dX2_wettestRow_22 (by decide) ?_
        obtain ⟨r5, g6, h⟩ := bo1 h
        refine zb_callS (As := [.ref (ad 1), .int ((63 : Int32) + ((6 : Int32) * x2)), .int (6 : Int32), .int (1 : Int32)]) (rest := []) ⟨hx, hb, hml, hown, hts⟩ (zc_X2_sumOf l D cI (ad 1) m_s ((63 : Int32) + ((6 : Int32) * x2)) (6 : Int32) (1 : Int32) r5 g6) (va_cwS 4 hts gX2_wettestRow_X2_sumOf rfl rfl rfl hd_X2_sumOf.2 ⟨Nat.le_of_ble_eq_true rfl, Nat.le_of_ble_eq_true rfl⟩) hK hP hD hS hA (zb_cM_s) rfl hl.1 rfl (Nat.le_of_ble_eq_true rfl) dX2_wettestRow_23 ⟨Nat.le_refl _, Nat.le_refl _⟩ (fun H locs hP hD hS => ?_)
        refine lv_aload_n hx hb dX2_wettestRow_26 rfl (lv_at hl 0 rfl) ?_
        refine va_get (D := D) (ci := 2) (v := .ref (ad 1)) (C := RX2) (T := TX2) (N := 14) hx hb hts zi_X2_wettestRow_X2 hown hK.1 hP 0 rfl rfl 0 (by decide) (hts _ zk_X2_wettestRow_0) (fun _ h9 => h9) rfl dX2_wettestRow_27 ?_
        refine lv_bipush (v := (63 : Int32)) hx hb dX2_wettestRow_30 (by decide) ?_
        refine lv_bipush (v := (6 : Int32)) hx hb dX2_wettestRow_32 (by decide) ?_
        refine lv_iload_n hx hb dX2_wettestRow_34 rfl (lv_at hl 1 rfl) ?_
        refine lv_imul hx hb dX2_wettestRow_35 ?_
        refine lv_iadd hx hb dX2_wettestRow_36 ?_
        refine lv_bipush (v := (6 : Int32)) hx hb dX2_wettestRow_37 (by decide) ?_
        refine lv_iconst (v := (1 : Int32)) hx hb dX2_wettestRow_39 (by decide) ?_
        obtain ⟨r7, g8, h⟩ := bo1 h
        refine zb_callS (As := [.ref (ad 1), .int ((63 : Int32) + ((6 : Int32) * x1)), .int (6 : Int32), .int (1 : Int32)]) (rest := [.int r5]) ⟨hx, hb, hml, hown, hts⟩ (zc_X2_sumOf l D cI (ad 1) m_s ((63 : Int32) + ((6 : Int32) * x1)) (6 : Int32) (1 : Int32) r7 g8) (va_cwS 4 hts gX2_wettestRow_X2_sumOf rfl rfl rfl hd_X2_sumOf.2 ⟨Nat.le_of_ble_eq_true rfl, Nat.le_of_ble_eq_true rfl⟩) hK hP hD hS hA (zb_cM_s) rfl hl.1 rfl (Nat.le_of_ble_eq_true rfl) dX2_wettestRow_40 ⟨Nat.le_refl _, Nat.le_refl _⟩ (fun H locs hP hD hS => ?_)
        refine lv_icmp_le (tgt := 48) hx hb dX2_wettestRow_43 (by decide) (fun c9 => ?_) (fun c9 => ?_)
        · replace h := it_t c9 h
          refine lv_iinc (v := (x2 + (1 : Int32))) (lv' := [(2, .int (x2 + (1 : Int32))), (0, .ref (ad 0)), (1, .int x1)]) hx hb dX2_wettestRow_48 hl (k := 2) rfl (by first | rfl | decide) (by decide) rfl (fun ls hl => ?_)
          refine lv_goto (tgt := 4) hx hb dX2_wettestRow_51 (by decide) ?_
          exact ih3 x1 (x2 + (1 : Int32)) _ _ hP hD hS ls (lv_sub hl [1, 2, 0] rfl) h
        · replace h := it_f c9 h
          refine lv_iload_n hx hb dX2_wettestRow_46 rfl (lv_at hl 2 rfl) ?_
          refine lv_istore_n (lv' := [(1, .int x2), (0, .ref (ad 0)), (2, .int x2)]) hx hb dX2_wettestRow_47 rfl hl (by decide) rfl (fun ls hl => ?_)
          refine lv_iinc (v := (x2 + (1 : Int32))) (lv' := [(2, .int (x2 + (1 : Int32))), (1, .int x2), (0, .ref (ad 0))]) hx hb dX2_wettestRow_48 hl (k := 2) rfl (by first | rfl | decide) (by decide) rfl (fun ls hl => ?_)
          refine lv_goto (tgt := 4) hx hb dX2_wettestRow_51 (by decide) ?_
          exact ih3 x2 (x2 + (1 : Int32)) _ _ hP hD hS ls (lv_sub hl [2, 1, 0] rfl) h
  exact lp3 zb_FU (0 : Int32) (0 : Int32) _ _ hP hD hS ls (lv_sub hl [2, 1, 0] rfl) h
abbrev rm_X2_dry : Room := { frames := 2, cells := 0, slots := 0, locals := 47 }
theorem hd_X2_dry : yX2_dry.cls = RX2 ∧ yX2_dry.cls ≠ "java/lang/invoke/MethodHandle" ∧ yX2_dry.cls ≠ "java/lang/invoke/VarHandle" ∧ (parseMethodDescriptor yX2_dry.desc).map (fun d => d.parameters.length) = some 1 := by decide +kernel
theorem zi_X2_dry_X2 : ∀ w ∈ wsX20, w ∈ wsX2_dry := fun _ h => List.mem_cons_of_mem _ (List.mem_append_right _ h)
theorem zk_X2_dry_0 : Cond.fieldLink RX2 9 "GroutingIsFollowedModel" "s" "[I" ∈ wsX2_dry := by decide +kernel
set_option maxHeartbeats 4000000 in
set_option maxRecDepth 100000 in
theorem zc_X2_dry (l : Launch) (D : va_G) (cI : ClassId) (ad : Nat → Nat) (m_s : (Nat → Int32)) (m_m : (Nat → Int32)) (m_image : (Nat → Int32)) (m_was : (Nat → Int32)) (m_hasImage : Int32) (m_letters : (Nat → Int32)) (m_row : (Nat → Int32)) (m_refused : (Nat → Int32)) (m_letterMany : Int32) (m_rowMany : Int32) (m_place : Int32) (m_numbers : (Nat → Int32)) (m_cost : (Nat → Int32)) (m_seed : Int32) (v1 : Int32) (r0 : Int32) (w_m_refused : (Nat → Int32)) (h : zf_X2_dry m_s m_refused v1 = some (r0, w_m_refused)) : Cn l D cI yX2_dry wsX2_dry rm_X2_dry [.ref (ad 0), .int v1] (zb_M cI ad m_s m_m m_image m_was m_hasImage m_letters m_row m_refused m_letterMany m_rowMany m_place m_numbers m_cost m_seed) (some (.int r0)) (zb_M cI ad m_s m_m m_image m_was m_hasImage m_letters m_row w_m_refused m_letterMany m_rowMany m_place m_numbers m_cost m_seed) := by
  refine zb_ofW (cc := cX2_dry) (maxL := 2) (ret := (some .int)) (by decide) rfl (Nat.le_of_ble_eq_true rfl) ?_
  intro p e s m args below meth c A ls hx hb hr hml hts hown hlk hK hP hD hA hl
  have hS : va_S A s.heap s.heap [] := va_S.rf
  have hl : lv_has ls 2 [(0, .ref (ad 0)), (1, .int v1)] := hl
  unfold zf_X2_dry at h
  refine lv_iload_n hx hb dX2_dry_0 rfl (lv_at hl 1 rfl) ?_
  by_cases c1 : v1 = (0 : Int32)
  · replace h := it_t c1 h
    have e9 : v1.toInt = 0 := by rw [c1]; rfl
    refine lv_tableIn (tgt := 44) hx hb dX2_dry_1 (by rw [e9]; decide) (by rw [e9]; decide) (by rw [e9]; rfl) (by decide) ?_
    refine lv_aload_n hx hb dX2_dry_44 rfl (lv_at hl 0 rfl) ?_
    obtain ⟨r2, g3, h⟩ := bo1 h
    refine zb_callV (As := []) (rest := []) ⟨hx, hb, hml, hown, hts⟩ (zc_X2_dryOnes l D cI ad m_s m_m m_image m_was m_hasImage m_letters m_row m_refused m_letterMany m_rowMany m_place m_numbers m_cost m_seed r2 g3) (cwV 0 hts gX2_dry_X2_dryOnes rfl rfl rfl hd_X2_dryOnes ⟨Nat.le_of_ble_eq_true rfl, Nat.le_of_ble_eq_true rfl⟩) hK hP hD hS hA (zb_sM) (q0 := 0) rfl rfl rfl hl.1 rfl (Nat.le_of_ble_eq_true rfl) dX2_dry_45 ⟨Nat.le_refl _, Nat.le_refl _⟩ (fun H locs hP hD hS => ?_)
    obtain ⟨r4, g5, h⟩ := bo1 h
    refine zb_callS (As := [.int r2]) (rest := []) ⟨hx, hb, hml, hown, hts⟩ (zc_X2_bits l D cI r2 r4 g5) (va_cwS 1 hts gX2_dry_X2_bits rfl rfl rfl hd_X2_bits.2 ⟨Nat.le_of_ble_eq_true rfl, Nat.le_of_ble_eq_true rfl⟩) hK hP hD hS hA (zb_none _) rfl hl.1 rfl (Nat.le_of_ble_eq_true rfl) dX2_dry_48 ⟨Nat.le_refl _, Nat.le_refl _⟩ (fun H locs hP hD hS => ?_)
    obtain ⟨rfl, rfl⟩ := re2 h
    exact zb_iret hx hb hr hlk hP hS dX2_dry_51
  replace h := it_f c1 h
  by_cases c6 : v1 = (1 : Int32)
  · replace h := it_t c6 h
    have e9 : v1.toInt = 1 := by rw [c6]; rfl
    refine lv_tableIn (tgt := 52) hx hb dX2_dry_1 (by rw [e9]; decide) (by rw [e9]; decide) (by rw [e9]; rfl) (by decide) ?_
    refine lv_aload_n hx hb dX2_dry_52 rfl (lv_at hl 0 rfl) ?_
    obtain ⟨r7, g8, h⟩ := bo1 h
    refine zb_callV (As := []) (rest := []) ⟨hx, hb, hml, hown, hts⟩ (zc_X2_wettest l D cI ad m_s m_m m_image m_was m_hasImage m_letters m_row m_refused m_letterMany m_rowMany m_place m_numbers m_cost m_seed r7 g8) (cwV 0 hts gX2_dry_X2_wettest rfl rfl rfl hd_X2_wettest ⟨Nat.le_of_ble_eq_true rfl, Nat.le_of_ble_eq_true rfl⟩) hK hP hD hS hA (zb_sM) (q0 := 0) rfl rfl rfl hl.1 rfl (Nat.le_of_ble_eq_true rfl) dX2_dry_53 ⟨Nat.le_refl _, Nat.le_refl _⟩ (fun H locs hP hD hS => ?_)
    obtain ⟨rfl, rfl⟩ := re2 h
    exact zb_iret hx hb hr hlk hP hS dX2_dry_56
  replace h := it_f c6 h
  by_cases c9 : v1 = (2 : Int32)
  · replace h := it_t c9 h
    have e9 : v1.toInt = 2 := by rw [c9]; rfl
    refine lv_tableIn (tgt := 57) hx hb dX2_dry_1 (by rw [e9]; decide) (by rw [e9]; decide) (by rw [e9]; rfl) (by decide) ?_
    refine lv_aload_n hx hb dX2_dry_57 rfl (lv_at hl 0 rfl) ?_
    refine va_get (D := D) (ci := 2) (v := .ref (ad 1)) (C := RX2) (T := TX2) (N := 14) hx hb hts zi_X2_dry_X2 hown hK.1 hP 0 rfl rfl 0 (by decide) (hts _ zk_X2_dry_0) (fun _ h9 => h9) rfl dX2_dry_58 ?_
    obtain ⟨r10, g11, h⟩ := bo1 h
    refine zb_callS (As := [.ref (ad 1)]) (rest := []) ⟨hx, hb, hml, hown, hts⟩ (zc_X2_allWet l D cI (ad 1) m_s r10 g11) (va_cwS 1 hts gX2_dry_X2_allWet rfl rfl rfl hd_X2_allWet.2 ⟨Nat.le_of_ble_eq_true rfl, Nat.le_of_ble_eq_true rfl⟩) hK hP hD hS hA (zb_cM_s) rfl hl.1 rfl (Nat.le_of_ble_eq_true rfl) dX2_dry_61 ⟨Nat.le_refl _, Nat.le_refl _⟩ (fun H locs hP hD hS => ?_)
    obtain ⟨rfl, rfl⟩ := re2 h
    exact zb_iret hx hb hr hlk hP hS dX2_dry_64
  replace h := it_f c9 h
  by_cases c12 : v1 = (3 : Int32)
  · replace h := it_t c12 h
    have e9 : v1.toInt = 3 := by rw [c12]; rfl
    refine lv_tableIn (tgt := 65) hx hb dX2_dry_1 (by rw [e9]; decide) (by rw [e9]; decide) (by rw [e9]; rfl) (by decide) ?_
    refine lv_aload_n hx hb dX2_dry_65 rfl (lv_at hl 0 rfl) ?_
    obtain ⟨r13, g14, h⟩ := bo1 h
    refine zb_callV (As := []) (rest := []) ⟨hx, hb, hml, hown, hts⟩ (zc_X2_mostHelped l D cI ad m_s m_m m_image m_was m_hasImage m_letters m_row m_refused m_letterMany m_rowMany m_place m_numbers m_cost m_seed r13 g14) (cwV 0 hts gX2_dry_X2_mostHelped rfl rfl rfl hd_X2_mostHelped ⟨Nat.le_of_ble_eq_true rfl, Nat.le_of_ble_eq_true rfl⟩) hK hP hD hS hA (zb_sM) (q0 := 0) rfl rfl rfl hl.1 rfl (Nat.le_of_ble_eq_true rfl) dX2_dry_66 ⟨Nat.le_refl _, Nat.le_refl _⟩ (fun H locs hP hD hS => ?_)
    obtain ⟨rfl, rfl⟩ := re2 h
    exact zb_iret hx hb hr hlk hP hS dX2_dry_69
  replace h := it_f c12 h
  by_cases c15 : v1 = (4 : Int32)
  · replace h := it_t c15 h
    have e9 : v1.toInt = 4 := by rw [c15]; rfl
    refine lv_tableIn (tgt := 70) hx hb dX2_dry_1 (by rw [e9]; decide) (by rw [e9]; decide) (by rw [e9]; rfl) (by decide) ?_
    refine lv_aload_n hx hb dX2_dry_70 rfl (lv_at hl 0 rfl) ?_
    obtain ⟨r16, g17, h⟩ := bo1 h
    refine zb_callV (As := []) (rest := []) ⟨hx, hb, hml, hown, hts⟩ (zc_X2_together l D cI ad m_s m_m m_image m_was m_hasImage m_letters m_row m_refused m_letterMany m_rowMany m_place m_numbers m_cost m_seed r16 g17) (cwV 0 hts gX2_dry_X2_together rfl rfl rfl hd_X2_together ⟨Nat.le_of_ble_eq_true rfl, Nat.le_of_ble_eq_true rfl⟩) hK hP hD hS hA (zb_sM) (q0 := 0) rfl rfl rfl hl.1 rfl (Nat.le_of_ble_eq_true rfl) dX2_dry_71 ⟨Nat.le_refl _, Nat.le_refl _⟩ (fun H locs hP hD hS => ?_)
    obtain ⟨rfl, rfl⟩ := re2 h
    exact zb_iret hx hb hr hlk hP hS dX2_dry_74
  replace h := it_f c15 h
  by_cases c18 : v1 = (5 : Int32)
  · replace h := it_t c18 h
    have e9 : v1.toInt = 5 := by rw [c18]; rfl
    refine lv_tableIn (tgt := 75) hx hb dX2_dry_1 (by rw [e9]; decide) (by rw [e9]; decide) (by rw [e9]; rfl) (by decide) ?_
    refine lv_aload_n hx hb dX2_dry_75 rfl (lv_at hl 0 rfl) ?_
    obtain ⟨r19, g20, h⟩ := bo1 h
    refine zb_callV (As := []) (rest := []) ⟨hx, hb, hml, hown, hts⟩ (zc_X2_atEdges l D cI ad m_s m_m m_image m_was m_hasImage m_letters m_row m_refused m_letterMany m_rowMany m_place m_numbers m_cost m_seed r19 g20) (cwV 0 hts gX2_dry_X2_atEdges rfl rfl rfl hd_X2_atEdges ⟨Nat.le_of_ble_eq_true rfl, Nat.le_of_ble_eq_true rfl⟩) hK hP hD hS hA (zb_sM) (q0 := 0) rfl rfl rfl hl.1 rfl (Nat.le_of_ble_eq_true rfl) dX2_dry_76 ⟨Nat.le_refl _, Nat.le_refl _⟩ (fun H locs hP hD hS => ?_)
    obtain ⟨rfl, rfl⟩ := re2 h
    exact zb_iret hx hb hr hlk hP hS dX2_dry_79
  replace h := it_f c18 h
  by_cases c21 : v1 = (6 : Int32)
  · replace h := it_t c21 h
    have e9 : v1.toInt = 6 := by rw [c21]; rfl
    refine lv_tableIn (tgt := 80) hx hb dX2_dry_1 (by rw [e9]; decide) (by rw [e9]; decide) (by rw [e9]; rfl) (by decide) ?_
    refine lv_aload_n hx hb dX2_dry_80 rfl (lv_at hl 0 rfl) ?_
    obtain ⟨r22, g23, h⟩ := bo1 h
    refine zb_callV (As := []) (rest := []) ⟨hx, hb, hml, hown, hts⟩ (zc_X2_wettestRow l D cI ad m_s m_m m_image m_was m_hasImage m_letters m_row m_refused m_letterMany m_rowMany m_place m_numbers m_cost m_seed r22 g23) (cwV 0 hts gX2_dry_X2_wettestRow rfl rfl rfl hd_X2_wettestRow ⟨Nat.le_of_ble_eq_true rfl, Nat.le_of_ble_eq_true rfl⟩) hK hP hD hS hA (zb_sM) (q0 := 0) rfl rfl rfl hl.1 rfl (Nat.le_of_ble_eq_true rfl) dX2_dry_81 ⟨Nat.le_refl _, Nat.le_refl _⟩ (fun H locs hP hD hS => ?_)
    obtain ⟨rfl, rfl⟩ := re2 h
    exact zb_iret hx hb hr hlk hP hS dX2_dry_84
  replace h := it_f c21 h
  have e_c1 := sw_ne (k := 0) rfl c1
  have e_c6 := sw_ne (k := 1) rfl c6
  have e_c9 := sw_ne (k := 2) rfl c9
  have e_c12 := sw_ne (k := 3) rfl c12
  have e_c15 := sw_ne (k := 4) rfl c15
  have e_c18 := sw_ne (k := 5) rfl c18
  have e_c21 := sw_ne (k := 6) rfl c21
  refine lv_tableOut (tgt := 85) hx hb dX2_dry_1 (by omega) (by decide) ?_
  refine lv_aload_n hx hb dX2_dry_85 rfl (lv_at hl 0 rfl) ?_
  refine lv_bipush (v := ((-2) : Int32)) hx hb dX2_dry_86 (by decide) ?_
  obtain ⟨r24, n25, g26, h⟩ := bo2 h
  refine zb_callV (As := [.int ((-2) : Int32)]) (rest := []) ⟨hx, hb, hml, hown, hts⟩ (zc_X2_no l D cI ad m_s m_m m_image m_was m_hasImage m_letters m_row m_refused m_letterMany m_rowMany m_place m_numbers m_cost m_seed ((-2) : Int32) r24 n25 g26) (cwV 1 hts gX2_dry_X2_no rfl rfl rfl hd_X2_no ⟨Nat.le_of_ble_eq_true rfl, Nat.le_of_ble_eq_true rfl⟩) hK hP hD hS hA (zb_sM) (q0 := 0) rfl rfl rfl hl.1 rfl (Nat.le_of_ble_eq_true rfl) dX2_dry_88 ⟨Nat.le_refl _, Nat.le_refl _⟩ (fun H locs hP hD hS => ?_)
  obtain ⟨rfl, rfl⟩ := re2 h
  exact zb_iret hx hb hr hlk hP hS dX2_dry_91
abbrev rm_X2_kinds : Room := { frames := 1, cells := 0, slots := 0, locals := 22 }
theorem hd_X2_kinds : yX2_kinds.cls = RX2 ∧ yX2_kinds.cls ≠ "java/lang/invoke/MethodHandle" ∧ yX2_kinds.cls ≠ "java/lang/invoke/VarHandle" ∧ (parseMethodDescriptor yX2_kinds.desc).map (fun d => d.parameters.length) = some 1 := by decide +kernel
theorem zi_X2_kinds_X2 : ∀ w ∈ wsX20, w ∈ wsX2_kinds := fun _ h => List.mem_cons_of_mem _ (List.mem_append_right _ h)
theorem zk_X2_kinds_0 : Cond.fieldLink RX2 9 "GroutingIsFollowedModel" "s" "[I" ∈ wsX2_kinds := by decide +kernel
set_option maxHeartbeats 4000000 in
set_option maxRecDepth 100000 in
theorem zc_X2_kinds (l : Launch) (D : va_G) (cI : ClassId) (ad : Nat → Nat) (m_s : (Nat → Int32)) (m_m : (Nat → Int32)) (m_image : (Nat → Int32)) (m_was : (Nat → Int32)) (m_hasImage : Int32) (m_letters : (Nat → Int32)) (m_row : (Nat → Int32)) (m_refused : (Nat → Int32)) (m_letterMany : Int32) (m_rowMany : Int32) (m_place : Int32) (m_numbers : (Nat → Int32)) (m_cost : (Nat → Int32)) (m_seed : Int32) (v1 : Int32) (r0 : Int32) (w_m_refused : (Nat → Int32)) (h : zf_X2_kinds m_s m_refused v1 = some (r0, w_m_refused)) : Cn l D cI yX2_kinds wsX2_kinds rm_X2_kinds [.ref (ad 0), .int v1] (zb_M cI ad m_s m_m m_image m_was m_hasImage m_letters m_row m_refused m_letterMany m_rowMany m_place m_numbers m_cost m_seed) (some (.int r0)) (zb_M cI ad m_s m_m m_image m_was m_hasImage m_letters m_row w_m_refused m_letterMany m_rowMany m_place m_numbers m_cost m_seed) := by
  refine zb_ofW (cc := cX2_kinds) (maxL := 4) (ret := (some .int)) (by decide) rfl (Nat.le_of_ble_eq_true rfl) ?_
  intro p e s m args below meth c A ls hx hb hr hml hts hown hlk hK hP hD hA hl
  have hS : va_S A s.heap s.heap [] := va_S.rf
  have hl : lv_has ls 4 [(0, .ref (ad 0)), (1, .int v1)] := hl
  unfold zf_X2_kinds at h
  refine lv_iload_n hx hb dX2_kinds_0 rfl (lv_at hl 1 rfl) ?_
  refine lv_iconst (v := (0 : Int32)) hx hb dX2_kinds_1 (by decide) ?_
  refine lv_iconst (v := (5 : Int32)) hx hb dX2_kinds_2 (by decide) ?_
  obtain ⟨r1, g2, h⟩ := bo1 h
  refine zb_callS (As := [.int v1, .int (0 : Int32), .int (5 : Int32)]) (rest := []) ⟨hx, hb, hml, hown, hts⟩ (zc_X2_isIn l D cI v1 (0 : Int32) (5 : Int32) r1 g2) (va_cwS 3 hts gX2_kinds_X2_isIn rfl rfl rfl hd_X2_isIn.2 ⟨Nat.le_of_ble_eq_true rfl, Nat.le_of_ble_eq_true rfl⟩) hK hP hD hS hA (zb_none _) rfl hl.1 rfl (Nat.le_of_ble_eq_true rfl) dX2_kinds_3 ⟨Nat.le_refl _, Nat.le_refl _⟩ (fun H locs hP hD hS => ?_)
  refine lv_if_ne (tgt := 16) hx hb dX2_kinds_6 (by decide) (fun c3 => ?_) (fun c3 => ?_)
  · replace h := it_f c3 h
    refine lv_iconst (v := (0 : Int32)) hx hb dX2_kinds_16 (by decide) ?_
    refine lv_istore_n (lv' := [(2, .int (0 : Int32)), (0, .ref (ad 0)), (1, .int v1)]) hx hb dX2_kinds_17 rfl hl (by decide) rfl (fun ls hl => ?_)
    refine lv_iconst (v := (0 : Int32)) hx hb dX2_kinds_18 (by decide) ?_
    refine lv_istore_n (lv' := [(3, .int (0 : Int32)), (2, .int (0 : Int32)), (0, .ref (ad 0)), (1, .int v1)]) hx hb dX2_kinds_19 rfl hl (by decide) rfl (fun ls hl => ?_)
    have lp6 : ∀ (fu6 : Nat) (x4 : Int32) (x5 : Int32) (H : Heap) (locs : List Loc) (hP : va_P D zb_cl (zb_M cI ad m_s m_m m_image m_was m_hasImage m_letters m_row m_refused m_letterMany m_rowMany m_place m_numbers m_cost m_seed) H) (hD : va_D A (zb_M cI ad m_s m_m m_image m_was m_hasImage m_letters m_row m_refused m_letterMany m_rowMany m_place m_numbers m_cost m_seed)) (hS : va_S A s.heap H locs) (ls : Array Slot) (hl : lv_has ls 4 [(0, .ref (ad 0)), (1, .int v1), (2, .int x4), (3, .int x5)]) (h : zl2 (zf_X2_kinds_b20 v1 m_s m_refused) fu6 x4 x5 = some (r0, w_m_refused)), W p l e rm_X2_kinds s m args below meth c H locs 0 0 (zb_Q below D (some (.int r0)) (zb_M cI ad m_s m_m m_image m_was m_hasImage m_letters m_row w_m_refused m_letterMany m_rowMany m_place m_numbers m_cost m_seed) A args s) (F0 m 20 ls []) := by
      intro fu6
      induction fu6 with
      | zero => intro x4 x5 H locs hP hD hS ls hl h; exact zb_no h
      | succ fu6 ih6 =>
        intro x4 x5 H locs hP hD hS ls hl h
        replace h : zf_X2_kinds_b20 v1 m_s m_refused (zl2 (zf_X2_kinds_b20 v1 m_s m_refused) fu6) x4 x5 = some (r0, w_m_refused) := h
        unfold zf_X2_kinds_b20 at h
        refine lv_iload_n hx hb dX2_kinds_20 rfl (lv_at hl 3 rfl) ?_
        refine lv_bipush (v := (30 : Int32)) hx hb dX2_kinds_21 (by decide) ?_
        refine lv_icmp_ge (tgt := 52) hx hb dX2_kinds_23 (by decide) (fun c7 => ?_) (fun c7 => ?_)
        · replace h := it_t c7 h
          refine lv_iload_n hx hb dX2_kinds_52 rfl (lv_at hl 2 rfl) ?_
          obtain ⟨rfl, rfl⟩ := re2 h
          exact zb_iret hx hb hr hlk hP hS dX2_kinds_53
        · replace h := it_f c7 h
          refine lv_iload_n hx hb dX2_kinds_26 rfl (lv_at hl 2 rfl) ?_
          refine lv_aload_n hx hb dX2_kinds_27 rfl (lv_at hl 0 rfl) ?_
          refine va_get (D := D) (ci := 2) (v := .ref (ad 1)) (C := RX2) (T := TX2) (N := 14) hx hb hts zi_X2_kinds_X2 hown hK.1 hP 0 rfl rfl 0 (by decide) (hts _ zk_X2_kinds_0) (fun _ h9 => h9) rfl dX2_kinds_28 ?_
          refine lv_iconst (v := (3 : Int32)) hx hb dX2_kinds_31 (by decide) ?_
          refine lv_iload_n hx hb dX2_kinds_32 rfl (lv_at hl 3 rfl) ?_
          refine lv_iadd hx hb dX2_kinds_33 ?_
          obtain ⟨h8, h⟩ := it_g h
          refine va_iald hx hb hK.1 hP 1 0 rfl rfl h8 dX2_kinds_34 ?_
          refine lv_iload_n hx hb dX2_kinds_35 rfl (lv_at hl 1 rfl) ?_
          refine lv_icmp_ne (tgt := 43) hx hb dX2_kinds_36 (by decide) (fun c9 => ?_) (fun c9 => ?_)
          · replace h := it_f c9 h
            refine lv_iconst (v := (0 : Int32)) hx hb dX2_kinds_43 (by decide) ?_
            refine lv_iadd hx hb dX2_kinds_44 ?_
            refine lv_istore_n (lv' := [(2, .int (x4 + (0 : Int32))), (0, .ref (ad 0)), (1, .int v1), (3, .int x5)]) hx hb dX2_kinds_45 rfl hl (by decide) rfl (fun ls hl => ?_)
            refine lv_iinc (v := (x5 + (1 : Int32))) (lv' := [(3, .int (x5 + (1 : Int32))), (2, .int (x4 + (0 : Int32))), (0, .ref (ad 0)), (1, .int v1)]) hx hb dX2_kinds_46 hl (k := 3) rfl (by first | rfl | decide) (by decide) rfl (fun ls hl => ?_)
            refine lv_goto (tgt := 20) hx hb dX2_kinds_49 (by decide) ?_
            exact ih6 (x4 + (0 : Int32)) (x5 + (1 : Int32)) _ _ hP hD hS ls (lv_sub hl [2, 3, 1, 0] rfl) h
          · replace h := it_t c9 h
            refine lv_iconst (v := (1 : Int32)) hx hb dX2_kinds_39 (by decide) ?_
            refine lv_goto (tgt := 44) hx hb dX2_kinds_40 (by decide) ?_
            refine lv_iadd hx hb dX2_kinds_44 ?_
            refine lv_istore_n (lv' := [(2, .int (x4 + (1 : Int32))), (0, .ref (ad 0)), (1, .int v1), (3, .int x5)]) hx hb dX2_kinds_45 rfl hl (by decide) rfl (fun ls hl => ?_)
            refine lv_iinc (v := (x5 + (1 : Int32))) (lv' := [(3, .int (x5 + (1 : Int32))), (2, .int (x4 + (1 : Int32))), (0, .ref (ad 0)), (1, .int v1)]) hx hb dX2_kinds_46 hl (k := 3) rfl (by first | rfl | decide) (by decide) rfl (fun ls hl => ?_)
            refine lv_goto (tgt := 20) hx hb dX2_kinds_49 (by decide) ?_
            exact ih6 (x4 + (1 : Int32)) (x5 + (1 : Int32)) _ _ hP hD hS ls (lv_sub hl [2, 3, 1, 0] rfl) h
    exact lp6 zb_FU (0 : Int32) (0 : Int32) _ _ hP hD hS ls (lv_sub hl [2, 3, 1, 0] rfl) h
  · replace h := it_t c3 h
    refine lv_aload_n hx hb dX2_kinds_9 rfl (lv_at hl 0 rfl) ?_
    refine lv_bipush (v := ((-2) : Int32)) hx hb dX2_kinds_10 (by decide) ?_
    obtain ⟨r10, n11, g12, h⟩ := bo2 h
    refine zb_callV (As := [.int ((-2) : Int32)]) (rest := []) ⟨hx, hb, hml, hown, hts⟩ (zc_X2_no l D cI ad m_s m_m m_image m_was m_hasImage m_letters m_row m_refused m_letterMany m_rowMany m_place m_numbers m_cost m_seed ((-2) : Int32) r10 n11 g12) (cwV 1 hts gX2_kinds_X2_no rfl rfl rfl hd_X2_no ⟨Nat.le_of_ble_eq_true rfl, Nat.le_of_ble_eq_true rfl⟩) hK hP hD hS hA (zb_sM) (q0 := 0) rfl rfl rfl hl.1 rfl (Nat.le_of_ble_eq_true rfl) dX2_kinds_12 ⟨Nat.le_refl _, Nat.le_refl _⟩ (fun H locs hP hD hS => ?_)
    obtain ⟨rfl, rfl⟩ := re2 h
    exact zb_iret hx hb hr hlk hP hS dX2_kinds_15
abbrev rm_X2_farOf : Room := { frames := 1, cells := 0, slots := 0, locals := 21 }
theorem hd_X2_farOf : yX2_farOf.cls = RX2 ∧ yX2_farOf.cls ≠ "java/lang/invoke/MethodHandle" ∧ yX2_farOf.cls ≠ "java/lang/invoke/VarHandle" ∧ (parseMethodDescriptor yX2_farOf.desc).map (fun d => d.parameters.length) = some 2 := by decide +kernel
set_option maxHeartbeats 4000000 in
set_option maxRecDepth 100000 in
theorem zc_X2_farOf (l : Launch) (D : va_G) (cI : ClassId)  (v0 : Int32) (v1 : Int32) (r0 : Int32) (h : zf_X2_farOf v0 v1 = some r0) : Cn l D cI yX2_farOf wsX2_farOf rm_X2_farOf [.int v0, .int v1] ([]) (some (.int r0)) ([]) := by
  refine zb_ofW (cc := cX2_farOf) (maxL := 2) (ret := (some .int)) (by decide) rfl (Nat.le_of_ble_eq_true rfl) ?_
  intro p e s m args below meth c A ls hx hb hr hml hts hown hlk hK hP hD hA hl
  have hS : va_S A s.heap s.heap [] := va_S.rf
  have hl : lv_has ls 2 [(0, .int v0), (1, .int v1)] := hl
  unfold zf_X2_farOf at h
  refine lv_iload_n hx hb dX2_farOf_0 rfl (lv_at hl 0 rfl) ?_
  refine lv_bipush (v := (6 : Int32)) hx hb dX2_farOf_1 (by decide) ?_
  refine lv_idiv hx hb dX2_farOf_3 (by decide) ?_
  refine lv_iload_n hx hb dX2_farOf_4 rfl (lv_at hl 1 rfl) ?_
  refine lv_bipush (v := (6 : Int32)) hx hb dX2_farOf_5 (by decide) ?_
  refine lv_idiv hx hb dX2_farOf_7 (by decide) ?_
  obtain ⟨r1, g2, h⟩ := bo1 h
  refine zb_callS (As := [.int (v0 / (6 : Int32)), .int (v1 / (6 : Int32))]) (rest := []) ⟨hx, hb, hml, hown, hts⟩ (zc_X2_apart l D cI (v0 / (6 : Int32)) (v1 / (6 : Int32)) r1 g2) (va_cwS 2 hts gX2_farOf_X2_apart rfl rfl rfl hd_X2_apart.2 ⟨Nat.le_of_ble_eq_true rfl, Nat.le_of_ble_eq_true rfl⟩) hK hP hD hS hA (zb_none _) rfl hl.1 rfl (Nat.le_of_ble_eq_true rfl) dX2_farOf_8 ⟨Nat.le_refl _, Nat.le_refl _⟩ (fun H locs hP hD hS => ?_)
  refine lv_iload_n hx hb dX2_farOf_11 rfl (lv_at hl 0 rfl) ?_
  refine lv_bipush (v := (6 : Int32)) hx hb dX2_farOf_12 (by decide) ?_
  refine lv_irem hx hb dX2_farOf_14 (by decide) ?_
  refine lv_iload_n hx hb dX2_farOf_15 rfl (lv_at hl 1 rfl) ?_
  refine lv_bipush (v := (6 : Int32)) hx hb dX2_farOf_16 (by decide) ?_
  refine lv_irem hx hb dX2_farOf_18 (by decide) ?_
  obtain ⟨r3, g4, h⟩ := bo1 h
  refine zb_callS (As := [.int (jr v0 (6 : Int32)), .int (jr v1 (6 : Int32))]) (rest := [.int r1]) ⟨hx, hb, hml, hown, hts⟩ (zc_X2_apart l D cI (jr v0 (6 : Int32)) (jr v1 (6 : Int32)) r3 g4) (va_cwS 2 hts gX2_farOf_X2_apart rfl rfl rfl hd_X2_apart.2 ⟨Nat.le_of_ble_eq_true rfl, Nat.le_of_ble_eq_true rfl⟩) hK hP hD hS hA (zb_none _) rfl hl.1 rfl (Nat.le_of_ble_eq_true rfl) dX2_farOf_19 ⟨Nat.le_refl _, Nat.le_refl _⟩ (fun H locs hP hD hS => ?_)
  refine lv_iadd hx hb dX2_farOf_22 ?_
  obtain rfl := re1 h
  exact zb_iret hx hb hr hlk hP hS dX2_farOf_23
abbrev rm_X2_near : Room := { frames := 2, cells := 0, slots := 0, locals := 42 }
theorem hd_X2_near : yX2_near.cls = RX2 ∧ yX2_near.cls ≠ "java/lang/invoke/MethodHandle" ∧ yX2_near.cls ≠ "java/lang/invoke/VarHandle" ∧ (parseMethodDescriptor yX2_near.desc).map (fun d => d.parameters.length) = some 1 := by decide +kernel
theorem zi_X2_near_X2 : ∀ w ∈ wsX20, w ∈ wsX2_near := fun _ h => List.mem_cons_of_mem _ (List.mem_append_right _ h)
theorem zk_X2_near_0 : Cond.fieldLink RX2 9 "GroutingIsFollowedModel" "s" "[I" ∈ wsX2_near := by decide +kernel
set_option maxHeartbeats 4000000 in
set_option maxRecDepth 100000 in
theorem zc_X2_near (l : Launch) (D : va_G) (cI : ClassId) (ad : Nat → Nat) (m_s : (Nat → Int32)) (m_m : (Nat → Int32)) (m_image : (Nat → Int32)) (m_was : (Nat → Int32)) (m_hasImage : Int32) (m_letters : (Nat → Int32)) (m_row : (Nat → Int32)) (m_refused : (Nat → Int32)) (m_letterMany : Int32) (m_rowMany : Int32) (m_place : Int32) (m_numbers : (Nat → Int32)) (m_cost : (Nat → Int32)) (m_seed : Int32) (v1 : Int32) (r0 : Int32) (w_m_refused : (Nat → Int32)) (h : zf_X2_near m_s m_refused v1 = some (r0, w_m_refused)) : Cn l D cI yX2_near wsX2_near rm_X2_near [.ref (ad 0), .int v1] (zb_M cI ad m_s m_m m_image m_was m_hasImage m_letters m_row m_refused m_letterMany m_rowMany m_place m_numbers m_cost m_seed) (some (.int r0)) (zb_M cI ad m_s m_m m_image m_was m_hasImage m_letters m_row w_m_refused m_letterMany m_rowMany m_place m_numbers m_cost m_seed) := by
  refine zb_ofW (cc := cX2_near) (maxL := 4) (ret := (some .int)) (by decide) rfl (Nat.le_of_ble_eq_true rfl) ?_
  intro p e s m args below meth c A ls hx hb hr hml hts hown hlk hK hP hD hA hl
  have hS : va_S A s.heap s.heap [] := va_S.rf
  have hl : lv_has ls 4 [(0, .ref (ad 0)), (1, .int v1)] := hl
  unfold zf_X2_near at h
  refine lv_iload_n hx hb dX2_near_0 rfl (lv_at hl 1 rfl) ?_
  obtain ⟨r1, g2, h⟩ := bo1 h
  refine zb_callS (As := [.int v1]) (rest := []) ⟨hx, hb, hml, hown, hts⟩ (zc_X2_isNode l D cI v1 r1 g2) (va_cwS 1 hts gX2_near_X2_isNode rfl rfl rfl hd_X2_isNode.2 ⟨Nat.le_of_ble_eq_true rfl, Nat.le_of_ble_eq_true rfl⟩) hK hP hD hS hA (zb_none _) rfl hl.1 rfl (Nat.le_of_ble_eq_true rfl) dX2_near_1 ⟨Nat.le_refl _, Nat.le_refl _⟩ (fun H locs hP hD hS => ?_)
  refine lv_if_ne (tgt := 13) hx hb dX2_near_4 (by decide) (fun c3 => ?_) (fun c3 => ?_)
  · replace h := it_f c3 h
    refine lv_bipush (v := ((-9) : Int32)) hx hb dX2_near_13 (by decide) ?_
    refine lv_istore_n (lv' := [(2, .int ((-9) : Int32)), (0, .ref (ad 0)), (1, .int v1)]) hx hb dX2_near_15 rfl hl (by decide) rfl (fun ls hl => ?_)
    refine lv_iconst (v := (0 : Int32)) hx hb dX2_near_16 (by decide) ?_
    refine lv_istore_n (lv' := [(3, .int (0 : Int32)), (2, .int ((-9) : Int32)), (0, .ref (ad 0)), (1, .int v1)]) hx hb dX2_near_17 rfl hl (by decide) rfl (fun ls hl => ?_)
    have lp6 : ∀ (fu6 : Nat) (x4 : Int32) (x5 : Int32) (H : Heap) (locs : List Loc) (hP : va_P D zb_cl (zb_M cI ad m_s m_m m_image m_was m_hasImage m_letters m_row m_refused m_letterMany m_rowMany m_place m_numbers m_cost m_seed) H) (hD : va_D A (zb_M cI ad m_s m_m m_image m_was m_hasImage m_letters m_row m_refused m_letterMany m_rowMany m_place m_numbers m_cost m_seed)) (hS : va_S A s.heap H locs) (ls : Array Slot) (hl : lv_has ls 4 [(0, .ref (ad 0)), (1, .int v1), (2, .int x4), (3, .int x5)]) (h : zl2 (zf_X2_near_b18 v1 m_s m_refused) fu6 x4 x5 = some (r0, w_m_refused)), W p l e rm_X2_near s m args below meth c H locs 0 0 (zb_Q below D (some (.int r0)) (zb_M cI ad m_s m_m m_image m_was m_hasImage m_letters m_row w_m_refused m_letterMany m_rowMany m_place m_numbers m_cost m_seed) A args s) (F0 m 18 ls []) := by
      intro fu6
      induction fu6 with
      | zero => intro x4 x5 H locs hP hD hS ls hl h; exact zb_no h
      | succ fu6 ih6 =>
        intro x4 x5 H locs hP hD hS ls hl h
        replace h : zf_X2_near_b18 v1 m_s m_refused (zl2 (zf_X2_near_b18 v1 m_s m_refused) fu6) x4 x5 = some (r0, w_m_refused) := h
        unfold zf_X2_near_b18 at h
        refine lv_iload_n hx hb dX2_near_18 rfl (lv_at hl 3 rfl) ?_
        refine lv_aload_n hx hb dX2_near_19 rfl (lv_at hl 0 rfl) ?_
        refine va_get (D := D) (ci := 2) (v := .ref (ad 1)) (C := RX2) (T := TX2) (N := 14) hx hb hts zi_X2_near_X2 hown hK.1 hP 0 rfl rfl 0 (by decide) (hts _ zk_X2_near_0) (fun _ h9 => h9) rfl dX2_near_20 ?_
        refine lv_iconst (v := (0 : Int32)) hx hb dX2_near_23 (by decide) ?_
        refine va_iald hx hb hK.1 hP 1 0 rfl rfl (vl_in (by decide)) dX2_near_24 ?_
        refine lv_icmp_ge (tgt := 71) hx hb dX2_near_25 (by decide) (fun c7 => ?_) (fun c7 => ?_)
        · replace h := it_t c7 h
          refine lv_iload_n hx hb dX2_near_71 rfl (lv_at hl 2 rfl) ?_
          obtain ⟨rfl, rfl⟩ := re2 h
          exact zb_iret hx hb hr hlk hP hS dX2_near_72
        · replace h := it_f c7 h
          refine lv_iload_n hx hb dX2_near_28 rfl (lv_at hl 2 rfl) ?_
          refine lv_if_lt (tgt := 63) hx hb dX2_near_29 (by decide) (fun c8 => ?_) (fun c8 => ?_)
          · replace h := it_t c8 h
            refine lv_iload_n hx hb dX2_near_63 rfl (lv_at hl 3 rfl) ?_
            refine lv_istore_n (lv' := [(2, .int x5), (0, .ref (ad 0)), (1, .int v1), (3, .int x5)]) hx hb dX2_near_64 rfl hl (by decide) rfl (fun ls hl => ?_)
            refine lv_iinc (v := (x5 + (1 : Int32))) (lv' := [(3, .int (x5 + (1 : Int32))), (2, .int x5), (0, .ref (ad 0)), (1, .int v1)]) hx hb dX2_near_65 hl (k := 3) rfl (by first | rfl | decide) (by decide) rfl (fun ls hl => ?_)
            refine lv_goto (tgt := 18) hx hb dX2_near_68 (by decide) ?_
            exact ih6 x5 (x5 + (1 : Int32)) _ _ hP hD hS ls (lv_sub hl [2, 3, 1, 0] rfl) h
          · replace h := it_f c8 h
            refine lv_aload_n hx hb dX2_near_32 rfl (lv_at hl 0 rfl) ?_
            refine va_get (D := D) (ci := 2) (v := .ref (ad 1)) (C := RX2) (T := TX2) (N := 14) hx hb hts zi_X2_near_X2 hown hK.1 hP 0 rfl rfl 0 (by decide) (hts _ zk_X2_near_0) (fun _ h9 => h9) rfl dX2_near_33 ?_
            refine lv_iload_n hx hb dX2_near_36 rfl (lv_at hl 3 rfl) ?_
            refine lv_iconst (v := (0 : Int32)) hx hb dX2_near_37 (by decide) ?_
            obtain ⟨r9, g10, h⟩ := bo1 h
            refine zb_callS (As := [.int x5, .int (0 : Int32)]) (rest := [.ref (ad 1)]) ⟨hx, hb, hml, hown, hts⟩ (zc_X2_of l D cI x5 (0 : Int32) r9 g10) (va_cwS 2 hts gX2_near_X2_of rfl rfl rfl hd_X2_of.2 ⟨Nat.le_of_ble_eq_true rfl, Nat.le_of_ble_eq_true rfl⟩) hK hP hD hS hA (zb_none _) rfl hl.1 rfl (Nat.le_of_ble_eq_true rfl) dX2_near_38 ⟨Nat.le_refl _, Nat.le_refl _⟩ (fun H locs hP hD hS => ?_)
            obtain ⟨h11, h⟩ := it_g h
            refine va_iald hx hb hK.1 hP 1 0 rfl rfl h11 dX2_near_41 ?_
            refine lv_iload_n hx hb dX2_near_42 rfl (lv_at hl 1 rfl) ?_
            obtain ⟨r12, g13, h⟩ := bo1 h
            refine zb_callS (As := [.int (m_s r9.toNatClampNeg), .int v1]) (rest := []) ⟨hx, hb, hml, hown, hts⟩ (zc_X2_farOf l D cI (m_s r9.toNatClampNeg) v1 r12 g13) (va_cwS 2 hts gX2_near_X2_farOf rfl rfl rfl hd_X2_farOf.2 ⟨Nat.le_of_ble_eq_true rfl, Nat.le_of_ble_eq_true rfl⟩) hK hP hD hS hA (zb_none _) rfl hl.1 rfl (Nat.le_of_ble_eq_true rfl) dX2_near_43 ⟨Nat.le_refl _, Nat.le_refl _⟩ (fun H locs hP hD hS => ?_)
            refine lv_aload_n hx hb dX2_near_46 rfl (lv_at hl 0 rfl) ?_
            refine va_get (D := D) (ci := 2) (v := .ref (ad 1)) (C := RX2) (T := TX2) (N := 14) hx hb hts zi_X2_near_X2 hown hK.1 hP 0 rfl rfl 0 (by decide) (hts _ zk_X2_near_0) (fun _ h9 => h9) rfl dX2_near_47 ?_
            refine lv_iload_n hx hb dX2_near_50 rfl (lv_at hl 2 rfl) ?_
            refine lv_iconst (v := (0 : Int32)) hx hb dX2_near_51 (by decide) ?_
            obtain ⟨r14, g15, h⟩ := bo1 h
            refine zb_callS (As := [.int x4, .int (0 : Int32)]) (rest := [.ref (ad 1), .int r12]) ⟨hx, hb, hml, hown, hts⟩ (zc_X2_of l D cI x4 (0 : Int32) r14 g15) (va_cwS 2 hts gX2_near_X2_of rfl rfl rfl hd_X2_of.2 ⟨Nat.le_of_ble_eq_true rfl, Nat.le_of_ble_eq_true rfl⟩) hK hP hD hS hA (zb_none _) rfl hl.1 rfl (Nat.le_of_ble_eq_true rfl) dX2_near_52 ⟨Nat.le_refl _, Nat.le_refl _⟩ (fun H locs hP hD hS => ?_)
            obtain ⟨h16, h⟩ := it_g h
            refine va_iald hx hb hK.1 hP 1 0 rfl rfl h16 dX2_near_55 ?_
            refine lv_iload_n hx hb dX2_near_56 rfl (lv_at hl 1 rfl) ?_
            obtain ⟨r17, g18, h⟩ := bo1 h
            refine zb_callS (As := [.int (m_s r14.toNatClampNeg), .int v1]) (rest := [.int r12]) ⟨hx, hb, hml, hown, hts⟩ (zc_X2_farOf l D cI (m_s r14.toNatClampNeg) v1 r17 g18) (va_cwS 2 hts gX2_near_X2_farOf rfl rfl rfl hd_X2_farOf.2 ⟨Nat.le_of_ble_eq_true rfl, Nat.le_of_ble_eq_true rfl⟩) hK hP hD hS hA (zb_none _) rfl hl.1 rfl (Nat.le_of_ble_eq_true rfl) dX2_near_57 ⟨Nat.le_refl _, Nat.le_refl _⟩ (fun H locs hP hD hS => ?_)
            refine lv_icmp_ge (tgt := 65) hx hb dX2_near_60 (by decide) (fun c19 => ?_) (fun c19 => ?_)
            · replace h := it_t c19 h
              refine lv_iinc (v := (x5 + (1 : Int32))) (lv' := [(3, .int (x5 + (1 : Int32))), (0, .ref (ad 0)), (1, .int v1), (2, .int x4)]) hx hb dX2_near_65 hl (k := 3) rfl (by first | rfl | decide) (by decide) rfl (fun ls hl => ?_)
              refine lv_goto (tgt := 18) hx hb dX2_near_68 (by decide) ?_
              exact ih6 x4 (x5 + (1 : Int32)) _ _ hP hD hS ls (lv_sub hl [1, 2, 3, 0] rfl) h
            · replace h := it_f c19 h
              refine lv_iload_n hx hb dX2_near_63 rfl (lv_at hl 3 rfl) ?_
              refine lv_istore_n (lv' := [(2, .int x5), (0, .ref (ad 0)), (1, .int v1), (3, .int x5)]) hx hb dX2_near_64 rfl hl (by decide) rfl (fun ls hl => ?_)
              refine lv_iinc (v := (x5 + (1 : Int32))) (lv' := [(3, .int (x5 + (1 : Int32))), (2, .int x5), (0, .ref (ad 0)), (1, .int v1)]) hx hb dX2_near_65 hl (k := 3) rfl (by first | rfl | decide) (by decide) rfl (fun ls hl => ?_)
              refine lv_goto (tgt := 18) hx hb dX2_near_68 (by decide) ?_
              exact ih6 x5 (x5 + (1 : Int32)) _ _ hP hD hS ls (lv_sub hl [2, 3, 1, 0] rfl) h
    exact lp6 zb_FU ((-9) : Int32) (0 : Int32) _ _ hP hD hS ls (lv_sub hl [2, 3, 1, 0] rfl) h
  · replace h := it_t c3 h
    refine lv_aload_n hx hb dX2_near_7 rfl (lv_at hl 0 rfl) ?_
    refine lv_iconst (v := ((-1) : Int32)) hx hb dX2_near_8 (by decide) ?_
    obtain ⟨r20, n21, g22, h⟩ := bo2 h
    refine zb_callV (As := [.int ((-1) : Int32)]) (rest := []) ⟨hx, hb, hml, hown, hts⟩ (zc_X2_no l D cI ad m_s m_m m_image m_was m_hasImage m_letters m_row m_refused m_letterMany m_rowMany m_place m_numbers m_cost m_seed ((-1) : Int32) r20 n21 g22) (cwV 1 hts gX2_near_X2_no rfl rfl rfl hd_X2_no ⟨Nat.le_of_ble_eq_true rfl, Nat.le_of_ble_eq_true rfl⟩) hK hP hD hS hA (zb_sM) (q0 := 0) rfl rfl rfl hl.1 rfl (Nat.le_of_ble_eq_true rfl) dX2_near_9 ⟨Nat.le_refl _, Nat.le_refl _⟩ (fun H locs hP hD hS => ?_)
    obtain ⟨rfl, rfl⟩ := re2 h
    exact zb_iret hx hb hr hlk hP hS dX2_near_12
abbrev rm_X2_hasBy : Room := { frames := 4, cells := 0, slots := 0, locals := 91 }
theorem hd_X2_hasBy : yX2_hasBy.cls = RX2 ∧ yX2_hasBy.cls ≠ "java/lang/invoke/MethodHandle" ∧ yX2_hasBy.cls ≠ "java/lang/invoke/VarHandle" ∧ (parseMethodDescriptor yX2_hasBy.desc).map (fun d => d.parameters.length) = some 6 := by decide +kernel
theorem zi_X2_hasBy_X2 : ∀ w ∈ wsX20, w ∈ wsX2_hasBy := fun _ h => List.mem_cons_of_mem _ (List.mem_append_right _ h)
theorem zk_X2_hasBy_0 : Cond.fieldLink RX2 9 "GroutingIsFollowedModel" "s" "[I" ∈ wsX2_hasBy := by decide +kernel
theorem zk_X2_hasBy_1 : Cond.fieldLink RX2 13 "GroutingIsFollowedModel" "m" "[I" ∈ wsX2_hasBy := by decide +kernel
set_option maxHeartbeats 4000000 in
set_option maxRecDepth 100000 in
theorem zc_X2_hasBy (l : Launch) (D : va_G) (cI : ClassId) (ad : Nat → Nat) (m_s : (Nat → Int32)) (m_m : (Nat → Int32)) (m_image : (Nat → Int32)) (m_was : (Nat → Int32)) (m_hasImage : Int32) (m_letters : (Nat → Int32)) (m_row : (Nat → Int32)) (m_refused : (Nat → Int32)) (m_letterMany : Int32) (m_rowMany : Int32) (m_place : Int32) (m_numbers : (Nat → Int32)) (m_cost : (Nat → Int32)) (m_seed : Int32) (v1 : Int32) (v2 : Int32) (v3 : Int32) (v4 : Int32) (v5 : Int32) (v6 : Int32) (r0 : Int32) (w_m_m : (Nat → Int32)) (h : zf_X2_hasBy m_s m_m v1 v2 v3 v4 v5 v6 = some (r0, w_m_m)) : Cn l D cI yX2_hasBy wsX2_hasBy rm_X2_hasBy [.ref (ad 0), .int v1, .int v2, .int v3, .int v4, .int v5, .int v6] (zb_M cI ad m_s m_m m_image m_was m_hasImage m_letters m_row m_refused m_letterMany m_rowMany m_place m_numbers m_cost m_seed) (some (.int r0)) (zb_M cI ad m_s w_m_m m_image m_was m_hasImage m_letters m_row m_refused m_letterMany m_rowMany m_place m_numbers m_cost m_seed) := by
  refine zb_ofW (cc := cX2_hasBy) (maxL := 10) (ret := (some .int)) (by decide) rfl (Nat.le_of_ble_eq_true rfl) ?_
  intro p e s m args below meth c A ls hx hb hr hml hts hown hlk hK hP hD hA hl
  have hS : va_S A s.heap s.heap [] := va_S.rf
  have hl : lv_has ls 10 [(0, .ref (ad 0)), (1, .int v1), (2, .int v2), (3, .int v3), (4, .int v4), (5, .int v5), (6, .int v6)] := hl
  unfold zf_X2_hasBy at h
  have j115 : ∀ (x1 : Int32) (x2 : Int32) (x3 : (Nat → Int32)) (H : Heap) (locs : List Loc) (hP : va_P D zb_cl (zb_M cI ad m_s x3 m_image m_was m_hasImage m_letters m_row m_refused m_letterMany m_rowMany m_place m_numbers m_cost m_seed) H) (hD : va_D A (zb_M cI ad m_s x3 m_image m_was m_hasImage m_letters m_row m_refused m_letterMany m_rowMany m_place m_numbers m_cost m_seed)) (hS : va_S A s.heap H locs) (ls : Array Slot) (hl : lv_has ls 10 [(7, .int x1), (8, .int x2)]) (h : zf_X2_hasBy_j115 x1 x2 x3 = some (r0, w_m_m)), W p l e rm_X2_hasBy s m args below meth c H locs 0 0 (zb_Q below D (some (.int r0)) (zb_M cI ad m_s w_m_m m_image m_was m_hasImage m_letters m_row m_refused m_letterMany m_rowMany m_place m_numbers m_cost m_seed) A args s) (F0 m 115 ls []) := by
    intro x1 x2 x3 H locs hP hD hS ls hl h
    unfold zf_X2_hasBy_j115 at h
    refine lv_iload hx hb dX2_hasBy_115 (lv_at hl 0 rfl) ?_
    obtain ⟨r4, g5, h⟩ := bo1 h
    refine zb_callS (As := [.int x1]) (rest := []) ⟨hx, hb, hml, hown, hts⟩ (zc_X2_bits l D cI x1 r4 g5) (va_cwS 1 hts gX2_hasBy_X2_bits rfl rfl rfl hd_X2_bits.2 ⟨Nat.le_of_ble_eq_true rfl, Nat.le_of_ble_eq_true rfl⟩) hK hP hD hS hA (zb_none _) rfl hl.1 rfl (Nat.le_of_ble_eq_true rfl) dX2_hasBy_117 ⟨Nat.le_refl _, Nat.le_refl _⟩ (fun H locs hP hD hS => ?_)
    refine lv_iload hx hb dX2_hasBy_120 (lv_at hl 1 rfl) ?_
    refine lv_if_eq (tgt := 129) hx hb dX2_hasBy_122 (by decide) (fun c6 => ?_) (fun c6 => ?_)
    · replace h := it_t c6 h
      refine lv_iconst (v := (0 : Int32)) hx hb dX2_hasBy_129 (by decide) ?_
      refine lv_iadd hx hb dX2_hasBy_130 ?_
      obtain ⟨rfl, rfl⟩ := re2 h
      exact zb_iret hx hb hr hlk hP hS dX2_hasBy_131
    · replace h := it_f c6 h
      refine lv_iconst (v := (2 : Int32)) hx hb dX2_hasBy_125 (by decide) ?_
      refine lv_goto (tgt := 130) hx hb dX2_hasBy_126 (by decide) ?_
      refine lv_iadd hx hb dX2_hasBy_130 ?_
      obtain ⟨rfl, rfl⟩ := re2 h
      exact zb_iret hx hb hr hlk hP hS dX2_hasBy_131
  refine lv_aload_n hx hb dX2_hasBy_0 rfl (lv_at hl 0 rfl) ?_
  refine va_get (D := D) (ci := 2) (v := .ref (ad 1)) (C := RX2) (T := TX2) (N := 14) hx hb hts zi_X2_hasBy_X2 hown hK.1 hP 0 rfl rfl 0 (by decide) (hts _ zk_X2_hasBy_0) (fun _ h9 => h9) rfl dX2_hasBy_1 ?_
  refine lv_aload_n hx hb dX2_hasBy_4 rfl (lv_at hl 0 rfl) ?_
  refine va_get (D := D) (ci := 2) (v := .ref (ad 2)) (C := RX2) (T := TX2) (N := 14) hx hb hts zi_X2_hasBy_X2 hown hK.1 hP 0 rfl rfl 1 (by decide) (hts _ zk_X2_hasBy_1) (fun _ h9 => h9) rfl dX2_hasBy_5 ?_
  obtain ⟨n7, g8, h⟩ := bo1 h
  refine zb_callS (As := [.ref (ad 1), .ref (ad 2)]) (rest := []) ⟨hx, hb, hml, hown, hts⟩ (zc_X2_copies l D cI (ad 1) (ad 2) m_s m_m n7 g8) (va_cwS 2 hts gX2_hasBy_X2_copies rfl rfl rfl hd_X2_copies.2 ⟨Nat.le_of_ble_eq_true rfl, Nat.le_of_ble_eq_true rfl⟩) hK hP hD hS hA (zb_cM_s_m) rfl hl.1 rfl (Nat.le_of_ble_eq_true rfl) dX2_hasBy_8 ⟨Nat.le_refl _, Nat.le_refl _⟩ (fun H locs hP hD hS => ?_)
  refine lv_aload_n hx hb dX2_hasBy_11 rfl (lv_at hl 0 rfl) ?_
  refine va_get (D := D) (ci := 2) (v := .ref (ad 2)) (C := RX2) (T := TX2) (N := 14) hx hb hts zi_X2_hasBy_X2 hown hK.1 hP 0 rfl rfl 1 (by decide) (hts _ zk_X2_hasBy_1) (fun _ h9 => h9) rfl dX2_hasBy_12 ?_
  refine lv_iconst (v := (2 : Int32)) hx hb dX2_hasBy_15 (by decide) ?_
  refine lv_iconst (v := (1 : Int32)) hx hb dX2_hasBy_16 (by decide) ?_
  refine lv_iload_n hx hb dX2_hasBy_17 rfl (lv_at hl 3 rfl) ?_
  refine lv_isub hx hb dX2_hasBy_18 ?_
  refine lv_iload_n hx hb dX2_hasBy_19 rfl (lv_at hl 2 rfl) ?_
  refine lv_ishl hx hb dX2_hasBy_20 ?_
  refine lv_iconst (v := (1 : Int32)) hx hb dX2_hasBy_21 (by decide) ?_
  refine lv_iload hx hb dX2_hasBy_22 (lv_at hl 5 rfl) ?_
  refine lv_isub hx hb dX2_hasBy_24 ?_
  refine lv_iload hx hb dX2_hasBy_25 (lv_at hl 4 rfl) ?_
  refine lv_ishl hx hb dX2_hasBy_27 ?_
  refine lv_ior hx hb dX2_hasBy_28 ?_
  refine va_iast hx hb hK.1 hP hD hS 2 0 rfl rfl (vl_in (by decide)) dX2_hasBy_29 (fun H locs hP hD hS => ?_)
  have hP : va_P D zb_cl (zb_M cI ad m_s (upd n7 (2 : Int32).toNatClampNeg ((((1 : Int32) - v3) <<< (v2 &&& 31)) ||| (((1 : Int32) - v5) <<< (v4 &&& 31)))) m_image m_was m_hasImage m_letters m_row m_refused m_letterMany m_rowMany m_place m_numbers m_cost m_seed) H := hP
  have hD : va_D A (zb_M cI ad m_s (upd n7 (2 : Int32).toNatClampNeg ((((1 : Int32) - v3) <<< (v2 &&& 31)) ||| (((1 : Int32) - v5) <<< (v4 &&& 31)))) m_image m_was m_hasImage m_letters m_row m_refused m_letterMany m_rowMany m_place m_numbers m_cost m_seed) := hD
  refine lv_iconst (v := (0 : Int32)) hx hb dX2_hasBy_30 (by decide) ?_
  refine lv_istore (lv' := [(7, .int (0 : Int32)), (0, .ref (ad 0)), (1, .int v1), (2, .int v2), (3, .int v3), (4, .int v4), (5, .int v5), (6, .int v6)]) hx hb dX2_hasBy_31 hl (by decide) rfl (fun ls hl => ?_)
  refine lv_iconst (v := (0 : Int32)) hx hb dX2_hasBy_33 (by decide) ?_
  refine lv_istore (lv' := [(8, .int (0 : Int32)), (7, .int (0 : Int32)), (0, .ref (ad 0)), (1, .int v1), (2, .int v2), (3, .int v3), (4, .int v4), (5, .int v5), (6, .int v6)]) hx hb dX2_hasBy_34 hl (by decide) rfl (fun ls hl => ?_)
  refine lv_iconst (v := (0 : Int32)) hx hb dX2_hasBy_36 (by decide) ?_
  refine lv_istore (lv' := [(9, .int (0 : Int32)), (8, .int (0 : Int32)), (7, .int (0 : Int32)), (0, .ref (ad 0)), (1, .int v1), (2, .int v2), (3, .int v3), (4, .int v4), (5, .int v5), (6, .int v6)]) hx hb dX2_hasBy_37 hl (by decide) rfl (fun ls hl => ?_)
  have lp13 : ∀ (fu13 : Nat) (x9 : Int32) (x10 : Int32) (x11 : Int32) (x12 : (Nat → Int32)) (H : Heap) (locs : List Loc) (hP : va_P D zb_cl (zb_M cI ad m_s x12 m_image m_was m_hasImage m_letters m_row m_refused m_letterMany m_rowMany m_place m_numbers m_cost m_seed) H) (hD : va_D A (zb_M cI ad m_s x12 m_image m_was m_hasImage m_letters m_row m_refused m_letterMany m_rowMany m_place m_numbers m_cost m_seed)) (hS : va_S A s.heap H locs) (ls : Array Slot) (hl : lv_has ls 10 [(0, .ref (ad 0)), (1, .int v1), (2, .int v2), (4, .int v4), (6, .int v6), (7, .int x9), (8, .int x10), (9, .int x11)]) (h : zl4 (zf_X2_hasBy_b39 v1 v2 v4 v6) fu13 x9 x10 x11 x12 = some (r0, w_m_m)), W p l e rm_X2_hasBy s m args below meth c H locs 0 0 (zb_Q below D (some (.int r0)) (zb_M cI ad m_s w_m_m m_image m_was m_hasImage m_letters m_row m_refused m_letterMany m_rowMany m_place m_numbers m_cost m_seed) A args s) (F0 m 39 ls []) := by
    intro fu13
    induction fu13 with
    | zero => intro x9 x10 x11 x12 H locs hP hD hS ls hl h; exact zb_no h
    | succ fu13 ih13 =>
      intro x9 x10 x11 x12 H locs hP hD hS ls hl h
      replace h : zf_X2_hasBy_b39 v1 v2 v4 v6 (zl4 (zf_X2_hasBy_b39 v1 v2 v4 v6) fu13) x9 x10 x11 x12 = some (r0, w_m_m) := h
      unfold zf_X2_hasBy_b39 at h
      have j58 : ∀ (x14 : Int32) (x15 : Int32) (x16 : Int32) (x17 : (Nat → Int32)) (H : Heap) (locs : List Loc) (hP : va_P D zb_cl (zb_M cI ad m_s x17 m_image m_was m_hasImage m_letters m_row m_refused m_letterMany m_rowMany m_place m_numbers m_cost m_seed) H) (hD : va_D A (zb_M cI ad m_s x17 m_image m_was m_hasImage m_letters m_row m_refused m_letterMany m_rowMany m_place m_numbers m_cost m_seed)) (hS : va_S A s.heap H locs) (ls : Array Slot) (hl : lv_has ls 10 [(0, .ref (ad 0)), (1, .int v1), (2, .int v2), (4, .int v4), (6, .int v6), (7, .int x14), (8, .int x15), (9, .int x16)]) (h : zf_X2_hasBy_j58 (zl4 (zf_X2_hasBy_b39 v1 v2 v4 v6) fu13) v1 v2 v4 x14 x15 x16 x17 = some (r0, w_m_m)), W p l e rm_X2_hasBy s m args below meth c H locs 0 0 (zb_Q below D (some (.int r0)) (zb_M cI ad m_s w_m_m m_image m_was m_hasImage m_letters m_row m_refused m_letterMany m_rowMany m_place m_numbers m_cost m_seed) A args s) (F0 m 58 ls []) := by
        intro x14 x15 x16 x17 H locs hP hD hS ls hl h
        unfold zf_X2_hasBy_j58 at h
        refine lv_iload hx hb dX2_hasBy_58 (lv_at hl 5 rfl) ?_
        refine lv_iconst (v := (1 : Int32)) hx hb dX2_hasBy_60 (by decide) ?_
        refine lv_aload_n hx hb dX2_hasBy_61 rfl (lv_at hl 0 rfl) ?_
        refine va_get (D := D) (ci := 2) (v := .ref (ad 2)) (C := RX2) (T := TX2) (N := 14) hx hb hts zi_X2_hasBy_X2 hown hK.1 hP 0 rfl rfl 1 (by decide) (hts _ zk_X2_hasBy_1) (fun _ h9 => h9) rfl dX2_hasBy_62 ?_
        refine lv_iload_n hx hb dX2_hasBy_65 rfl (lv_at hl 1 rfl) ?_
        refine lv_iconst (v := (0 : Int32)) hx hb dX2_hasBy_66 (by decide) ?_
        obtain ⟨r18, g19, h⟩ := bo1 h
        refine zb_callS (As := [.int v1, .int (0 : Int32)]) (rest := [.ref (ad 2), .int (1 : Int32), .int x14]) ⟨hx, hb, hml, hown, hts⟩ (zc_X2_of l D cI v1 (0 : Int32) r18 g19) (va_cwS 2 hts gX2_hasBy_X2_of rfl rfl rfl hd_X2_of.2 ⟨Nat.le_of_ble_eq_true rfl, Nat.le_of_ble_eq_true rfl⟩) hK hP hD hS hA (zb_none _) rfl hl.1 rfl (Nat.le_of_ble_eq_true rfl) dX2_hasBy_67 ⟨Nat.le_refl _, Nat.le_refl _⟩ (fun H locs hP hD hS => ?_)
        obtain ⟨h20, h⟩ := it_g h
        refine va_iald hx hb hK.1 hP 2 0 rfl rfl h20 dX2_hasBy_70 ?_
        refine lv_ishl hx hb dX2_hasBy_71 ?_
        refine lv_ior hx hb dX2_hasBy_72 ?_
        refine lv_istore (lv' := [(7, .int (x14 ||| ((1 : Int32) <<< ((x17 r18.toNatClampNeg) &&& 31)))), (0, .ref (ad 0)), (1, .int v1), (2, .int v2), (4, .int v4), (6, .int v6), (8, .int x15), (9, .int x16)]) hx hb dX2_hasBy_73 hl (by decide) rfl (fun ls hl => ?_)
        refine lv_iload hx hb dX2_hasBy_75 (lv_at hl 6 rfl) ?_
        refine lv_aload_n hx hb dX2_hasBy_77 rfl (lv_at hl 1 rfl) ?_
        refine va_get (D := D) (ci := 2) (v := .ref (ad 2)) (C := RX2) (T := TX2) (N := 14) hx hb hts zi_X2_hasBy_X2 hown hK.1 hP 0 rfl rfl 1 (by decide) (hts _ zk_X2_hasBy_1) (fun _ h9 => h9) rfl dX2_hasBy_78 ?_
        refine lv_iload_n hx hb dX2_hasBy_81 rfl (lv_at hl 3 rfl) ?_
        refine lv_iconst (v := (0 : Int32)) hx hb dX2_hasBy_82 (by decide) ?_
        obtain ⟨r21, g22, h⟩ := bo1 h
        refine zb_callS (As := [.int v2, .int (0 : Int32)]) (rest := [.ref (ad 2), .int x15]) ⟨hx, hb, hml, hown, hts⟩ (zc_X2_of l D cI v2 (0 : Int32) r21 g22) (va_cwS 2 hts gX2_hasBy_X2_of rfl rfl rfl hd_X2_of.2 ⟨Nat.le_of_ble_eq_true rfl, Nat.le_of_ble_eq_true rfl⟩) hK hP hD hS hA (zb_none _) rfl hl.1 rfl (Nat.le_of_ble_eq_true rfl) dX2_hasBy_83 ⟨Nat.le_refl _, Nat.le_refl _⟩ (fun H locs hP hD hS => ?_)
        obtain ⟨h23, h⟩ := it_g h
        refine va_iald hx hb hK.1 hP 2 0 rfl rfl h23 dX2_hasBy_86 ?_
        refine lv_aload_n hx hb dX2_hasBy_87 rfl (lv_at hl 1 rfl) ?_
        refine va_get (D := D) (ci := 2) (v := .ref (ad 2)) (C := RX2) (T := TX2) (N := 14) hx hb hts zi_X2_hasBy_X2 hown hK.1 hP 0 rfl rfl 1 (by decide) (hts _ zk_X2_hasBy_1) (fun _ h9 => h9) rfl dX2_hasBy_88 ?_
        refine lv_iload hx hb dX2_hasBy_91 (lv_at hl 4 rfl) ?_
        refine lv_iconst (v := (0 : Int32)) hx hb dX2_hasBy_93 (by decide) ?_
        obtain ⟨r24, g25, h⟩ := bo1 h
        refine zb_callS (As := [.int v4, .int (0 : Int32)]) (rest := [.ref (ad 2), .int (x17 r21.toNatClampNeg), .int x15]) ⟨hx, hb, hml, hown, hts⟩ (zc_X2_of l D cI v4 (0 : Int32) r24 g25) (va_cwS 2 hts gX2_hasBy_X2_of rfl rfl rfl hd_X2_of.2 ⟨Nat.le_of_ble_eq_true rfl, Nat.le_of_ble_eq_true rfl⟩) hK hP hD hS hA (zb_none _) rfl hl.1 rfl (Nat.le_of_ble_eq_true rfl) dX2_hasBy_94 ⟨Nat.le_refl _, Nat.le_refl _⟩ (fun H locs hP hD hS => ?_)
        obtain ⟨h26, h⟩ := it_g h
        refine va_iald hx hb hK.1 hP 2 0 rfl rfl h26 dX2_hasBy_97 ?_
        refine lv_icmp_ne (tgt := 105) hx hb dX2_hasBy_98 (by decide) (fun c27 => ?_) (fun c27 => ?_)
        · replace h := it_f c27 h
          refine lv_iconst (v := (0 : Int32)) hx hb dX2_hasBy_105 (by decide) ?_
          refine lv_ior hx hb dX2_hasBy_106 ?_
          refine lv_istore (lv' := [(8, .int (x15 ||| (0 : Int32))), (7, .int (x14 ||| ((1 : Int32) <<< ((x17 r18.toNatClampNeg) &&& 31)))), (0, .ref (ad 0)), (1, .int v1), (2, .int v2), (4, .int v4), (6, .int v6), (9, .int x16)]) hx hb dX2_hasBy_107 hl (by decide) rfl (fun ls hl => ?_)
          refine lv_iinc (v := (x16 + (1 : Int32))) (lv' := [(9, .int (x16 + (1 : Int32))), (8, .int (x15 ||| (0 : Int32))), (7, .int (x14 ||| ((1 : Int32) <<< ((x17 r18.toNatClampNeg) &&& 31)))), (0, .ref (ad 0)), (1, .int v1), (2, .int v2), (4, .int v4), (6, .int v6)]) hx hb dX2_hasBy_109 hl (k := 7) rfl (by first | rfl | decide) (by decide) rfl (fun ls hl => ?_)
          refine lv_goto (tgt := 39) hx hb dX2_hasBy_112 (by decide) ?_
          exact ih13 (x14 ||| ((1 : Int32) <<< ((x17 r18.toNatClampNeg) &&& 31))) (x15 ||| (0 : Int32)) (x16 + (1 : Int32)) x17 _ _ hP hD hS ls (lv_sub hl [3, 4, 5, 6, 7, 2, 1, 0] rfl) h
        · replace h := it_t c27 h
          refine lv_iconst (v := (1 : Int32)) hx hb dX2_hasBy_101 (by decide) ?_
          refine lv_goto (tgt := 106) hx hb dX2_hasBy_102 (by decide) ?_
          refine lv_ior hx hb dX2_hasBy_106 ?_
          refine lv_istore (lv' := [(8, .int (x15 ||| (1 : Int32))), (7, .int (x14 ||| ((1 : Int32) <<< ((x17 r18.toNatClampNeg) &&& 31)))), (0, .ref (ad 0)), (1, .int v1), (2, .int v2), (4, .int v4), (6, .int v6), (9, .int x16)]) hx hb dX2_hasBy_107 hl (by decide) rfl (fun ls hl => ?_)
          refine lv_iinc (v := (x16 + (1 : Int32))) (lv' := [(9, .int (x16 + (1 : Int32))), (8, .int (x15 ||| (1 : Int32))), (7, .int (x14 ||| ((1 : Int32) <<< ((x17 r18.toNatClampNeg) &&& 31)))), (0, .ref (ad 0)), (1, .int v1), (2, .int v2), (4, .int v4), (6, .int v6)]) hx hb dX2_hasBy_109 hl (k := 7) rfl (by first | rfl | decide) (by decide) rfl (fun ls hl => ?_)
          refine lv_goto (tgt := 39) hx hb dX2_hasBy_112 (by decide) ?_
          exact ih13 (x14 ||| ((1 : Int32) <<< ((x17 r18.toNatClampNeg) &&& 31))) (x15 ||| (1 : Int32)) (x16 + (1 : Int32)) x17 _ _ hP hD hS ls (lv_sub hl [3, 4, 5, 6, 7, 2, 1, 0] rfl) h
      refine lv_iload hx hb dX2_hasBy_39 (lv_at hl 7 rfl) ?_
      refine lv_iload hx hb dX2_hasBy_41 (lv_at hl 4 rfl) ?_
      refine lv_icmp_gt (tgt := 115) hx hb dX2_hasBy_43 (by decide) (fun c28 => ?_) (fun c28 => ?_)
      · replace h := it_t c28 h
        exact j115 x9 x10 x12 _ _ hP hD hS ls (lv_sub hl [5, 6] rfl) h
      · replace h := it_f c28 h
        refine lv_iload hx hb dX2_hasBy_46 (lv_at hl 7 rfl) ?_
        refine lv_if_le (tgt := 58) hx hb dX2_hasBy_48 (by decide) (fun c29 => ?_) (fun c29 => ?_)
        · replace h := it_t c29 h
          exact j58 x9 x10 x11 x12 _ _ hP hD hS ls (lv_sub hl [0, 1, 2, 3, 4, 5, 6, 7] rfl) h
        · replace h := it_f c29 h
          refine lv_aload_n hx hb dX2_hasBy_51 rfl (lv_at hl 0 rfl) ?_
          refine va_get (D := D) (ci := 2) (v := .ref (ad 2)) (C := RX2) (T := TX2) (N := 14) hx hb hts zi_X2_hasBy_X2 hown hK.1 hP 0 rfl rfl 1 (by decide) (hts _ zk_X2_hasBy_1) (fun _ h9 => h9) rfl dX2_hasBy_52 ?_
          obtain ⟨n30, g31, h⟩ := bo1 h
          refine zb_callS (As := [.ref (ad 2)]) (rest := []) ⟨hx, hb, hml, hown, hts⟩ (zc_X2_step l D cI (ad 2) x12 n30 g31) (va_cwS 1 hts gX2_hasBy_X2_step rfl rfl rfl hd_X2_step.2 ⟨Nat.le_of_ble_eq_true rfl, Nat.le_of_ble_eq_true rfl⟩) hK hP hD hS hA (zb_cM_m) rfl hl.1 rfl (Nat.le_of_ble_eq_true rfl) dX2_hasBy_55 ⟨Nat.le_refl _, Nat.le_refl _⟩ (fun H locs hP hD hS => ?_)
          exact j58 x9 x10 x11 n30 _ _ hP hD hS ls (lv_sub hl [0, 1, 2, 3, 4, 5, 6, 7] rfl) h
  exact lp13 zb_FU (0 : Int32) (0 : Int32) (0 : Int32) (upd n7 (2 : Int32).toNatClampNeg ((((1 : Int32) - v3) <<< (v2 &&& 31)) ||| (((1 : Int32) - v5) <<< (v4 &&& 31)))) _ _ hP hD hS ls (lv_sub hl [3, 4, 5, 7, 9, 2, 1, 0] rfl) h
abbrev rm_X2_two : Room := { frames := 5, cells := 0, slots := 0, locals := 120 }
theorem hd_X2_two : yX2_two.cls = RX2 ∧ yX2_two.cls ≠ "java/lang/invoke/MethodHandle" ∧ yX2_two.cls ≠ "java/lang/invoke/VarHandle" ∧ (parseMethodDescriptor yX2_two.desc).map (fun d => d.parameters.length) = some 3 := by decide +kernel
set_option maxHeartbeats 4000000 in
set_option maxRecDepth 100000 in
theorem zc_X2_two (l : Launch) (D : va_G) (cI : ClassId) (ad : Nat → Nat) (m_s : (Nat → Int32)) (m_m : (Nat → Int32)) (m_image : (Nat → Int32)) (m_was : (Nat → Int32)) (m_hasImage : Int32) (m_letters : (Nat → Int32)) (m_row : (Nat → Int32)) (m_refused : (Nat → Int32)) (m_letterMany : Int32) (m_rowMany : Int32) (m_place : Int32) (m_numbers : (Nat → Int32)) (m_cost : (Nat → Int32)) (m_seed : Int32) (v1 : Int32) (v2 : Int32) (v3 : Int32) (r0 : Int32) (w_m_m : (Nat → Int32)) (w_m_refused : (Nat → Int32)) (h : zf_X2_two m_s m_m m_refused v1 v2 v3 = some (r0, w_m_m, w_m_refused)) : Cn l D cI yX2_two wsX2_two rm_X2_two [.ref (ad 0), .int v1, .int v2, .int v3] (zb_M cI ad m_s m_m m_image m_was m_hasImage m_letters m_row m_refused m_letterMany m_rowMany m_place m_numbers m_cost m_seed) (some (.int r0)) (zb_M cI ad m_s w_m_m m_image m_was m_hasImage m_letters m_row w_m_refused m_letterMany m_rowMany m_place m_numbers m_cost m_seed) := by
  refine zb_ofW (cc := cX2_two) (maxL := 8) (ret := (some .int)) (by decide) rfl (Nat.le_of_ble_eq_true rfl) ?_
  intro p e s m args below meth c A ls hx hb hr hml hts hown hlk hK hP hD hA hl
  have hS : va_S A s.heap s.heap [] := va_S.rf
  have hl : lv_has ls 8 [(0, .ref (ad 0)), (1, .int v1), (2, .int v2), (3, .int v3)] := hl
  unfold zf_X2_two at h
  refine lv_aload_n hx hb dX2_two_0 rfl (lv_at hl 0 rfl) ?_
  refine lv_iload_n hx hb dX2_two_1 rfl (lv_at hl 1 rfl) ?_
  refine lv_iload_n hx hb dX2_two_2 rfl (lv_at hl 2 rfl) ?_
  obtain ⟨r1, g2, h⟩ := bo1 h
  refine zb_callV (As := [.int v1, .int v2]) (rest := []) ⟨hx, hb, hml, hown, hts⟩ (zc_X2_areTwo l D cI ad m_s m_m m_image m_was m_hasImage m_letters m_row m_refused m_letterMany m_rowMany m_place m_numbers m_cost m_seed v1 v2 r1 g2) (cwV 2 hts gX2_two_X2_areTwo rfl rfl rfl hd_X2_areTwo ⟨Nat.le_of_ble_eq_true rfl, Nat.le_of_ble_eq_true rfl⟩) hK hP hD hS hA (zb_sM) (q0 := 0) rfl rfl rfl hl.1 rfl (Nat.le_of_ble_eq_true rfl) dX2_two_3 ⟨Nat.le_refl _, Nat.le_refl _⟩ (fun H locs hP hD hS => ?_)
  refine lv_if_eq (tgt := 19) hx hb dX2_two_6 (by decide) (fun c3 => ?_) (fun c3 => ?_)
  · replace h := it_t c3 h
    refine lv_iconst (v := ((-1) : Int32)) hx hb dX2_two_19 (by decide) ?_
    refine lv_istore (lv' := [(4, .int ((-1) : Int32)), (0, .ref (ad 0)), (1, .int v1), (2, .int v2), (3, .int v3)]) hx hb dX2_two_20 hl (by decide) rfl (fun ls hl => ?_)
    refine lv_iload hx hb dX2_two_22 (lv_at hl 0 rfl) ?_
    refine lv_if_eq (tgt := 34) hx hb dX2_two_24 (by decide) (fun c4 => absurd c4 (by decide)) (fun _ => ?_)
    refine lv_aload_n hx hb dX2_two_27 rfl (lv_at hl 1 rfl) ?_
    refine lv_iload hx hb dX2_two_28 (lv_at hl 0 rfl) ?_
    obtain ⟨r5, n6, g7, h⟩ := bo2 h
    refine zb_callV (As := [.int ((-1) : Int32)]) (rest := []) ⟨hx, hb, hml, hown, hts⟩ (zc_X2_no l D cI ad m_s m_m m_image m_was m_hasImage m_letters m_row m_refused m_letterMany m_rowMany m_place m_numbers m_cost m_seed ((-1) : Int32) r5 n6 g7) (cwV 1 hts gX2_two_X2_no rfl rfl rfl hd_X2_no ⟨Nat.le_of_ble_eq_true rfl, Nat.le_of_ble_eq_true rfl⟩) hK hP hD hS hA (zb_sM) (q0 := 0) rfl rfl rfl hl.1 rfl (Nat.le_of_ble_eq_true rfl) dX2_two_30 ⟨Nat.le_refl _, Nat.le_refl _⟩ (fun H locs hP hD hS => ?_)
    obtain ⟨rfl, rfl, rfl⟩ := re3 h
    exact zb_iret hx hb hr hlk hP hS dX2_two_33
  · replace h := it_f c3 h
    refine lv_iload_n hx hb dX2_two_9 rfl (lv_at hl 3 rfl) ?_
    refine lv_iconst (v := (0 : Int32)) hx hb dX2_two_10 (by decide) ?_
    refine lv_bipush (v := (30 : Int32)) hx hb dX2_two_11 (by decide) ?_
    obtain ⟨r8, g9, h⟩ := bo1 h
    refine zb_callS (As := [.int v3, .int (0 : Int32), .int (30 : Int32)]) (rest := []) ⟨hx, hb, hml, hown, hts⟩ (zc_X2_wrongBy l D cI v3 (0 : Int32) (30 : Int32) r8 g9) (va_cwS 3 hts gX2_two_X2_wrongBy rfl rfl rfl hd_X2_wrongBy.2 ⟨Nat.le_of_ble_eq_true rfl, Nat.le_of_ble_eq_true rfl⟩) hK hP hD hS hA (zb_none _) rfl hl.1 rfl (Nat.le_of_ble_eq_true rfl) dX2_two_13 ⟨Nat.le_refl _, Nat.le_refl _⟩ (fun H locs hP hD hS => ?_)
    refine lv_goto (tgt := 20) hx hb dX2_two_16 (by decide) ?_
    refine lv_istore (lv' := [(4, .int r8), (0, .ref (ad 0)), (1, .int v1), (2, .int v2), (3, .int v3)]) hx hb dX2_two_20 hl (by decide) rfl (fun ls hl => ?_)
    refine lv_iload hx hb dX2_two_22 (lv_at hl 0 rfl) ?_
    refine lv_if_eq (tgt := 34) hx hb dX2_two_24 (by decide) (fun c10 => ?_) (fun c10 => ?_)
    · replace h := it_t c10 h
      refine lv_iconst (v := (0 : Int32)) hx hb dX2_two_34 (by decide) ?_
      refine lv_istore (lv' := [(5, .int (0 : Int32)), (4, .int r8), (0, .ref (ad 0)), (1, .int v1), (2, .int v2), (3, .int v3)]) hx hb dX2_two_35 hl (by decide) rfl (fun ls hl => ?_)
      have lp13 : ∀ (fu13 : Nat) (x11 : Int32) (x12 : (Nat → Int32)) (H : Heap) (locs : List Loc) (hP : va_P D zb_cl (zb_M cI ad m_s x12 m_image m_was m_hasImage m_letters m_row m_refused m_letterMany m_rowMany m_place m_numbers m_cost m_seed) H) (hD : va_D A (zb_M cI ad m_s x12 m_image m_was m_hasImage m_letters m_row m_refused m_letterMany m_rowMany m_place m_numbers m_cost m_seed)) (hS : va_S A s.heap H locs) (ls : Array Slot) (hl : lv_has ls 8 [(0, .ref (ad 0)), (1, .int v1), (2, .int v2), (3, .int v3), (5, .int x11)]) (h : zl2 (zf_X2_two_b37 v1 v2 v3 m_s m_refused) fu13 x11 x12 = some (r0, w_m_m, w_m_refused)), W p l e rm_X2_two s m args below meth c H locs 0 0 (zb_Q below D (some (.int r0)) (zb_M cI ad m_s w_m_m m_image m_was m_hasImage m_letters m_row w_m_refused m_letterMany m_rowMany m_place m_numbers m_cost m_seed) A args s) (F0 m 37 ls []) := by
        intro fu13
        induction fu13 with
        | zero => intro x11 x12 H locs hP hD hS ls hl h; exact zb_no h
        | succ fu13 ih13 =>
          intro x11 x12 H locs hP hD hS ls hl h
          replace h : zf_X2_two_b37 v1 v2 v3 m_s m_refused (zl2 (zf_X2_two_b37 v1 v2 v3 m_s m_refused) fu13) x11 x12 = some (r0, w_m_m, w_m_refused) := h
          unfold zf_X2_two_b37 at h
          refine lv_iload hx hb dX2_two_37 (lv_at hl 4 rfl) ?_
          refine lv_iconst (v := (4 : Int32)) hx hb dX2_two_39 (by decide) ?_
          refine lv_icmp_ge (tgt := 128) hx hb dX2_two_40 (by decide) (fun c14 => ?_) (fun c14 => ?_)
          · replace h := it_t c14 h
            refine lv_bipush (v := ((-9) : Int32)) hx hb dX2_two_128 (by decide) ?_
            obtain ⟨rfl, rfl, rfl⟩ := re3 h
            exact zb_iret hx hb hr hlk hP hS dX2_two_130
          · replace h := it_f c14 h
            refine lv_iload hx hb dX2_two_43 (lv_at hl 4 rfl) ?_
            refine lv_iconst (v := (2 : Int32)) hx hb dX2_two_45 (by decide) ?_
            refine lv_idiv hx hb dX2_two_46 (by decide) ?_
            refine lv_istore (lv' := [(6, .int (x11 / (2 : Int32))), (0, .ref (ad 0)), (1, .int v1), (2, .int v2), (3, .int v3), (5, .int x11)]) hx hb dX2_two_47 hl (by decide) rfl (fun ls hl => ?_)
            refine lv_iload hx hb dX2_two_49 (lv_at hl 5 rfl) ?_
            refine lv_iconst (v := (2 : Int32)) hx hb dX2_two_51 (by decide) ?_
            refine lv_irem hx hb dX2_two_52 (by decide) ?_
            refine lv_istore (lv' := [(7, .int (jr x11 (2 : Int32))), (6, .int (x11 / (2 : Int32))), (0, .ref (ad 0)), (1, .int v1), (2, .int v2), (3, .int v3), (5, .int x11)]) hx hb dX2_two_53 hl (by decide) rfl (fun ls hl => ?_)
            refine lv_aload_n hx hb dX2_two_55 rfl (lv_at hl 2 rfl) ?_
            refine lv_iload_n hx hb dX2_two_56 rfl (lv_at hl 3 rfl) ?_
            refine lv_iload_n hx hb dX2_two_57 rfl (lv_at hl 3 rfl) ?_
            refine lv_iconst (v := (1 : Int32)) hx hb dX2_two_58 (by decide) ?_
            refine lv_iload hx hb dX2_two_59 (lv_at hl 1 rfl) ?_
            refine lv_isub hx hb dX2_two_61 ?_
            refine lv_iload_n hx hb dX2_two_62 rfl (lv_at hl 4 rfl) ?_
            refine lv_iload hx hb dX2_two_63 (lv_at hl 0 rfl) ?_
            refine lv_iload_n hx hb dX2_two_65 rfl (lv_at hl 5 rfl) ?_
            obtain ⟨r15, n16, g17, h⟩ := bo2 h
            refine zb_callV (As := [.int v1, .int v1, .int ((1 : Int32) - (x11 / (2 : Int32))), .int v2, .int (jr x11 (2 : Int32)), .int v3]) (rest := []) ⟨hx, hb, hml, hown, hts⟩ (zc_X2_hasBy l D cI ad m_s x12 m_image m_was m_hasImage m_letters m_row m_refused m_letterMany m_rowMany m_place m_numbers m_cost m_seed v1 v1 ((1 : Int32) - (x11 / (2 : Int32))) v2 (jr x11 (2 : Int32)) v3 r15 n16 g17) (cwV 6 hts gX2_two_X2_hasBy rfl rfl rfl hd_X2_hasBy ⟨Nat.le_of_ble_eq_true rfl, Nat.le_of_ble_eq_true rfl⟩) hK hP hD hS hA (zb_sM) (q0 := 0) rfl rfl rfl hl.1 rfl (Nat.le_of_ble_eq_true rfl) dX2_two_66 ⟨Nat.le_refl _, Nat.le_refl _⟩ (fun H locs hP hD hS => ?_)
            refine lv_aload_n hx hb dX2_two_69 rfl (lv_at hl 2 rfl) ?_
            refine lv_iload_n hx hb dX2_two_70 rfl (lv_at hl 3 rfl) ?_
            refine lv_iload_n hx hb dX2_two_71 rfl (lv_at hl 3 rfl) ?_
            refine lv_iload hx hb dX2_two_72 (lv_at hl 1 rfl) ?_
            refine lv_iload_n hx hb dX2_two_74 rfl (lv_at hl 4 rfl) ?_
            refine lv_iload hx hb dX2_two_75 (lv_at hl 0 rfl) ?_
            refine lv_iload_n hx hb dX2_two_77 rfl (lv_at hl 5 rfl) ?_
            obtain ⟨r18, n19, g20, h⟩ := bo2 h
            refine zb_callV (As := [.int v1, .int v1, .int (x11 / (2 : Int32)), .int v2, .int (jr x11 (2 : Int32)), .int v3]) (rest := [.int r15]) ⟨hx, hb, hml, hown, hts⟩ (zc_X2_hasBy l D cI ad m_s n16 m_image m_was m_hasImage m_letters m_row m_refused m_letterMany m_rowMany m_place m_numbers m_cost m_seed v1 v1 (x11 / (2 : Int32)) v2 (jr x11 (2 : Int32)) v3 r18 n19 g20) (cwV 6 hts gX2_two_X2_hasBy rfl rfl rfl hd_X2_hasBy ⟨Nat.le_of_ble_eq_true rfl, Nat.le_of_ble_eq_true rfl⟩) hK hP hD hS hA (zb_sM) (q0 := 0) rfl rfl rfl hl.1 rfl (Nat.le_of_ble_eq_true rfl) dX2_two_78 ⟨Nat.le_refl _, Nat.le_refl _⟩ (fun H locs hP hD hS => ?_)
            refine lv_icmp_gt (tgt := 122) hx hb dX2_two_81 (by decide) (fun c21 => ?_) (fun c21 => ?_)
            · replace h := it_t c21 h
              refine lv_iinc (v := (x11 + (1 : Int32))) (lv' := [(5, .int (x11 + (1 : Int32))), (7, .int (jr x11 (2 : Int32))), (6, .int (x11 / (2 : Int32))), (0, .ref (ad 0)), (1, .int v1), (2, .int v2), (3, .int v3)]) hx hb dX2_two_122 hl (k := 6) rfl (by first | rfl | decide) (by decide) rfl (fun ls hl => ?_)
              refine lv_goto (tgt := 37) hx hb dX2_two_125 (by decide) ?_
              exact ih13 (x11 + (1 : Int32)) n19 _ _ hP hD hS ls (lv_sub hl [3, 4, 5, 6, 0] rfl) h
            · replace h := it_f c21 h
              refine lv_aload_n hx hb dX2_two_84 rfl (lv_at hl 2 rfl) ?_
              refine lv_iload_n hx hb dX2_two_85 rfl (lv_at hl 4 rfl) ?_
              refine lv_iload_n hx hb dX2_two_86 rfl (lv_at hl 3 rfl) ?_
              refine lv_iload hx hb dX2_two_87 (lv_at hl 1 rfl) ?_
              refine lv_iload_n hx hb dX2_two_89 rfl (lv_at hl 4 rfl) ?_
              refine lv_iconst (v := (1 : Int32)) hx hb dX2_two_90 (by decide) ?_
              refine lv_iload hx hb dX2_two_91 (lv_at hl 0 rfl) ?_
              refine lv_isub hx hb dX2_two_93 ?_
              refine lv_iload_n hx hb dX2_two_94 rfl (lv_at hl 5 rfl) ?_
              obtain ⟨r22, n23, g24, h⟩ := bo2 h
              refine zb_callV (As := [.int v2, .int v1, .int (x11 / (2 : Int32)), .int v2, .int ((1 : Int32) - (jr x11 (2 : Int32))), .int v3]) (rest := []) ⟨hx, hb, hml, hown, hts⟩ (zc_X2_hasBy l D cI ad m_s n19 m_image m_was m_hasImage m_letters m_row m_refused m_letterMany m_rowMany m_place m_numbers m_cost m_seed v2 v1 (x11 / (2 : Int32)) v2 ((1 : Int32) - (jr x11 (2 : Int32))) v3 r22 n23 g24) (cwV 6 hts gX2_two_X2_hasBy rfl rfl rfl hd_X2_hasBy ⟨Nat.le_of_ble_eq_true rfl, Nat.le_of_ble_eq_true rfl⟩) hK hP hD hS hA (zb_sM) (q0 := 0) rfl rfl rfl hl.1 rfl (Nat.le_of_ble_eq_true rfl) dX2_two_95 ⟨Nat.le_refl _, Nat.le_refl _⟩ (fun H locs hP hD hS => ?_)
              refine lv_aload_n hx hb dX2_two_98 rfl (lv_at hl 2 rfl) ?_
              refine lv_iload_n hx hb dX2_two_99 rfl (lv_at hl 4 rfl) ?_
              refine lv_iload_n hx hb dX2_two_100 rfl (lv_at hl 3 rfl) ?_
              refine lv_iload hx hb dX2_two_101 (lv_at hl 1 rfl) ?_
              refine lv_iload_n hx hb dX2_two_103 rfl (lv_at hl 4 rfl) ?_
              refine lv_iload hx hb dX2_two_104 (lv_at hl 0 rfl) ?_
              refine lv_iload_n hx hb dX2_two_106 rfl (lv_at hl 5 rfl) ?_
              obtain ⟨r25, n26, g27, h⟩ := bo2 h
              refine zb_callV (As := [.int v2, .int v1, .int (x11 / (2 : Int32)), .int v2, .int (jr x11 (2 : Int32)), .int v3]) (rest := [.int r22]) ⟨hx, hb, hml, hown, hts⟩ (zc_X2_hasBy l D cI ad m_s n23 m_image m_was m_hasImage m_letters m_row m_refused m_letterMany m_rowMany m_place m_numbers m_cost m_seed v2 v1 (x11 / (2 : Int32)) v2 (jr x11 (2 : Int32)) v3 r25 n26 g27) (cwV 6 hts gX2_two_X2_hasBy rfl rfl rfl hd_X2_hasBy ⟨Nat.le_of_ble_eq_true rfl, Nat.le_of_ble_eq_true rfl⟩) hK hP hD hS hA (zb_sM) (q0 := 0) rfl rfl rfl hl.1 rfl (Nat.le_of_ble_eq_true rfl) dX2_two_107 ⟨Nat.le_refl _, Nat.le_refl _⟩ (fun H locs hP hD hS => ?_)
              refine lv_icmp_gt (tgt := 122) hx hb dX2_two_110 (by decide) (fun c28 => ?_) (fun c28 => ?_)
              · replace h := it_t c28 h
                refine lv_iinc (v := (x11 + (1 : Int32))) (lv' := [(5, .int (x11 + (1 : Int32))), (7, .int (jr x11 (2 : Int32))), (6, .int (x11 / (2 : Int32))), (0, .ref (ad 0)), (1, .int v1), (2, .int v2), (3, .int v3)]) hx hb dX2_two_122 hl (k := 6) rfl (by first | rfl | decide) (by decide) rfl (fun ls hl => ?_)
                refine lv_goto (tgt := 37) hx hb dX2_two_125 (by decide) ?_
                exact ih13 (x11 + (1 : Int32)) n26 _ _ hP hD hS ls (lv_sub hl [3, 4, 5, 6, 0] rfl) h
              · replace h := it_f c28 h
                refine lv_bipush (v := (10 : Int32)) hx hb dX2_two_113 (by decide) ?_
                refine lv_iload hx hb dX2_two_115 (lv_at hl 1 rfl) ?_
                refine lv_imul hx hb dX2_two_117 ?_
                refine lv_iload hx hb dX2_two_118 (lv_at hl 0 rfl) ?_
                refine lv_iadd hx hb dX2_two_120 ?_
                obtain ⟨rfl, rfl, rfl⟩ := re3 h
                exact zb_iret hx hb hr hlk hP hS dX2_two_121
      exact lp13 zb_FU (0 : Int32) m_m _ _ hP hD hS ls (lv_sub hl [2, 3, 4, 5, 0] rfl) h
    · replace h := it_f c10 h
      refine lv_aload_n hx hb dX2_two_27 rfl (lv_at hl 1 rfl) ?_
      refine lv_iload hx hb dX2_two_28 (lv_at hl 0 rfl) ?_
      obtain ⟨r29, n30, g31, h⟩ := bo2 h
      refine zb_callV (As := [.int r8]) (rest := []) ⟨hx, hb, hml, hown, hts⟩ (zc_X2_no l D cI ad m_s m_m m_image m_was m_hasImage m_letters m_row m_refused m_letterMany m_rowMany m_place m_numbers m_cost m_seed r8 r29 n30 g31) (cwV 1 hts gX2_two_X2_no rfl rfl rfl hd_X2_no ⟨Nat.le_of_ble_eq_true rfl, Nat.le_of_ble_eq_true rfl⟩) hK hP hD hS hA (zb_sM) (q0 := 0) rfl rfl rfl hl.1 rfl (Nat.le_of_ble_eq_true rfl) dX2_two_30 ⟨Nat.le_refl _, Nat.le_refl _⟩ (fun H locs hP hD hS => ?_)
      obtain ⟨rfl, rfl, rfl⟩ := re3 h
      exact zb_iret hx hb hr hlk hP hS dX2_two_33
abbrev rm_X2_gcd : Room := { frames := 0, cells := 0, slots := 0, locals := 0 }
theorem hd_X2_gcd : yX2_gcd.cls = RX2 ∧ yX2_gcd.cls ≠ "java/lang/invoke/MethodHandle" ∧ yX2_gcd.cls ≠ "java/lang/invoke/VarHandle" ∧ (parseMethodDescriptor yX2_gcd.desc).map (fun d => d.parameters.length) = some 2 := by decide +kernel
set_option maxHeartbeats 4000000 in
set_option maxRecDepth 100000 in
theorem zc_X2_gcd (l : Launch) (D : va_G) (cI : ClassId)  (v0 : Int64) (v2 : Int64) (r0 : Int64) (h : zf_X2_gcd v0 v2 = some r0) : Cn l D cI yX2_gcd wsX2_gcd rm_X2_gcd [.long v0, .long v2] ([]) (some (.long r0)) ([]) := by
  refine zb_ofW (cc := cX2_gcd) (maxL := 10) (ret := (some .long)) (by decide) rfl (Nat.le_of_ble_eq_true rfl) ?_
  intro p e s m args below meth c A ls hx hb hr hml hts hown hlk hK hP hD hA hl
  have hS : va_S A s.heap s.heap [] := va_S.rf
  have hl : lv_has ls 10 [(0, .long v0), (2, .long v2)] := hl
  unfold zf_X2_gcd at h
  refine lv_lload_n hx hb dX2_gcd_0 rfl (lv_at hl 0 rfl) ?_
  refine lv_lstore (lv' := [(4, .long v0), (0, .long v0), (2, .long v2)]) hx hb dX2_gcd_1 hl (by decide) rfl (fun ls hl => ?_)
  refine lv_lload_n hx hb dX2_gcd_3 rfl (lv_at hl 2 rfl) ?_
  refine lv_lstore (lv' := [(6, .long v2), (4, .long v0), (0, .long v0), (2, .long v2)]) hx hb dX2_gcd_4 hl (by decide) rfl (fun ls hl => ?_)
  have lp3 : ∀ (fu3 : Nat) (x1 : Int64) (x2 : Int64) (H : Heap) (locs : List Loc) (hP : va_P D zb_cl ([]) H) (hD : va_D A ([])) (hS : va_S A s.heap H locs) (ls : Array Slot) (hl : lv_has ls 10 [(4, .long x1), (6, .long x2)]) (h : zl2 zf_X2_gcd_b6 fu3 x1 x2 = some r0), W p l e rm_X2_gcd s m args below meth c H locs 0 0 (zb_Q below D (some (.long r0)) ([]) A args s) (F0 m 6 ls []) := by
    intro fu3
    induction fu3 with
    | zero => intro x1 x2 H locs hP hD hS ls hl h; exact zb_no h
    | succ fu3 ih3 =>
      intro x1 x2 H locs hP hD hS ls hl h
      replace h : zf_X2_gcd_b6  (zl2 zf_X2_gcd_b6 fu3) x1 x2 = some r0 := h
      unfold zf_X2_gcd_b6 at h
      refine lv_lload hx hb dX2_gcd_6 (lv_at hl 1 rfl) ?_
      refine lv_lconst (v := (0 : Int64)) hx hb dX2_gcd_8 (by decide) ?_
      refine W.lcmp hx hb dX2_gcd_9 ?_
      refine lv_if_eq (tgt := 31) hx hb dX2_gcd_10 (by decide) (fun c4 => ?_) (fun c4 => ?_)
      · replace h := it_t c4 h
        refine lv_lload hx hb dX2_gcd_31 (lv_at hl 0 rfl) ?_
        obtain rfl := re1 h
        exact zb_lret hx hb hr hlk hP hS dX2_gcd_33
      · replace h := it_f c4 h
        refine lv_lload hx hb dX2_gcd_13 (lv_at hl 0 rfl) ?_
        refine lv_lload hx hb dX2_gcd_15 (lv_at hl 1 rfl) ?_
        obtain ⟨h5, h⟩ := it_n h
        refine lv_lrem hx hb dX2_gcd_17 h5 ?_
        refine lv_lstore (lv' := [(8, .long (jrL x1 x2)), (4, .long x1), (6, .long x2)]) hx hb dX2_gcd_18 hl (by decide) rfl (fun ls hl => ?_)
        refine lv_lload hx hb dX2_gcd_20 (lv_at hl 2 rfl) ?_
        refine lv_lstore (lv' := [(4, .long x2), (8, .long (jrL x1 x2)), (6, .long x2)]) hx hb dX2_gcd_22 hl (by decide) rfl (fun ls hl => ?_)
        refine lv_lload hx hb dX2_gcd_24 (lv_at hl 1 rfl) ?_
        refine lv_lstore (lv' := [(6, .long (jrL x1 x2)), (4, .long x2), (8, .long (jrL x1 x2))]) hx hb dX2_gcd_26 hl (by decide) rfl (fun ls hl => ?_)
        refine lv_goto (tgt := 6) hx hb dX2_gcd_28 (by decide) ?_
        exact ih3 x2 (jrL x1 x2) _ _ hP hD hS ls (lv_sub hl [1, 0] rfl) h
  exact lp3 zb_FU v0 v2 _ _ hP hD hS ls (lv_sub hl [1, 0] rfl) h
abbrev rm_X2_partOf : Room := { frames := 1, cells := 0, slots := 0, locals := 29 }
theorem hd_X2_partOf : yX2_partOf.cls = RX2 ∧ yX2_partOf.cls ≠ "java/lang/invoke/MethodHandle" ∧ yX2_partOf.cls ≠ "java/lang/invoke/VarHandle" ∧ (parseMethodDescriptor yX2_partOf.desc).map (fun d => d.parameters.length) = some 3 := by decide +kernel
set_option maxHeartbeats 4000000 in
set_option maxRecDepth 100000 in
theorem zc_X2_partOf (l : Launch) (D : va_G) (cI : ClassId)  (v0 : Int64) (v2 : Int64) (v4 : Int32) (r0 : Int64) (h : zf_X2_partOf v0 v2 v4 = some r0) : Cn l D cI yX2_partOf wsX2_partOf rm_X2_partOf [.long v0, .long v2, .int v4] ([]) (some (.long r0)) ([]) := by
  refine zb_ofW (cc := cX2_partOf) (maxL := 5) (ret := (some .long)) (by decide) rfl (Nat.le_of_ble_eq_true rfl) ?_
  intro p e s m args below meth c A ls hx hb hr hml hts hown hlk hK hP hD hA hl
  have hS : va_S A s.heap s.heap [] := va_S.rf
  have hl : lv_has ls 5 [(0, .long v0), (2, .long v2), (4, .int v4)] := hl
  unfold zf_X2_partOf at h
  refine lv_lload_n hx hb dX2_partOf_0 rfl (lv_at hl 0 rfl) ?_
  refine lv_lconst (v := (0 : Int64)) hx hb dX2_partOf_1 (by decide) ?_
  refine W.lcmp hx hb dX2_partOf_2 ?_
  refine lv_if_ne (tgt := 10) hx hb dX2_partOf_3 (by decide) (fun c1 => ?_) (fun c1 => ?_)
  · replace h := it_f c1 h
    refine lv_iload hx hb dX2_partOf_10 (lv_at hl 2 rfl) ?_
    refine lv_if_ne (tgt := 19) hx hb dX2_partOf_12 (by decide) (fun c2 => ?_) (fun c2 => ?_)
    · replace h := it_f c2 h
      refine lv_lload_n hx hb dX2_partOf_19 rfl (lv_at hl 1 rfl) ?_
      refine lv_lload_n hx hb dX2_partOf_20 rfl (lv_at hl 0 rfl) ?_
      refine lv_lload_n hx hb dX2_partOf_21 rfl (lv_at hl 1 rfl) ?_
      obtain ⟨r3, g4, h⟩ := bo1 h
      refine zb_callS (As := [.long v0, .long v2]) (rest := [.long v2]) ⟨hx, hb, hml, hown, hts⟩ (zc_X2_gcd l D cI v0 v2 r3 g4) (va_cwS 2 hts gX2_partOf_X2_gcd rfl rfl rfl hd_X2_gcd.2 ⟨Nat.le_of_ble_eq_true rfl, Nat.le_of_ble_eq_true rfl⟩) hK hP hD hS hA (zb_none _) rfl hl.1 rfl (Nat.le_of_ble_eq_true rfl) dX2_partOf_22 ⟨Nat.le_refl _, Nat.le_refl _⟩ (fun H locs hP hD hS => ?_)
      obtain ⟨h5, h⟩ := it_n h
      refine lv_ldiv hx hb dX2_partOf_25 h5 ?_
      obtain rfl := re1 h
      exact zb_lret hx hb hr hlk hP hS dX2_partOf_26
    · replace h := it_t c2 h
      refine lv_lload_n hx hb dX2_partOf_15 rfl (lv_at hl 0 rfl) ?_
      refine lv_goto (tgt := 20) hx hb dX2_partOf_16 (by decide) ?_
      refine lv_lload_n hx hb dX2_partOf_20 rfl (lv_at hl 0 rfl) ?_
      refine lv_lload_n hx hb dX2_partOf_21 rfl (lv_at hl 1 rfl) ?_
      obtain ⟨r6, g7, h⟩ := bo1 h
      refine zb_callS (As := [.long v0, .long v2]) (rest := [.long v0]) ⟨hx, hb, hml, hown, hts⟩ (zc_X2_gcd l D cI v0 v2 r6 g7) (va_cwS 2 hts gX2_partOf_X2_gcd rfl rfl rfl hd_X2_gcd.2 ⟨Nat.le_of_ble_eq_true rfl, Nat.le_of_ble_eq_true rfl⟩) hK hP hD hS hA (zb_none _) rfl hl.1 rfl (Nat.le_of_ble_eq_true rfl) dX2_partOf_22 ⟨Nat.le_refl _, Nat.le_refl _⟩ (fun H locs hP hD hS => ?_)
      obtain ⟨h8, h⟩ := it_n h
      refine lv_ldiv hx hb dX2_partOf_25 h8 ?_
      obtain rfl := re1 h
      exact zb_lret hx hb hr hlk hP hS dX2_partOf_26
  · replace h := it_t c1 h
    refine lv_iload hx hb dX2_partOf_6 (lv_at hl 2 rfl) ?_
    refine lv_i2l (v := v4.toInt64) hx hb dX2_partOf_8 rfl ?_
    obtain rfl := re1 h
    exact zb_lret hx hb hr hlk hP hS dX2_partOf_9
abbrev rm_X2_steam : Room := { frames := 4, cells := 0, slots := 0, locals := 91 }
theorem hd_X2_steam : yX2_steam.cls = RX2 ∧ yX2_steam.cls ≠ "java/lang/invoke/MethodHandle" ∧ yX2_steam.cls ≠ "java/lang/invoke/VarHandle" ∧ (parseMethodDescriptor yX2_steam.desc).map (fun d => d.parameters.length) = some 5 := by decide +kernel
theorem zi_X2_steam_X2 : ∀ w ∈ wsX20, w ∈ wsX2_steam := fun _ h => List.mem_cons_of_mem _ (List.mem_append_right _ h)
theorem zk_X2_steam_0 : Cond.fieldLink RX2 9 "GroutingIsFollowedModel" "s" "[I" ∈ wsX2_steam := by decide +kernel
theorem zk_X2_steam_1 : Cond.fieldLink RX2 13 "GroutingIsFollowedModel" "m" "[I" ∈ wsX2_steam := by decide +kernel
set_option maxHeartbeats 4000000 in
set_option maxRecDepth 100000 in
theorem zc_X2_steam (l : Launch) (D : va_G) (cI : ClassId) (ad : Nat → Nat) (m_s : (Nat → Int32)) (m_m : (Nat → Int32)) (m_image : (Nat → Int32)) (m_was : (Nat → Int32)) (m_hasImage : Int32) (m_letters : (Nat → Int32)) (m_row : (Nat → Int32)) (m_refused : (Nat → Int32)) (m_letterMany : Int32) (m_rowMany : Int32) (m_place : Int32) (m_numbers : (Nat → Int32)) (m_cost : (Nat → Int32)) (m_seed : Int32) (v1 : Int32) (v2 : Int32) (v3 : Int32) (v4 : Int32) (v5 : Int32) (r0 : Int64) (w_m_m : (Nat → Int32)) (w_m_refused : (Nat → Int32)) (h : zf_X2_steam m_s m_m m_refused v1 v2 v3 v4 v5 = some (r0, w_m_m, w_m_refused)) : Cn l D cI yX2_steam wsX2_steam rm_X2_steam [.ref (ad 0), .int v1, .int v2, .int v3, .int v4, .int v5] (zb_M cI ad m_s m_m m_image m_was m_hasImage m_letters m_row m_refused m_letterMany m_rowMany m_place m_numbers m_cost m_seed) (some (.long r0)) (zb_M cI ad m_s w_m_m m_image m_was m_hasImage m_letters m_row w_m_refused m_letterMany m_rowMany m_place m_numbers m_cost m_seed) := by
  refine zb_ofW (cc := cX2_steam) (maxL := 14) (ret := (some .long)) (by decide) rfl (Nat.le_of_ble_eq_true rfl) ?_
  intro p e s m args below meth c A ls hx hb hr hml hts hown hlk hK hP hD hA hl
  have hS : va_S A s.heap s.heap [] := va_S.rf
  have hl : lv_has ls 14 [(0, .ref (ad 0)), (1, .int v1), (2, .int v2), (3, .int v3), (4, .int v4), (5, .int v5)] := hl
  unfold zf_X2_steam at h
  refine lv_aload_n hx hb dX2_steam_0 rfl (lv_at hl 0 rfl) ?_
  refine lv_iload_n hx hb dX2_steam_1 rfl (lv_at hl 1 rfl) ?_
  refine lv_iload_n hx hb dX2_steam_2 rfl (lv_at hl 2 rfl) ?_
  obtain ⟨r1, g2, h⟩ := bo1 h
  refine zb_callV (As := [.int v1, .int v2]) (rest := []) ⟨hx, hb, hml, hown, hts⟩ (zc_X2_areThere l D cI ad m_s m_m m_image m_was m_hasImage m_letters m_row m_refused m_letterMany m_rowMany m_place m_numbers m_cost m_seed v1 v2 r1 g2) (cwV 2 hts gX2_steam_X2_areThere rfl rfl rfl hd_X2_areThere ⟨Nat.le_of_ble_eq_true rfl, Nat.le_of_ble_eq_true rfl⟩) hK hP hD hS hA (zb_sM) (q0 := 0) rfl rfl rfl hl.1 rfl (Nat.le_of_ble_eq_true rfl) dX2_steam_3 ⟨Nat.le_refl _, Nat.le_refl _⟩ (fun H locs hP hD hS => ?_)
  refine lv_if_ne (tgt := 15) hx hb dX2_steam_6 (by decide) (fun c3 => ?_) (fun c3 => ?_)
  · replace h := it_f c3 h
    refine lv_iload_n hx hb dX2_steam_15 rfl (lv_at hl 3 rfl) ?_
    refine lv_if_lt (tgt := 25) hx hb dX2_steam_16 (by decide) (fun c4 => ?_) (fun c4 => ?_)
    · replace h := it_t c4 h
      refine lv_aload_n hx hb dX2_steam_25 rfl (lv_at hl 0 rfl) ?_
      refine lv_bipush (v := ((-4) : Int32)) hx hb dX2_steam_26 (by decide) ?_
      obtain ⟨r5, n6, g7, h⟩ := bo2 h
      refine zb_callV (As := [.int ((-4) : Int32)]) (rest := []) ⟨hx, hb, hml, hown, hts⟩ (zc_X2_noWide l D cI ad m_s m_m m_image m_was m_hasImage m_letters m_row m_refused m_letterMany m_rowMany m_place m_numbers m_cost m_seed ((-4) : Int32) r5 n6 g7) (cwV 1 hts gX2_steam_X2_noWide rfl rfl rfl hd_X2_noWide ⟨Nat.le_of_ble_eq_true rfl, Nat.le_of_ble_eq_true rfl⟩) hK hP hD hS hA (zb_sM) (q0 := 0) rfl rfl rfl hl.1 rfl (Nat.le_of_ble_eq_true rfl) dX2_steam_28 ⟨Nat.le_refl _, Nat.le_refl _⟩ (fun H locs hP hD hS => ?_)
      obtain ⟨rfl, rfl, rfl⟩ := re3 h
      exact zb_lret hx hb hr hlk hP hS dX2_steam_31
    · replace h := it_f c4 h
      refine lv_iload hx hb dX2_steam_19 (lv_at hl 4 rfl) ?_
      refine lv_iconst (v := (2 : Int32)) hx hb dX2_steam_21 (by decide) ?_
      refine lv_icmp_ge (tgt := 32) hx hb dX2_steam_22 (by decide) (fun c8 => ?_) (fun c8 => ?_)
      · replace h := it_t c8 h
        refine lv_iload_n hx hb dX2_steam_32 rfl (lv_at hl 3 rfl) ?_
        refine lv_bipush (v := (7 : Int32)) hx hb dX2_steam_33 (by decide) ?_
        refine lv_icmp_gt (tgt := 45) hx hb dX2_steam_35 (by decide) (fun c9 => ?_) (fun c9 => ?_)
        · replace h := it_t c9 h
          refine lv_aload_n hx hb dX2_steam_45 rfl (lv_at hl 0 rfl) ?_
          refine lv_bipush (v := ((-6) : Int32)) hx hb dX2_steam_46 (by decide) ?_
          obtain ⟨r10, n11, g12, h⟩ := bo2 h
          refine zb_callV (As := [.int ((-6) : Int32)]) (rest := []) ⟨hx, hb, hml, hown, hts⟩ (zc_X2_noWide l D cI ad m_s m_m m_image m_was m_hasImage m_letters m_row m_refused m_letterMany m_rowMany m_place m_numbers m_cost m_seed ((-6) : Int32) r10 n11 g12) (cwV 1 hts gX2_steam_X2_noWide rfl rfl rfl hd_X2_noWide ⟨Nat.le_of_ble_eq_true rfl, Nat.le_of_ble_eq_true rfl⟩) hK hP hD hS hA (zb_sM) (q0 := 0) rfl rfl rfl hl.1 rfl (Nat.le_of_ble_eq_true rfl) dX2_steam_48 ⟨Nat.le_refl _, Nat.le_refl _⟩ (fun H locs hP hD hS => ?_)
          obtain ⟨rfl, rfl, rfl⟩ := re3 h
          exact zb_lret hx hb hr hlk hP hS dX2_steam_51
        · replace h := it_f c9 h
          refine lv_iload hx hb dX2_steam_38 (lv_at hl 4 rfl) ?_
          refine lv_bipush (v := (20 : Int32)) hx hb dX2_steam_40 (by decide) ?_
          refine lv_icmp_le (tgt := 52) hx hb dX2_steam_42 (by decide) (fun c13 => ?_) (fun c13 => ?_)
          · replace h := it_t c13 h
            refine lv_iload hx hb dX2_steam_52 (lv_at hl 5 rfl) ?_
            refine lv_iconst (v := (0 : Int32)) hx hb dX2_steam_54 (by decide) ?_
            refine lv_iconst (v := (1 : Int32)) hx hb dX2_steam_55 (by decide) ?_
            obtain ⟨r14, g15, h⟩ := bo1 h
            refine zb_callS (As := [.int v5, .int (0 : Int32), .int (1 : Int32)]) (rest := []) ⟨hx, hb, hml, hown, hts⟩ (zc_X2_isIn l D cI v5 (0 : Int32) (1 : Int32) r14 g15) (va_cwS 3 hts gX2_steam_X2_isIn rfl rfl rfl hd_X2_isIn.2 ⟨Nat.le_of_ble_eq_true rfl, Nat.le_of_ble_eq_true rfl⟩) hK hP hD hS hA (zb_none _) rfl hl.1 rfl (Nat.le_of_ble_eq_true rfl) dX2_steam_56 ⟨Nat.le_refl _, Nat.le_refl _⟩ (fun H locs hP hD hS => ?_)
            refine lv_if_ne (tgt := 69) hx hb dX2_steam_59 (by decide) (fun c16 => ?_) (fun c16 => ?_)
            · replace h := it_f c16 h
              refine lv_lconst (v := (0 : Int64)) hx hb dX2_steam_69 (by decide) ?_
              refine lv_lstore (lv' := [(6, .long (0 : Int64)), (0, .ref (ad 0)), (1, .int v1), (2, .int v2), (3, .int v3), (4, .int v4), (5, .int v5)]) hx hb dX2_steam_70 hl (by decide) rfl (fun ls hl => ?_)
              refine lv_lconst (v := (1 : Int64)) hx hb dX2_steam_72 (by decide) ?_
              refine lv_lstore (lv' := [(8, .long (1 : Int64)), (6, .long (0 : Int64)), (0, .ref (ad 0)), (1, .int v1), (2, .int v2), (3, .int v3), (4, .int v4), (5, .int v5)]) hx hb dX2_steam_73 hl (by decide) rfl (fun ls hl => ?_)
              refine lv_iconst (v := (0 : Int32)) hx hb dX2_steam_75 (by decide) ?_
              refine lv_istore (lv' := [(10, .int (0 : Int32)), (8, .long (1 : Int64)), (6, .long (0 : Int64)), (0, .ref (ad 0)), (1, .int v1), (2, .int v2), (3, .int v3), (4, .int v4), (5, .int v5)]) hx hb dX2_steam_76 hl (by decide) rfl (fun ls hl => ?_)
              have lp19 : ∀ (fu19 : Nat) (x17 : Int64) (x18 : Int32) (H : Heap) (locs : List Loc) (hP : va_P D zb_cl (zb_M cI ad m_s m_m m_image m_was m_hasImage m_letters m_row m_refused m_letterMany m_rowMany m_place m_numbers m_cost m_seed) H) (hD : va_D A (zb_M cI ad m_s m_m m_image m_was m_hasImage m_letters m_row m_refused m_letterMany m_rowMany m_place m_numbers m_cost m_seed)) (hS : va_S A s.heap H locs) (ls : Array Slot) (hl : lv_has ls 14 [(0, .ref (ad 0)), (1, .int v1), (2, .int v2), (3, .int v3), (4, .int v4), (5, .int v5), (6, .long (0 : Int64)), (8, .long x17), (10, .int x18)]) (h : zl2 (zf_X2_steam_b78 v1 v2 v3 v4 v5 (0 : Int64) m_s m_m m_refused) fu19 x17 x18 = some (r0, w_m_m, w_m_refused)), W p l e rm_X2_steam s m args below meth c H locs 0 0 (zb_Q below D (some (.long r0)) (zb_M cI ad m_s w_m_m m_image m_was m_hasImage m_letters m_row w_m_refused m_letterMany m_rowMany m_place m_numbers m_cost m_seed) A args s) (F0 m 78 ls []) := by
                intro fu19
                induction fu19 with
                | zero => intro x17 x18 H locs hP hD hS ls hl h; exact zb_no h
                | succ fu19 ih19 =>
                  intro x17 x18 H locs hP hD hS ls hl h
                  replace h : zf_X2_steam_b78 v1 v2 v3 v4 v5 (0 : Int64) m_s m_m m_refused (zl2 (zf_X2_steam_b78 v1 v2 v3 v4 v5 (0 : Int64) m_s m_m m_refused) fu19) x17 x18 = some (r0, w_m_m, w_m_refused) := h
                  unfold zf_X2_steam_b78 at h
                  refine lv_iload hx hb dX2_steam_78 (lv_at hl 8 rfl) ?_
                  refine lv_iload_n hx hb dX2_steam_80 rfl (lv_at hl 3 rfl) ?_
                  refine lv_icmp_ge (tgt := 98) hx hb dX2_steam_81 (by decide) (fun c20 => ?_) (fun c20 => ?_)
                  · replace h := it_t c20 h
                    refine lv_iconst (v := (0 : Int32)) hx hb dX2_steam_98 (by decide) ?_
                    refine lv_istore (lv' := [(10, .int (0 : Int32)), (0, .ref (ad 0)), (1, .int v1), (2, .int v2), (3, .int v3), (4, .int v4), (5, .int v5), (6, .long (0 : Int64)), (8, .long x17)]) hx hb dX2_steam_99 hl (by decide) rfl (fun ls hl => ?_)
                    have lp24 : ∀ (fu24 : Nat) (x21 : Int64) (x22 : Int32) (x23 : (Nat → Int32)) (H : Heap) (locs : List Loc) (hP : va_P D zb_cl (zb_M cI ad m_s x23 m_image m_was m_hasImage m_letters m_row m_refused m_letterMany m_rowMany m_place m_numbers m_cost m_seed) H) (hD : va_D A (zb_M cI ad m_s x23 m_image m_was m_hasImage m_letters m_row m_refused m_letterMany m_rowMany m_place m_numbers m_cost m_seed)) (hS : va_S A s.heap H locs) (ls : Array Slot) (hl : lv_has ls 14 [(0, .ref (ad 0)), (1, .int v1), (2, .int v2), (3, .int v3), (4, .int v4), (5, .int v5), (6, .long x21), (8, .long x17), (10, .int x22)]) (h : zl3 (zf_X2_steam_b101 v1 v2 v3 v4 v5 x17 m_s m_refused) fu24 x21 x22 x23 = some (r0, w_m_m, w_m_refused)), W p l e rm_X2_steam s m args below meth c H locs 0 0 (zb_Q below D (some (.long r0)) (zb_M cI ad m_s w_m_m m_image m_was m_hasImage m_letters m_row w_m_refused m_letterMany m_rowMany m_place m_numbers m_cost m_seed) A args s) (F0 m 101 ls []) := by
                      intro fu24
                      induction fu24 with
                      | zero => intro x21 x22 x23 H locs hP hD hS ls hl h; exact zb_no h
                      | succ fu24 ih24 =>
                        intro x21 x22 x23 H locs hP hD hS ls hl h
                        replace h : zf_X2_steam_b101 v1 v2 v3 v4 v5 x17 m_s m_refused (zl3 (zf_X2_steam_b101 v1 v2 v3 v4 v5 x17 m_s m_refused) fu24) x21 x22 x23 = some (r0, w_m_m, w_m_refused) := h
                        unfold zf_X2_steam_b101 at h
                        have j190 : ∀ (x25 : Int64) (x26 : Int32) (x27 : Int64) (x28 : (Nat → Int32)) (H : Heap) (locs : List Loc) (hP : va_P D zb_cl (zb_M cI ad m_s x28 m_image m_was m_hasImage m_letters m_row m_refused m_letterMany m_rowMany m_place m_numbers m_cost m_seed) H) (hD : va_D A (zb_M cI ad m_s x28 m_image m_was m_hasImage m_letters m_row m_refused m_letterMany m_rowMany m_place m_numbers m_cost m_seed)) (hS : va_S A s.heap H locs) (ls : Array Slot) (hl : lv_has ls 14 [(0, .ref (ad 0)), (1, .int v1), (2, .int v2), (3, .int v3), (4, .int v4), (5, .int v5), (6, .long x25), (8, .long x17), (10, .int x26), (11, .long x27)]) (h : zf_X2_steam_j190 (zl3 (zf_X2_steam_b101 v1 v2 v3 v4 v5 x17 m_s m_refused) fu24) v1 v2 x25 x26 x27 x28 = some (r0, w_m_m, w_m_refused)), W p l e rm_X2_steam s m args below meth c H locs 0 0 (zb_Q below D (some (.long r0)) (zb_M cI ad m_s w_m_m m_image m_was m_hasImage m_letters m_row w_m_refused m_letterMany m_rowMany m_place m_numbers m_cost m_seed) A args s) (F0 m 190 ls []) := by
                          intro x25 x26 x27 x28 H locs hP hD hS ls hl h
                          unfold zf_X2_steam_j190 at h
                          refine lv_lload hx hb dX2_steam_190 (lv_at hl 6 rfl) ?_
                          refine lv_aload_n hx hb dX2_steam_192 rfl (lv_at hl 0 rfl) ?_
                          refine va_get (D := D) (ci := 2) (v := .ref (ad 2)) (C := RX2) (T := TX2) (N := 14) hx hb hts zi_X2_steam_X2 hown hK.1 hP 0 rfl rfl 1 (by decide) (hts _ zk_X2_steam_1) (fun _ h9 => h9) rfl dX2_steam_193 ?_
                          refine lv_iload_n hx hb dX2_steam_196 rfl (lv_at hl 1 rfl) ?_
                          refine lv_iconst (v := (0 : Int32)) hx hb dX2_steam_197 (by decide) ?_
                          obtain ⟨r29, g30, h⟩ := bo1 h
                          refine zb_callS (As := [.int v1, .int (0 : Int32)]) (rest := [.ref (ad 2), .long x25]) ⟨hx, hb, hml, hown, hts⟩ (zc_X2_of l D cI v1 (0 : Int32) r29 g30) (va_cwS 2 hts gX2_steam_X2_of rfl rfl rfl hd_X2_of.2 ⟨Nat.le_of_ble_eq_true rfl, Nat.le_of_ble_eq_true rfl⟩) hK hP hD hS hA (zb_none _) rfl hl.1 rfl (Nat.le_of_ble_eq_true rfl) dX2_steam_198 ⟨Nat.le_refl _, Nat.le_refl _⟩ (fun H locs hP hD hS => ?_)
                          obtain ⟨h31, h⟩ := it_g h
                          refine va_iald hx hb hK.1 hP 2 0 rfl rfl h31 dX2_steam_201 ?_
                          refine lv_iload_n hx hb dX2_steam_202 rfl (lv_at hl 2 rfl) ?_
                          refine lv_icmp_ne (tgt := 211) hx hb dX2_steam_203 (by decide) (fun c32 => ?_) (fun c32 => ?_)
                          · replace h := it_f c32 h
                            refine lv_lconst (v := (0 : Int64)) hx hb dX2_steam_211 (by decide) ?_
                            refine lv_ladd hx hb dX2_steam_212 ?_
                            refine lv_lstore (lv' := [(6, .long (x25 + (0 : Int64))), (0, .ref (ad 0)), (1, .int v1), (2, .int v2), (3, .int v3), (4, .int v4), (5, .int v5), (8, .long x17), (10, .int x26), (11, .long x27)]) hx hb dX2_steam_213 hl (by decide) rfl (fun ls hl => ?_)
                            refine lv_iinc (v := (x26 + (1 : Int32))) (lv' := [(10, .int (x26 + (1 : Int32))), (6, .long (x25 + (0 : Int64))), (0, .ref (ad 0)), (1, .int v1), (2, .int v2), (3, .int v3), (4, .int v4), (5, .int v5), (8, .long x17), (11, .long x27)]) hx hb dX2_steam_215 hl (k := 8) rfl (by first | rfl | decide) (by decide) rfl (fun ls hl => ?_)
                            refine lv_goto (tgt := 101) hx hb dX2_steam_218 (by decide) ?_
                            exact ih24 (x25 + (0 : Int64)) (x26 + (1 : Int32)) x28 _ _ hP hD hS ls (lv_sub hl [2, 3, 4, 5, 6, 7, 1, 8, 0] rfl) h
                          · replace h := it_t c32 h
                            refine lv_lload hx hb dX2_steam_206 (lv_at hl 9 rfl) ?_
                            refine lv_goto (tgt := 212) hx hb dX2_steam_208 (by decide) ?_
                            refine lv_ladd hx hb dX2_steam_212 ?_
                            refine lv_lstore (lv' := [(6, .long (x25 + x27)), (0, .ref (ad 0)), (1, .int v1), (2, .int v2), (3, .int v3), (4, .int v4), (5, .int v5), (8, .long x17), (10, .int x26), (11, .long x27)]) hx hb dX2_steam_213 hl (by decide) rfl (fun ls hl => ?_)
                            refine lv_iinc (v := (x26 + (1 : Int32))) (lv' := [(10, .int (x26 + (1 : Int32))), (6, .long (x25 + x27)), (0, .ref (ad 0)), (1, .int v1), (2, .int v2), (3, .int v3), (4, .int v4), (5, .int v5), (8, .long x17), (11, .long x27)]) hx hb dX2_steam_215 hl (k := 8) rfl (by first | rfl | decide) (by decide) rfl (fun ls hl => ?_)
                            refine lv_goto (tgt := 101) hx hb dX2_steam_218 (by decide) ?_
                            exact ih24 (x25 + x27) (x26 + (1 : Int32)) x28 _ _ hP hD hS ls (lv_sub hl [2, 3, 4, 5, 6, 7, 1, 8, 0] rfl) h
                        refine lv_iload hx hb dX2_steam_101 (lv_at hl 8 rfl) ?_
                        refine lv_iconst (v := (1 : Int32)) hx hb dX2_steam_103 (by decide) ?_
                        refine lv_iload_n hx hb dX2_steam_104 rfl (lv_at hl 3 rfl) ?_
                        refine lv_ishl hx hb dX2_steam_105 ?_
                        refine lv_icmp_ge (tgt := 221) hx hb dX2_steam_106 (by decide) (fun c33 => ?_) (fun c33 => ?_)
                        · replace h := it_t c33 h
                          refine lv_lload hx hb dX2_steam_221 (lv_at hl 6 rfl) ?_
                          refine lv_lload hx hb dX2_steam_223 (lv_at hl 7 rfl) ?_
                          refine lv_iload hx hb dX2_steam_225 (lv_at hl 5 rfl) ?_
                          obtain ⟨r34, g35, h⟩ := bo1 h
                          refine zb_callS (As := [.long x21, .long x17, .int v5]) (rest := []) ⟨hx, hb, hml, hown, hts⟩ (zc_X2_partOf l D cI x21 x17 v5 r34 g35) (va_cwS 3 hts gX2_steam_X2_partOf rfl rfl rfl hd_X2_partOf.2 ⟨Nat.le_of_ble_eq_true rfl, Nat.le_of_ble_eq_true rfl⟩) hK hP hD hS hA (zb_none _) rfl hl.1 rfl (Nat.le_of_ble_eq_true rfl) dX2_steam_227 ⟨Nat.le_refl _, Nat.le_refl _⟩ (fun H locs hP hD hS => ?_)
                          obtain ⟨rfl, rfl, rfl⟩ := re3 h
                          exact zb_lret hx hb hr hlk hP hS dX2_steam_230
                        · replace h := it_f c33 h
                          refine lv_lconst (v := (1 : Int64)) hx hb dX2_steam_109 (by decide) ?_
                          refine lv_lstore (lv' := [(11, .long (1 : Int64)), (0, .ref (ad 0)), (1, .int v1), (2, .int v2), (3, .int v3), (4, .int v4), (5, .int v5), (6, .long x21), (8, .long x17), (10, .int x22)]) hx hb dX2_steam_110 hl (by decide) rfl (fun ls hl => ?_)
                          refine lv_aload_n hx hb dX2_steam_112 rfl (lv_at hl 1 rfl) ?_
                          refine va_get (D := D) (ci := 2) (v := .ref (ad 1)) (C := RX2) (T := TX2) (N := 14) hx hb hts zi_X2_steam_X2 hown hK.1 hP 0 rfl rfl 0 (by decide) (hts _ zk_X2_steam_0) (fun _ h9 => h9) rfl dX2_steam_113 ?_
                          refine lv_aload_n hx hb dX2_steam_116 rfl (lv_at hl 1 rfl) ?_
                          refine va_get (D := D) (ci := 2) (v := .ref (ad 2)) (C := RX2) (T := TX2) (N := 14) hx hb hts zi_X2_steam_X2 hown hK.1 hP 0 rfl rfl 1 (by decide) (hts _ zk_X2_steam_1) (fun _ h9 => h9) rfl dX2_steam_117 ?_
                          obtain ⟨n36, g37, h⟩ := bo1 h
                          refine zb_callS (As := [.ref (ad 1), .ref (ad 2)]) (rest := []) ⟨hx, hb, hml, hown, hts⟩ (zc_X2_copies l D cI (ad 1) (ad 2) m_s x23 n36 g37) (va_cwS 2 hts gX2_steam_X2_copies rfl rfl rfl hd_X2_copies.2 ⟨Nat.le_of_ble_eq_true rfl, Nat.le_of_ble_eq_true rfl⟩) hK hP hD hS hA (zb_cM_s_m) rfl hl.1 rfl (Nat.le_of_ble_eq_true rfl) dX2_steam_120 ⟨Nat.le_refl _, Nat.le_refl _⟩ (fun H locs hP hD hS => ?_)
                          refine lv_iconst (v := (0 : Int32)) hx hb dX2_steam_123 (by decide) ?_
                          refine lv_istore (lv' := [(13, .int (0 : Int32)), (11, .long (1 : Int64)), (0, .ref (ad 0)), (1, .int v1), (2, .int v2), (3, .int v3), (4, .int v4), (5, .int v5), (6, .long x21), (8, .long x17), (10, .int x22)]) hx hb dX2_steam_124 hl (by decide) rfl (fun ls hl => ?_)
                          have lp41 : ∀ (fu41 : Nat) (x38 : Int64) (x39 : Int32) (x40 : (Nat → Int32)) (H : Heap) (locs : List Loc) (hP : va_P D zb_cl (zb_M cI ad m_s x40 m_image m_was m_hasImage m_letters m_row m_refused m_letterMany m_rowMany m_place m_numbers m_cost m_seed) H) (hD : va_D A (zb_M cI ad m_s x40 m_image m_was m_hasImage m_letters m_row m_refused m_letterMany m_rowMany m_place m_numbers m_cost m_seed)) (hS : va_S A s.heap H locs) (ls : Array Slot) (hl : lv_has ls 14 [(0, .ref (ad 0)), (1, .int v1), (2, .int v2), (3, .int v3), (4, .int v4), (5, .int v5), (6, .long x21), (8, .long x17), (10, .int x22), (11, .long x38), (13, .int x39)]) (h : zl3 (zf_X2_steam_b126 (zl3 (zf_X2_steam_b101 v1 v2 v3 v4 v5 x17 m_s m_refused) fu24) v1 v2 v3 v4 x21 x22) fu41 x38 x39 x40 = some (r0, w_m_m, w_m_refused)), W p l e rm_X2_steam s m args below meth c H locs 0 0 (zb_Q below D (some (.long r0)) (zb_M cI ad m_s w_m_m m_image m_was m_hasImage m_letters m_row w_m_refused m_letterMany m_rowMany m_place m_numbers m_cost m_seed) A args s) (F0 m 126 ls []) := by
                            intro fu41
                            induction fu41 with
                            | zero => intro x38 x39 x40 H locs hP hD hS ls hl h; exact zb_no h
                            | succ fu41 ih41 =>
                              intro x38 x39 x40 H locs hP hD hS ls hl h
                              replace h : zf_X2_steam_b126 (zl3 (zf_X2_steam_b101 v1 v2 v3 v4 v5 x17 m_s m_refused) fu24) v1 v2 v3 v4 x21 x22 (zl3 (zf_X2_steam_b126 (zl3 (zf_X2_steam_b101 v1 v2 v3 v4 v5 x17 m_s m_refused) fu24) v1 v2 v3 v4 x21 x22) fu41) x38 x39 x40 = some (r0, w_m_m, w_m_refused) := h
                              unfold zf_X2_steam_b126 at h
                              have j153 : ∀ (x42 : Int32) (x43 : Int64) (x44 : Int64) (x45 : (Nat → Int32)) (H : Heap) (locs : List Loc) (hP : va_P D zb_cl (zb_M cI ad m_s x45 m_image m_was m_hasImage m_letters m_row m_refused m_letterMany m_rowMany m_place m_numbers m_cost m_seed) H) (hD : va_D A (zb_M cI ad m_s x45 m_image m_was m_hasImage m_letters m_row m_refused m_letterMany m_rowMany m_place m_numbers m_cost m_seed)) (hS : va_S A s.heap H locs) (ls : Array Slot) (hl : lv_has ls 14 [(0, .ref (ad 0)), (1, .int v1), (2, .int v2), (3, .int v3), (4, .int v4), (5, .int v5), (6, .long x21), (8, .long x17), (10, .int x22), (13, .int x42)]) (h : zf_X2_steam_j153 (zl3 (zf_X2_steam_b126 (zl3 (zf_X2_steam_b101 v1 v2 v3 v4 v5 x17 m_s m_refused) fu24) v1 v2 v3 v4 x21 x22) fu41) x22 x42 x43 x44 x45 = some (r0, w_m_m, w_m_refused)), W p l e rm_X2_steam s m args below meth c H locs 0 0 (zb_Q below D (some (.long r0)) (zb_M cI ad m_s w_m_m m_image m_was m_hasImage m_letters m_row w_m_refused m_letterMany m_rowMany m_place m_numbers m_cost m_seed) A args s) (F0 m 153 ls [.long x44, .long x43]) := by
                                intro x42 x43 x44 x45 H locs hP hD hS ls hl h
                                unfold zf_X2_steam_j153 at h
                                refine lv_lmul hx hb dX2_steam_153 ?_
                                refine lv_lstore (lv' := [(11, .long (x43 * x44)), (0, .ref (ad 0)), (1, .int v1), (2, .int v2), (3, .int v3), (4, .int v4), (5, .int v5), (6, .long x21), (8, .long x17), (10, .int x22), (13, .int x42)]) hx hb dX2_steam_154 hl (by decide) rfl (fun ls hl => ?_)
                                refine lv_aload_n hx hb dX2_steam_156 rfl (lv_at hl 1 rfl) ?_
                                refine va_get (D := D) (ci := 2) (v := .ref (ad 2)) (C := RX2) (T := TX2) (N := 14) hx hb hts zi_X2_steam_X2 hown hK.1 hP 0 rfl rfl 1 (by decide) (hts _ zk_X2_steam_1) (fun _ h9 => h9) rfl dX2_steam_157 ?_
                                refine lv_iconst (v := (2 : Int32)) hx hb dX2_steam_160 (by decide) ?_
                                refine lv_iload hx hb dX2_steam_161 (lv_at hl 9 rfl) ?_
                                refine lv_iload hx hb dX2_steam_163 (lv_at hl 10 rfl) ?_
                                obtain ⟨r46, g47, h⟩ := bo1 h
                                refine zb_callS (As := [.int x22, .int x42]) (rest := [.int (2 : Int32), .ref (ad 2)]) ⟨hx, hb, hml, hown, hts⟩ (zc_X2_has l D cI x22 x42 r46 g47) (va_cwS 2 hts gX2_steam_X2_has rfl rfl rfl hd_X2_has.2 ⟨Nat.le_of_ble_eq_true rfl, Nat.le_of_ble_eq_true rfl⟩) hK hP hD hS hA (zb_none _) rfl hl.1 rfl (Nat.le_of_ble_eq_true rfl) dX2_steam_165 ⟨Nat.le_refl _, Nat.le_refl _⟩ (fun H locs hP hD hS => ?_)
                                refine lv_if_eq (tgt := 175) hx hb dX2_steam_168 (by decide) (fun c48 => ?_) (fun c48 => ?_)
                                · replace h := it_t c48 h
                                  refine lv_iconst (v := (0 : Int32)) hx hb dX2_steam_175 (by decide) ?_
                                  refine va_iast hx hb hK.1 hP hD hS 2 0 rfl rfl (vl_in (by decide)) dX2_steam_176 (fun H locs hP hD hS => ?_)
                                  have hP : va_P D zb_cl (zb_M cI ad m_s (upd x45 (2 : Int32).toNatClampNeg (0 : Int32)) m_image m_was m_hasImage m_letters m_row m_refused m_letterMany m_rowMany m_place m_numbers m_cost m_seed) H := hP
                                  have hD : va_D A (zb_M cI ad m_s (upd x45 (2 : Int32).toNatClampNeg (0 : Int32)) m_image m_was m_hasImage m_letters m_row m_refused m_letterMany m_rowMany m_place m_numbers m_cost m_seed) := hD
                                  refine lv_aload_n hx hb dX2_steam_177 rfl (lv_at hl 1 rfl) ?_
                                  refine va_get (D := D) (ci := 2) (v := .ref (ad 2)) (C := RX2) (T := TX2) (N := 14) hx hb hts zi_X2_steam_X2 hown hK.1 hP 0 rfl rfl 1 (by decide) (hts _ zk_X2_steam_1) (fun _ h9 => h9) rfl dX2_steam_178 ?_
                                  obtain ⟨n49, g50, h⟩ := bo1 h
                                  refine zb_callS (As := [.ref (ad 2)]) (rest := []) ⟨hx, hb, hml, hown, hts⟩ (zc_X2_step l D cI (ad 2) (upd x45 (2 : Int32).toNatClampNeg (0 : Int32)) n49 g50) (va_cwS 1 hts gX2_steam_X2_step rfl rfl rfl hd_X2_step.2 ⟨Nat.le_of_ble_eq_true rfl, Nat.le_of_ble_eq_true rfl⟩) hK hP hD hS hA (zb_cM_m) rfl hl.1 rfl (Nat.le_of_ble_eq_true rfl) dX2_steam_181 ⟨Nat.le_refl _, Nat.le_refl _⟩ (fun H locs hP hD hS => ?_)
                                  refine lv_iinc (v := (x42 + (1 : Int32))) (lv' := [(13, .int (x42 + (1 : Int32))), (11, .long (x43 * x44)), (0, .ref (ad 0)), (1, .int v1), (2, .int v2), (3, .int v3), (4, .int v4), (5, .int v5), (6, .long x21), (8, .long x17), (10, .int x22)]) hx hb dX2_steam_184 hl (k := 10) rfl (by first | rfl | decide) (by decide) rfl (fun ls hl => ?_)
                                  refine lv_goto (tgt := 126) hx hb dX2_steam_187 (by decide) ?_
                                  exact ih41 (x43 * x44) (x42 + (1 : Int32)) n49 _ _ hP hD hS ls (lv_sub hl [2, 3, 4, 5, 6, 7, 8, 9, 10, 1, 0] rfl) h
                                · replace h := it_f c48 h
                                  refine lv_iconst (v := ((-1) : Int32)) hx hb dX2_steam_171 (by decide) ?_
                                  refine lv_goto (tgt := 176) hx hb dX2_steam_172 (by decide) ?_
                                  refine va_iast hx hb hK.1 hP hD hS 2 0 rfl rfl (vl_in (by decide)) dX2_steam_176 (fun H locs hP hD hS => ?_)
                                  have hP : va_P D zb_cl (zb_M cI ad m_s (upd x45 (2 : Int32).toNatClampNeg ((-1) : Int32)) m_image m_was m_hasImage m_letters m_row m_refused m_letterMany m_rowMany m_place m_numbers m_cost m_seed) H := hP
                                  have hD : va_D A (zb_M cI ad m_s (upd x45 (2 : Int32).toNatClampNeg ((-1) : Int32)) m_image m_was m_hasImage m_letters m_row m_refused m_letterMany m_rowMany m_place m_numbers m_cost m_seed) := hD
                                  refine lv_aload_n hx hb dX2_steam_177 rfl (lv_at hl 1 rfl) ?_
                                  refine va_get (D := D) (ci := 2) (v := .ref (ad 2)) (C := RX2) (T := TX2) (N := 14) hx hb hts zi_X2_steam_X2 hown hK.1 hP 0 rfl rfl 1 (by decide) (hts _ zk_X2_steam_1) (fun _ h9 => h9) rfl dX2_steam_178 ?_
                                  obtain ⟨n51, g52, h⟩ := bo1 h
                                  refine zb_callS (As := [.ref (ad 2)]) (rest := []) ⟨hx, hb, hml, hown, hts⟩ (zc_X2_step l D cI (ad 2) (upd x45 (2 : Int32).toNatClampNeg ((-1) : Int32)) n51 g52) (va_cwS 1 hts gX2_steam_X2_step rfl rfl rfl hd_X2_step.2 ⟨Nat.le_of_ble_eq_true rfl, Nat.le_of_ble_eq_true rfl⟩) hK hP hD hS hA (zb_cM_m) rfl hl.1 rfl (Nat.le_of_ble_eq_true rfl) dX2_steam_181 ⟨Nat.le_refl _, Nat.le_refl _⟩ (fun H locs hP hD hS => ?_)
                                  refine lv_iinc (v := (x42 + (1 : Int32))) (lv' := [(13, .int (x42 + (1 : Int32))), (11, .long (x43 * x44)), (0, .ref (ad 0)), (1, .int v1), (2, .int v2), (3, .int v3), (4, .int v4), (5, .int v5), (6, .long x21), (8, .long x17), (10, .int x22)]) hx hb dX2_steam_184 hl (k := 10) rfl (by first | rfl | decide) (by decide) rfl (fun ls hl => ?_)
                                  refine lv_goto (tgt := 126) hx hb dX2_steam_187 (by decide) ?_
                                  exact ih41 (x43 * x44) (x42 + (1 : Int32)) n51 _ _ hP hD hS ls (lv_sub hl [2, 3, 4, 5, 6, 7, 8, 9, 10, 1, 0] rfl) h
                              refine lv_iload hx hb dX2_steam_126 (lv_at hl 10 rfl) ?_
                              refine lv_iload_n hx hb dX2_steam_128 rfl (lv_at hl 3 rfl) ?_
                              refine lv_icmp_ge (tgt := 190) hx hb dX2_steam_129 (by decide) (fun c53 => ?_) (fun c53 => ?_)
                              · replace h := it_t c53 h
                                exact j190 x21 x22 x38 x40 _ _ hP hD hS ls (lv_sub hl [0, 1, 2, 3, 4, 5, 6, 7, 8, 9] rfl) h
                              · replace h := it_f c53 h
                                refine lv_lload hx hb dX2_steam_132 (lv_at hl 9 rfl) ?_
                                refine lv_iload hx hb dX2_steam_134 (lv_at hl 8 rfl) ?_
                                refine lv_iload hx hb dX2_steam_136 (lv_at hl 10 rfl) ?_
                                obtain ⟨r54, g55, h⟩ := bo1 h
                                refine zb_callS (As := [.int x22, .int x39]) (rest := [.long x38]) ⟨hx, hb, hml, hown, hts⟩ (zc_X2_has l D cI x22 x39 r54 g55) (va_cwS 2 hts gX2_steam_X2_has rfl rfl rfl hd_X2_has.2 ⟨Nat.le_of_ble_eq_true rfl, Nat.le_of_ble_eq_true rfl⟩) hK hP hD hS hA (zb_none _) rfl hl.1 rfl (Nat.le_of_ble_eq_true rfl) dX2_steam_138 ⟨Nat.le_refl _, Nat.le_refl _⟩ (fun H locs hP hD hS => ?_)
                                refine lv_if_eq (tgt := 148) hx hb dX2_steam_141 (by decide) (fun c56 => ?_) (fun c56 => ?_)
                                · replace h := it_t c56 h
                                  refine lv_iload hx hb dX2_steam_148 (lv_at hl 4 rfl) ?_
                                  refine lv_iconst (v := (1 : Int32)) hx hb dX2_steam_150 (by decide) ?_
                                  refine lv_isub hx hb dX2_steam_151 ?_
                                  refine lv_i2l (v := (v4 - (1 : Int32)).toInt64) hx hb dX2_steam_152 rfl ?_
                                  exact j153 x39 x38 (v4 - (1 : Int32)).toInt64 x40 _ _ hP hD hS ls (lv_sub hl [0, 1, 2, 3, 4, 5, 6, 7, 8, 10] rfl) h
                                · replace h := it_f c56 h
                                  refine lv_lconst (v := (1 : Int64)) hx hb dX2_steam_144 (by decide) ?_
                                  refine lv_goto (tgt := 153) hx hb dX2_steam_145 (by decide) ?_
                                  exact j153 x39 x38 (1 : Int64) x40 _ _ hP hD hS ls (lv_sub hl [0, 1, 2, 3, 4, 5, 6, 7, 8, 10] rfl) h
                          exact lp41 zb_FU (1 : Int64) (0 : Int32) n36 _ _ hP hD hS ls (lv_sub hl [2, 3, 4, 5, 6, 7, 8, 9, 10, 1, 0] rfl) h
                    exact lp24 zb_FU (0 : Int64) (0 : Int32) m_m _ _ hP hD hS ls (lv_sub hl [1, 2, 3, 4, 5, 6, 7, 8, 0] rfl) h
                  · replace h := it_f c20 h
                    refine lv_lload hx hb dX2_steam_84 (lv_at hl 7 rfl) ?_
                    refine lv_iload hx hb dX2_steam_86 (lv_at hl 4 rfl) ?_
                    refine lv_i2l (v := v4.toInt64) hx hb dX2_steam_88 rfl ?_
                    refine lv_lmul hx hb dX2_steam_89 ?_
                    refine lv_lstore (lv' := [(8, .long (x17 * v4.toInt64)), (0, .ref (ad 0)), (1, .int v1), (2, .int v2), (3, .int v3), (4, .int v4), (5, .int v5), (6, .long (0 : Int64)), (10, .int x18)]) hx hb dX2_steam_90 hl (by decide) rfl (fun ls hl => ?_)
                    refine lv_iinc (v := (x18 + (1 : Int32))) (lv' := [(10, .int (x18 + (1 : Int32))), (8, .long (x17 * v4.toInt64)), (0, .ref (ad 0)), (1, .int v1), (2, .int v2), (3, .int v3), (4, .int v4), (5, .int v5), (6, .long (0 : Int64))]) hx hb dX2_steam_92 hl (k := 8) rfl (by first | rfl | decide) (by decide) rfl (fun ls hl => ?_)
                    refine lv_goto (tgt := 78) hx hb dX2_steam_95 (by decide) ?_
                    exact ih19 (x17 * v4.toInt64) (x18 + (1 : Int32)) _ _ hP hD hS ls (lv_sub hl [2, 3, 4, 5, 6, 7, 8, 1, 0] rfl) h
              exact lp19 zb_FU (1 : Int64) (0 : Int32) _ _ hP hD hS ls (lv_sub hl [3, 4, 5, 6, 7, 8, 2, 1, 0] rfl) h
            · replace h := it_t c16 h
              refine lv_aload_n hx hb dX2_steam_62 rfl (lv_at hl 0 rfl) ?_
              refine lv_bipush (v := ((-2) : Int32)) hx hb dX2_steam_63 (by decide) ?_
              obtain ⟨r57, n58, g59, h⟩ := bo2 h
              refine zb_callV (As := [.int ((-2) : Int32)]) (rest := []) ⟨hx, hb, hml, hown, hts⟩ (zc_X2_noWide l D cI ad m_s m_m m_image m_was m_hasImage m_letters m_row m_refused m_letterMany m_rowMany m_place m_numbers m_cost m_seed ((-2) : Int32) r57 n58 g59) (cwV 1 hts gX2_steam_X2_noWide rfl rfl rfl hd_X2_noWide ⟨Nat.le_of_ble_eq_true rfl, Nat.le_of_ble_eq_true rfl⟩) hK hP hD hS hA (zb_sM) (q0 := 0) rfl rfl rfl hl.1 rfl (Nat.le_of_ble_eq_true rfl) dX2_steam_65 ⟨Nat.le_refl _, Nat.le_refl _⟩ (fun H locs hP hD hS => ?_)
              obtain ⟨rfl, rfl, rfl⟩ := re3 h
              exact zb_lret hx hb hr hlk hP hS dX2_steam_68
          · replace h := it_f c13 h
            refine lv_aload_n hx hb dX2_steam_45 rfl (lv_at hl 0 rfl) ?_
            refine lv_bipush (v := ((-6) : Int32)) hx hb dX2_steam_46 (by decide) ?_
            obtain ⟨r60, n61, g62, h⟩ := bo2 h
            refine zb_callV (As := [.int ((-6) : Int32)]) (rest := []) ⟨hx, hb, hml, hown, hts⟩ (zc_X2_noWide l D cI ad m_s m_m m_image m_was m_hasImage m_letters m_row m_refused m_letterMany m_rowMany m_place m_numbers m_cost m_seed ((-6) : Int32) r60 n61 g62) (cwV 1 hts gX2_steam_X2_noWide rfl rfl rfl hd_X2_noWide ⟨Nat.le_of_ble_eq_true rfl, Nat.le_of_ble_eq_true rfl⟩) hK hP hD hS hA (zb_sM) (q0 := 0) rfl rfl rfl hl.1 rfl (Nat.le_of_ble_eq_true rfl) dX2_steam_48 ⟨Nat.le_refl _, Nat.le_refl _⟩ (fun H locs hP hD hS => ?_)
            obtain ⟨rfl, rfl, rfl⟩ := re3 h
            exact zb_lret hx hb hr hlk hP hS dX2_steam_51
      · replace h := it_f c8 h
        refine lv_aload_n hx hb dX2_steam_25 rfl (lv_at hl 0 rfl) ?_
        refine lv_bipush (v := ((-4) : Int32)) hx hb dX2_steam_26 (by decide) ?_
        obtain ⟨r63, n64, g65, h⟩ := bo2 h
        refine zb_callV (As := [.int ((-4) : Int32)]) (rest := []) ⟨hx, hb, hml, hown, hts⟩ (zc_X2_noWide l D cI ad m_s m_m m_image m_was m_hasImage m_letters m_row m_refused m_letterMany m_rowMany m_place m_numbers m_cost m_seed ((-4) : Int32) r63 n64 g65) (cwV 1 hts gX2_steam_X2_noWide rfl rfl rfl hd_X2_noWide ⟨Nat.le_of_ble_eq_true rfl, Nat.le_of_ble_eq_true rfl⟩) hK hP hD hS hA (zb_sM) (q0 := 0) rfl rfl rfl hl.1 rfl (Nat.le_of_ble_eq_true rfl) dX2_steam_28 ⟨Nat.le_refl _, Nat.le_refl _⟩ (fun H locs hP hD hS => ?_)
        obtain ⟨rfl, rfl, rfl⟩ := re3 h
        exact zb_lret hx hb hr hlk hP hS dX2_steam_31
  · replace h := it_t c3 h
    refine lv_aload_n hx hb dX2_steam_9 rfl (lv_at hl 0 rfl) ?_
    refine lv_iconst (v := ((-1) : Int32)) hx hb dX2_steam_10 (by decide) ?_
    obtain ⟨r66, n67, g68, h⟩ := bo2 h
    refine zb_callV (As := [.int ((-1) : Int32)]) (rest := []) ⟨hx, hb, hml, hown, hts⟩ (zc_X2_noWide l D cI ad m_s m_m m_image m_was m_hasImage m_letters m_row m_refused m_letterMany m_rowMany m_place m_numbers m_cost m_seed ((-1) : Int32) r66 n67 g68) (cwV 1 hts gX2_steam_X2_noWide rfl rfl rfl hd_X2_noWide ⟨Nat.le_of_ble_eq_true rfl, Nat.le_of_ble_eq_true rfl⟩) hK hP hD hS hA (zb_sM) (q0 := 0) rfl rfl rfl hl.1 rfl (Nat.le_of_ble_eq_true rfl) dX2_steam_11 ⟨Nat.le_refl _, Nat.le_refl _⟩ (fun H locs hP hD hS => ?_)
    obtain ⟨rfl, rfl, rfl⟩ := re3 h
    exact zb_lret hx hb hr hlk hP hS dX2_steam_14
abbrev rm_X2_mean : Room := { frames := 2, cells := 0, slots := 0, locals := 53 }
theorem hd_X2_mean : yX2_mean.cls = RX2 ∧ yX2_mean.cls ≠ "java/lang/invoke/MethodHandle" ∧ yX2_mean.cls ≠ "java/lang/invoke/VarHandle" ∧ (parseMethodDescriptor yX2_mean.desc).map (fun d => d.parameters.length) = some 1 := by decide +kernel
theorem zi_X2_mean_X2 : ∀ w ∈ wsX20, w ∈ wsX2_mean := fun _ h => List.mem_cons_of_mem _ (List.mem_append_right _ h)
theorem zk_X2_mean_0 : Cond.fieldLink RX2 9 "GroutingIsFollowedModel" "s" "[I" ∈ wsX2_mean := by decide +kernel
theorem zk_X2_mean_1 : Cond.constantLong RX2 211 (30) ∈ wsX2_mean := by decide +kernel
set_option maxHeartbeats 4000000 in
set_option maxRecDepth 100000 in
theorem zc_X2_mean (l : Launch) (D : va_G) (cI : ClassId) (ad : Nat → Nat) (m_s : (Nat → Int32)) (m_m : (Nat → Int32)) (m_image : (Nat → Int32)) (m_was : (Nat → Int32)) (m_hasImage : Int32) (m_letters : (Nat → Int32)) (m_row : (Nat → Int32)) (m_refused : (Nat → Int32)) (m_letterMany : Int32) (m_rowMany : Int32) (m_place : Int32) (m_numbers : (Nat → Int32)) (m_cost : (Nat → Int32)) (m_seed : Int32) (v1 : Int32) (r0 : Int64) (w_m_refused : (Nat → Int32)) (h : zf_X2_mean m_s m_refused v1 = some (r0, w_m_refused)) : Cn l D cI yX2_mean wsX2_mean rm_X2_mean [.ref (ad 0), .int v1] (zb_M cI ad m_s m_m m_image m_was m_hasImage m_letters m_row m_refused m_letterMany m_rowMany m_place m_numbers m_cost m_seed) (some (.long r0)) (zb_M cI ad m_s m_m m_image m_was m_hasImage m_letters m_row w_m_refused m_letterMany m_rowMany m_place m_numbers m_cost m_seed) := by
  refine zb_ofW (cc := cX2_mean) (maxL := 2) (ret := (some .long)) (by decide) rfl (Nat.le_of_ble_eq_true rfl) ?_
  intro p e s m args below meth c A ls hx hb hr hml hts hown hlk hK hP hD hA hl
  have hS : va_S A s.heap s.heap [] := va_S.rf
  have hl : lv_has ls 2 [(0, .ref (ad 0)), (1, .int v1)] := hl
  unfold zf_X2_mean at h
  refine lv_iload_n hx hb dX2_mean_0 rfl (lv_at hl 1 rfl) ?_
  refine lv_iconst (v := (0 : Int32)) hx hb dX2_mean_1 (by decide) ?_
  refine lv_iconst (v := (1 : Int32)) hx hb dX2_mean_2 (by decide) ?_
  obtain ⟨r1, g2, h⟩ := bo1 h
  refine zb_callS (As := [.int v1, .int (0 : Int32), .int (1 : Int32)]) (rest := []) ⟨hx, hb, hml, hown, hts⟩ (zc_X2_isIn l D cI v1 (0 : Int32) (1 : Int32) r1 g2) (va_cwS 3 hts gX2_mean_X2_isIn rfl rfl rfl hd_X2_isIn.2 ⟨Nat.le_of_ble_eq_true rfl, Nat.le_of_ble_eq_true rfl⟩) hK hP hD hS hA (zb_none _) rfl hl.1 rfl (Nat.le_of_ble_eq_true rfl) dX2_mean_3 ⟨Nat.le_refl _, Nat.le_refl _⟩ (fun H locs hP hD hS => ?_)
  refine lv_if_eq (tgt := 27) hx hb dX2_mean_6 (by decide) (fun c3 => ?_) (fun c3 => ?_)
  · replace h := it_t c3 h
    refine lv_aload_n hx hb dX2_mean_27 rfl (lv_at hl 0 rfl) ?_
    refine lv_bipush (v := ((-2) : Int32)) hx hb dX2_mean_28 (by decide) ?_
    obtain ⟨r4, n5, g6, h⟩ := bo2 h
    refine zb_callV (As := [.int ((-2) : Int32)]) (rest := []) ⟨hx, hb, hml, hown, hts⟩ (zc_X2_noWide l D cI ad m_s m_m m_image m_was m_hasImage m_letters m_row m_refused m_letterMany m_rowMany m_place m_numbers m_cost m_seed ((-2) : Int32) r4 n5 g6) (cwV 1 hts gX2_mean_X2_noWide rfl rfl rfl hd_X2_noWide ⟨Nat.le_of_ble_eq_true rfl, Nat.le_of_ble_eq_true rfl⟩) hK hP hD hS hA (zb_sM) (q0 := 0) rfl rfl rfl hl.1 rfl (Nat.le_of_ble_eq_true rfl) dX2_mean_30 ⟨Nat.le_refl _, Nat.le_refl _⟩ (fun H locs hP hD hS => ?_)
    obtain ⟨rfl, rfl⟩ := re2 h
    exact zb_lret hx hb hr hlk hP hS dX2_mean_33
  · replace h := it_f c3 h
    refine lv_aload_n hx hb dX2_mean_9 rfl (lv_at hl 0 rfl) ?_
    refine va_get (D := D) (ci := 2) (v := .ref (ad 1)) (C := RX2) (T := TX2) (N := 14) hx hb hts zi_X2_mean_X2 hown hK.1 hP 0 rfl rfl 0 (by decide) (hts _ zk_X2_mean_0) (fun _ h9 => h9) rfl dX2_mean_10 ?_
    obtain ⟨r7, g8, h⟩ := bo1 h
    refine zb_callS (As := [.ref (ad 1)]) (rest := []) ⟨hx, hb, hml, hown, hts⟩ (zc_X2_allWet l D cI (ad 1) m_s r7 g8) (va_cwS 1 hts gX2_mean_X2_allWet rfl rfl rfl hd_X2_allWet.2 ⟨Nat.le_of_ble_eq_true rfl, Nat.le_of_ble_eq_true rfl⟩) hK hP hD hS hA (zb_cM_s) rfl hl.1 rfl (Nat.le_of_ble_eq_true rfl) dX2_mean_13 ⟨Nat.le_refl _, Nat.le_refl _⟩ (fun H locs hP hD hS => ?_)
    refine lv_i2l (v := r7.toInt64) hx hb dX2_mean_16 rfl ?_
    refine lv_ldc2 (v := (30 : Int64)) hx hb hown (hts _ zk_X2_mean_1) dX2_mean_17 ?_
    refine lv_iload_n hx hb dX2_mean_20 rfl (lv_at hl 1 rfl) ?_
    obtain ⟨r9, g10, h⟩ := bo1 h
    refine zb_callS (As := [.long r7.toInt64, .long (30 : Int64), .int v1]) (rest := []) ⟨hx, hb, hml, hown, hts⟩ (zc_X2_partOf l D cI r7.toInt64 (30 : Int64) v1 r9 g10) (va_cwS 3 hts gX2_mean_X2_partOf rfl rfl rfl hd_X2_partOf.2 ⟨Nat.le_of_ble_eq_true rfl, Nat.le_of_ble_eq_true rfl⟩) hK hP hD hS hA (zb_none _) rfl hl.1 rfl (Nat.le_of_ble_eq_true rfl) dX2_mean_21 ⟨Nat.le_refl _, Nat.le_refl _⟩ (fun H locs hP hD hS => ?_)
    refine lv_goto (tgt := 33) hx hb dX2_mean_24 (by decide) ?_
    obtain ⟨rfl, rfl⟩ := re2 h
    exact zb_lret hx hb hr hlk hP hS dX2_mean_33
abbrev rm_X2_whatIs : Room := { frames := 4, cells := 0, slots := 0, locals := 91 }
theorem hd_X2_whatIs : yX2_whatIs.cls = RX2 ∧ yX2_whatIs.cls ≠ "java/lang/invoke/MethodHandle" ∧ yX2_whatIs.cls ≠ "java/lang/invoke/VarHandle" ∧ (parseMethodDescriptor yX2_whatIs.desc).map (fun d => d.parameters.length) = some 3 := by decide +kernel
theorem zi_X2_whatIs_X2 : ∀ w ∈ wsX20, w ∈ wsX2_whatIs := fun _ h => List.mem_cons_of_mem _ (List.mem_append_right _ h)
theorem zk_X2_whatIs_0 : Cond.fieldLink RX2 9 "GroutingIsFollowedModel" "s" "[I" ∈ wsX2_whatIs := by decide +kernel
theorem zk_X2_whatIs_1 : Cond.fieldLink RX2 13 "GroutingIsFollowedModel" "m" "[I" ∈ wsX2_whatIs := by decide +kernel
theorem zk_X2_whatIs_2 : Cond.fieldLink RX2 213 "GroutingIsFollowedModel" "rowMany" "I" ∈ wsX2_whatIs := by decide +kernel
theorem zk_X2_whatIs_3 : Cond.fieldLink RX2 25 "GroutingIsFollowedModel" "row" "[I" ∈ wsX2_whatIs := by decide +kernel
set_option maxHeartbeats 4000000 in
set_option maxRecDepth 100000 in
theorem zc_X2_whatIs (l : Launch) (D : va_G) (cI : ClassId) (ad : Nat → Nat) (m_s : (Nat → Int32)) (m_m : (Nat → Int32)) (m_image : (Nat → Int32)) (m_was : (Nat → Int32)) (m_hasImage : Int32) (m_letters : (Nat → Int32)) (m_row : (Nat → Int32)) (m_refused : (Nat → Int32)) (m_letterMany : Int32) (m_rowMany : Int32) (m_place : Int32) (m_numbers : (Nat → Int32)) (m_cost : (Nat → Int32)) (m_seed : Int32) (v1 : Int32) (v2 : Int32) (v3 : Int32) (r0 : Int32) (w_m_m : (Nat → Int32)) (w_m_refused : (Nat → Int32)) (h : zf_X2_whatIs m_s m_m m_row m_refused m_rowMany v1 v2 v3 = some (r0, w_m_m, w_m_refused)) : Cn l D cI yX2_whatIs wsX2_whatIs rm_X2_whatIs [.ref (ad 0), .int v1, .int v2, .int v3] (zb_M cI ad m_s m_m m_image m_was m_hasImage m_letters m_row m_refused m_letterMany m_rowMany m_place m_numbers m_cost m_seed) (some (.int r0)) (zb_M cI ad m_s w_m_m m_image m_was m_hasImage m_letters m_row w_m_refused m_letterMany m_rowMany m_place m_numbers m_cost m_seed) := by
  refine zb_ofW (cc := cX2_whatIs) (maxL := 8) (ret := (some .int)) (by decide) rfl (Nat.le_of_ble_eq_true rfl) ?_
  intro p e s m args below meth c A ls hx hb hr hml hts hown hlk hK hP hD hA hl
  have hS : va_S A s.heap s.heap [] := va_S.rf
  have hl : lv_has ls 8 [(0, .ref (ad 0)), (1, .int v1), (2, .int v2), (3, .int v3)] := hl
  unfold zf_X2_whatIs at h
  refine lv_aload_n hx hb dX2_whatIs_0 rfl (lv_at hl 0 rfl) ?_
  refine lv_iload_n hx hb dX2_whatIs_1 rfl (lv_at hl 2 rfl) ?_
  refine lv_iload_n hx hb dX2_whatIs_2 rfl (lv_at hl 1 rfl) ?_
  obtain ⟨r1, g2, h⟩ := bo1 h
  refine zb_callV (As := [.int v2, .int v1]) (rest := []) ⟨hx, hb, hml, hown, hts⟩ (zc_X2_areThere l D cI ad m_s m_m m_image m_was m_hasImage m_letters m_row m_refused m_letterMany m_rowMany m_place m_numbers m_cost m_seed v2 v1 r1 g2) (cwV 2 hts gX2_whatIs_X2_areThere rfl rfl rfl hd_X2_areThere ⟨Nat.le_of_ble_eq_true rfl, Nat.le_of_ble_eq_true rfl⟩) hK hP hD hS hA (zb_sM) (q0 := 0) rfl rfl rfl hl.1 rfl (Nat.le_of_ble_eq_true rfl) dX2_whatIs_3 ⟨Nat.le_refl _, Nat.le_refl _⟩ (fun H locs hP hD hS => ?_)
  refine lv_if_ne (tgt := 15) hx hb dX2_whatIs_6 (by decide) (fun c3 => ?_) (fun c3 => ?_)
  · replace h := it_f c3 h
    refine lv_iload_n hx hb dX2_whatIs_15 rfl (lv_at hl 3 rfl) ?_
    refine lv_iconst (v := (0 : Int32)) hx hb dX2_whatIs_16 (by decide) ?_
    refine lv_iconst (v := (1 : Int32)) hx hb dX2_whatIs_17 (by decide) ?_
    obtain ⟨r4, g5, h⟩ := bo1 h
    refine zb_callS (As := [.int v3, .int (0 : Int32), .int (1 : Int32)]) (rest := []) ⟨hx, hb, hml, hown, hts⟩ (zc_X2_isIn l D cI v3 (0 : Int32) (1 : Int32) r4 g5) (va_cwS 3 hts gX2_whatIs_X2_isIn rfl rfl rfl hd_X2_isIn.2 ⟨Nat.le_of_ble_eq_true rfl, Nat.le_of_ble_eq_true rfl⟩) hK hP hD hS hA (zb_none _) rfl hl.1 rfl (Nat.le_of_ble_eq_true rfl) dX2_whatIs_18 ⟨Nat.le_refl _, Nat.le_refl _⟩ (fun H locs hP hD hS => ?_)
    refine lv_if_ne (tgt := 31) hx hb dX2_whatIs_21 (by decide) (fun c6 => ?_) (fun c6 => ?_)
    · replace h := it_f c6 h
      refine lv_iconst (v := (0 : Int32)) hx hb dX2_whatIs_31 (by decide) ?_
      refine lv_istore (lv' := [(4, .int (0 : Int32)), (0, .ref (ad 0)), (1, .int v1), (2, .int v2), (3, .int v3)]) hx hb dX2_whatIs_32 hl (by decide) rfl (fun ls hl => ?_)
      refine lv_iconst (v := (0 : Int32)) hx hb dX2_whatIs_34 (by decide) ?_
      refine lv_istore (lv' := [(5, .int (0 : Int32)), (4, .int (0 : Int32)), (0, .ref (ad 0)), (1, .int v1), (2, .int v2), (3, .int v3)]) hx hb dX2_whatIs_35 hl (by decide) rfl (fun ls hl => ?_)
      have lp10 : ∀ (fu10 : Nat) (x7 : Int32) (x8 : Int32) (x9 : (Nat → Int32)) (H : Heap) (locs : List Loc) (hP : va_P D zb_cl (zb_M cI ad m_s x9 m_image m_was m_hasImage m_letters m_row m_refused m_letterMany m_rowMany m_place m_numbers m_cost m_seed) H) (hD : va_D A (zb_M cI ad m_s x9 m_image m_was m_hasImage m_letters m_row m_refused m_letterMany m_rowMany m_place m_numbers m_cost m_seed)) (hS : va_S A s.heap H locs) (ls : Array Slot) (hl : lv_has ls 8 [(0, .ref (ad 0)), (1, .int v1), (2, .int v2), (3, .int v3), (4, .int x7), (5, .int x8)]) (h : zl3 (zf_X2_whatIs_b37 v1 v2 v3 m_s m_row m_refused m_rowMany) fu10 x7 x8 x9 = some (r0, w_m_m, w_m_refused)), W p l e rm_X2_whatIs s m args below meth c H locs 0 0 (zb_Q below D (some (.int r0)) (zb_M cI ad m_s w_m_m m_image m_was m_hasImage m_letters m_row w_m_refused m_letterMany m_rowMany m_place m_numbers m_cost m_seed) A args s) (F0 m 37 ls []) := by
        intro fu10
        induction fu10 with
        | zero => intro x7 x8 x9 H locs hP hD hS ls hl h; exact zb_no h
        | succ fu10 ih10 =>
          intro x7 x8 x9 H locs hP hD hS ls hl h
          replace h : zf_X2_whatIs_b37 v1 v2 v3 m_s m_row m_refused m_rowMany (zl3 (zf_X2_whatIs_b37 v1 v2 v3 m_s m_row m_refused m_rowMany) fu10) x7 x8 x9 = some (r0, w_m_m, w_m_refused) := h
          unfold zf_X2_whatIs_b37 at h
          have j141 : ∀ (x11 : Int32) (x12 : Int32) (x13 : Int32) (x14 : (Nat → Int32)) (H : Heap) (locs : List Loc) (hP : va_P D zb_cl (zb_M cI ad m_s x14 m_image m_was m_hasImage m_letters m_row m_refused m_letterMany m_rowMany m_place m_numbers m_cost m_seed) H) (hD : va_D A (zb_M cI ad m_s x14 m_image m_was m_hasImage m_letters m_row m_refused m_letterMany m_rowMany m_place m_numbers m_cost m_seed)) (hS : va_S A s.heap H locs) (ls : Array Slot) (hl : lv_has ls 8 [(0, .ref (ad 0)), (1, .int v1), (2, .int v2), (3, .int v3), (4, .int x11), (5, .int x12), (6, .int x13)]) (h : zf_X2_whatIs_j141 (zl3 (zf_X2_whatIs_b37 v1 v2 v3 m_s m_row m_refused m_rowMany) fu10) x11 x12 x13 x14 = some (r0, w_m_m, w_m_refused)), W p l e rm_X2_whatIs s m args below meth c H locs 0 0 (zb_Q below D (some (.int r0)) (zb_M cI ad m_s w_m_m m_image m_was m_hasImage m_letters m_row w_m_refused m_letterMany m_rowMany m_place m_numbers m_cost m_seed) A args s) (F0 m 141 ls []) := by
            intro x11 x12 x13 x14 H locs hP hD hS ls hl h
            unfold zf_X2_whatIs_j141 at h
            refine lv_iload hx hb dX2_whatIs_141 (lv_at hl 4 rfl) ?_
            refine lv_iload hx hb dX2_whatIs_143 (lv_at hl 6 rfl) ?_
            refine lv_if_eq (tgt := 155) hx hb dX2_whatIs_145 (by decide) (fun c15 => ?_) (fun c15 => ?_)
            · replace h := it_t c15 h
              refine lv_iconst (v := (0 : Int32)) hx hb dX2_whatIs_155 (by decide) ?_
              refine lv_ior hx hb dX2_whatIs_156 ?_
              refine lv_istore (lv' := [(4, .int (x11 ||| (0 : Int32))), (0, .ref (ad 0)), (1, .int v1), (2, .int v2), (3, .int v3), (5, .int x12), (6, .int x13)]) hx hb dX2_whatIs_157 hl (by decide) rfl (fun ls hl => ?_)
              refine lv_iinc (v := (x12 + (1 : Int32))) (lv' := [(5, .int (x12 + (1 : Int32))), (4, .int (x11 ||| (0 : Int32))), (0, .ref (ad 0)), (1, .int v1), (2, .int v2), (3, .int v3), (6, .int x13)]) hx hb dX2_whatIs_159 hl (k := 5) rfl (by first | rfl | decide) (by decide) rfl (fun ls hl => ?_)
              refine lv_goto (tgt := 37) hx hb dX2_whatIs_162 (by decide) ?_
              exact ih10 (x11 ||| (0 : Int32)) (x12 + (1 : Int32)) x14 _ _ hP hD hS ls (lv_sub hl [2, 3, 4, 5, 1, 0] rfl) h
            · replace h := it_f c15 h
              refine lv_iconst (v := (1 : Int32)) hx hb dX2_whatIs_148 (by decide) ?_
              refine lv_iload hx hb dX2_whatIs_149 (lv_at hl 5 rfl) ?_
              refine lv_ishl hx hb dX2_whatIs_151 ?_
              refine lv_goto (tgt := 156) hx hb dX2_whatIs_152 (by decide) ?_
              refine lv_ior hx hb dX2_whatIs_156 ?_
              refine lv_istore (lv' := [(4, .int (x11 ||| ((1 : Int32) <<< (x12 &&& 31)))), (0, .ref (ad 0)), (1, .int v1), (2, .int v2), (3, .int v3), (5, .int x12), (6, .int x13)]) hx hb dX2_whatIs_157 hl (by decide) rfl (fun ls hl => ?_)
              refine lv_iinc (v := (x12 + (1 : Int32))) (lv' := [(5, .int (x12 + (1 : Int32))), (4, .int (x11 ||| ((1 : Int32) <<< (x12 &&& 31)))), (0, .ref (ad 0)), (1, .int v1), (2, .int v2), (3, .int v3), (6, .int x13)]) hx hb dX2_whatIs_159 hl (k := 5) rfl (by first | rfl | decide) (by decide) rfl (fun ls hl => ?_)
              refine lv_goto (tgt := 37) hx hb dX2_whatIs_162 (by decide) ?_
              exact ih10 (x11 ||| ((1 : Int32) <<< (x12 &&& 31))) (x12 + (1 : Int32)) x14 _ _ hP hD hS ls (lv_sub hl [2, 3, 4, 5, 1, 0] rfl) h
          have j50 : ∀ (x16 : Int32) (x17 : Int32) (x18 : Int32) (x19 : Int32) (x20 : (Nat → Int32)) (H : Heap) (locs : List Loc) (hP : va_P D zb_cl (zb_M cI ad m_s x20 m_image m_was m_hasImage m_letters m_row m_refused m_letterMany m_rowMany m_place m_numbers m_cost m_seed) H) (hD : va_D A (zb_M cI ad m_s x20 m_image m_was m_hasImage m_letters m_row m_refused m_letterMany m_rowMany m_place m_numbers m_cost m_seed)) (hS : va_S A s.heap H locs) (ls : Array Slot) (hl : lv_has ls 8 [(0, .ref (ad 0)), (1, .int v1), (2, .int v2), (3, .int v3), (4, .int x16), (5, .int x17)]) (h : zf_X2_whatIs_j50 (zl3 (zf_X2_whatIs_b37 v1 v2 v3 m_s m_row m_refused m_rowMany) fu10) v1 v2 v3 x16 x17 x18 x19 m_s x20 m_row m_refused m_rowMany = some (r0, w_m_m, w_m_refused)), W p l e rm_X2_whatIs s m args below meth c H locs 0 0 (zb_Q below D (some (.int r0)) (zb_M cI ad m_s w_m_m m_image m_was m_hasImage m_letters m_row w_m_refused m_letterMany m_rowMany m_place m_numbers m_cost m_seed) A args s) (F0 m 50 ls [.int x19, .int x18]) := by
            intro x16 x17 x18 x19 x20 H locs hP hD hS ls hl h
            unfold zf_X2_whatIs_j50 at h
            refine lv_icmp_ge (tgt := 165) hx hb dX2_whatIs_50 (by decide) (fun c21 => ?_) (fun c21 => ?_)
            · replace h := it_t c21 h
              refine lv_iload hx hb dX2_whatIs_165 (lv_at hl 4 rfl) ?_
              obtain ⟨rfl, rfl, rfl⟩ := re3 h
              exact zb_iret hx hb hr hlk hP hS dX2_whatIs_167
            · replace h := it_f c21 h
              refine lv_iconst (v := (1 : Int32)) hx hb dX2_whatIs_53 (by decide) ?_
              refine lv_istore (lv' := [(6, .int (1 : Int32)), (0, .ref (ad 0)), (1, .int v1), (2, .int v2), (3, .int v3), (4, .int x16), (5, .int x17)]) hx hb dX2_whatIs_54 hl (by decide) rfl (fun ls hl => ?_)
              refine lv_aload_n hx hb dX2_whatIs_56 rfl (lv_at hl 1 rfl) ?_
              refine va_get (D := D) (ci := 2) (v := .ref (ad 1)) (C := RX2) (T := TX2) (N := 14) hx hb hts zi_X2_whatIs_X2 hown hK.1 hP 0 rfl rfl 0 (by decide) (hts _ zk_X2_whatIs_0) (fun _ h9 => h9) rfl dX2_whatIs_57 ?_
              refine lv_aload_n hx hb dX2_whatIs_60 rfl (lv_at hl 1 rfl) ?_
              refine va_get (D := D) (ci := 2) (v := .ref (ad 2)) (C := RX2) (T := TX2) (N := 14) hx hb hts zi_X2_whatIs_X2 hown hK.1 hP 0 rfl rfl 1 (by decide) (hts _ zk_X2_whatIs_1) (fun _ h9 => h9) rfl dX2_whatIs_61 ?_
              obtain ⟨n22, g23, h⟩ := bo1 h
              refine zb_callS (As := [.ref (ad 1), .ref (ad 2)]) (rest := []) ⟨hx, hb, hml, hown, hts⟩ (zc_X2_copies l D cI (ad 1) (ad 2) m_s x20 n22 g23) (va_cwS 2 hts gX2_whatIs_X2_copies rfl rfl rfl hd_X2_copies.2 ⟨Nat.le_of_ble_eq_true rfl, Nat.le_of_ble_eq_true rfl⟩) hK hP hD hS hA (zb_cM_s_m) rfl hl.1 rfl (Nat.le_of_ble_eq_true rfl) dX2_whatIs_64 ⟨Nat.le_refl _, Nat.le_refl _⟩ (fun H locs hP hD hS => ?_)
              refine lv_aload_n hx hb dX2_whatIs_67 rfl (lv_at hl 1 rfl) ?_
              refine va_get (D := D) (ci := 2) (v := .ref (ad 2)) (C := RX2) (T := TX2) (N := 14) hx hb hts zi_X2_whatIs_X2 hown hK.1 hP 0 rfl rfl 1 (by decide) (hts _ zk_X2_whatIs_1) (fun _ h9 => h9) rfl dX2_whatIs_68 ?_
              refine lv_iload_n hx hb dX2_whatIs_71 rfl (lv_at hl 4 rfl) ?_
              refine lv_if_ne (tgt := 79) hx hb dX2_whatIs_72 (by decide) (fun c24 => ?_) (fun c24 => ?_)
              · replace h := it_f c24 h
                refine lv_bipush (v := (33 : Int32)) hx hb dX2_whatIs_79 (by decide) ?_
                refine lv_iload_n hx hb dX2_whatIs_81 rfl (lv_at hl 2 rfl) ?_
                refine lv_iadd hx hb dX2_whatIs_82 ?_
                refine lv_iload hx hb dX2_whatIs_83 (lv_at hl 6 rfl) ?_
                obtain ⟨h25, h⟩ := it_g h
                refine va_iast hx hb hK.1 hP hD hS 2 0 rfl rfl h25 dX2_whatIs_85 (fun H locs hP hD hS => ?_)
                have hP : va_P D zb_cl (zb_M cI ad m_s (upd n22 ((33 : Int32) + v1).toNatClampNeg x17) m_image m_was m_hasImage m_letters m_row m_refused m_letterMany m_rowMany m_place m_numbers m_cost m_seed) H := hP
                have hD : va_D A (zb_M cI ad m_s (upd n22 ((33 : Int32) + v1).toNatClampNeg x17) m_image m_was m_hasImage m_letters m_row m_refused m_letterMany m_rowMany m_place m_numbers m_cost m_seed) := hD
                refine lv_iconst (v := (0 : Int32)) hx hb dX2_whatIs_86 (by decide) ?_
                refine lv_istore (lv' := [(7, .int (0 : Int32)), (6, .int (1 : Int32)), (0, .ref (ad 0)), (1, .int v1), (2, .int v2), (3, .int v3), (4, .int x16), (5, .int x17)]) hx hb dX2_whatIs_87 hl (by decide) rfl (fun ls hl => ?_)
                have lp29 : ∀ (fu29 : Nat) (x26 : Int32) (x27 : Int32) (x28 : (Nat → Int32)) (H : Heap) (locs : List Loc) (hP : va_P D zb_cl (zb_M cI ad m_s x28 m_image m_was m_hasImage m_letters m_row m_refused m_letterMany m_rowMany m_place m_numbers m_cost m_seed) H) (hD : va_D A (zb_M cI ad m_s x28 m_image m_was m_hasImage m_letters m_row m_refused m_letterMany m_rowMany m_place m_numbers m_cost m_seed)) (hS : va_S A s.heap H locs) (ls : Array Slot) (hl : lv_has ls 8 [(0, .ref (ad 0)), (1, .int v1), (2, .int v2), (3, .int v3), (4, .int x16), (5, .int x17), (6, .int x26), (7, .int x27)]) (h : zl3 (zf_X2_whatIs_b89 (zl3 (zf_X2_whatIs_b37 v1 v2 v3 m_s m_row m_refused m_rowMany) fu10) v2 x16 x17 m_row m_rowMany) fu29 x26 x27 x28 = some (r0, w_m_m, w_m_refused)), W p l e rm_X2_whatIs s m args below meth c H locs 0 0 (zb_Q below D (some (.int r0)) (zb_M cI ad m_s w_m_m m_image m_was m_hasImage m_letters m_row w_m_refused m_letterMany m_rowMany m_place m_numbers m_cost m_seed) A args s) (F0 m 89 ls []) := by
                  intro fu29
                  induction fu29 with
                  | zero => intro x26 x27 x28 H locs hP hD hS ls hl h; exact zb_no h
                  | succ fu29 ih29 =>
                    intro x26 x27 x28 H locs hP hD hS ls hl h
                    replace h : zf_X2_whatIs_b89 (zl3 (zf_X2_whatIs_b37 v1 v2 v3 m_s m_row m_refused m_rowMany) fu10) v2 x16 x17 m_row m_rowMany (zl3 (zf_X2_whatIs_b89 (zl3 (zf_X2_whatIs_b37 v1 v2 v3 m_s m_row m_refused m_rowMany) fu10) v2 x16 x17 m_row m_rowMany) fu29) x26 x27 x28 = some (r0, w_m_m, w_m_refused) := h
                    unfold zf_X2_whatIs_b89 at h
                    refine lv_iload hx hb dX2_whatIs_89 (lv_at hl 7 rfl) ?_
                    refine lv_aload_n hx hb dX2_whatIs_91 rfl (lv_at hl 0 rfl) ?_
                    refine va_get (D := D) (ci := 2) (v := .int m_rowMany) (C := RX2) (T := TX2) (N := 14) hx hb hts zi_X2_whatIs_X2 hown hK.1 hP 0 rfl rfl 9 (by decide) (hts _ zk_X2_whatIs_2) (fun _ h9 => h9) rfl dX2_whatIs_92 ?_
                    refine lv_icmp_ge (tgt := 141) hx hb dX2_whatIs_95 (by decide) (fun c30 => ?_) (fun c30 => ?_)
                    · replace h := it_t c30 h
                      exact j141 x16 x17 x26 x28 _ _ hP hD hS ls (lv_sub hl [0, 1, 2, 3, 4, 5, 6] rfl) h
                    · replace h := it_f c30 h
                      refine lv_iload hx hb dX2_whatIs_98 (lv_at hl 6 rfl) ?_
                      refine lv_aload_n hx hb dX2_whatIs_100 rfl (lv_at hl 0 rfl) ?_
                      refine va_get (D := D) (ci := 2) (v := .ref (ad 2)) (C := RX2) (T := TX2) (N := 14) hx hb hts zi_X2_whatIs_X2 hown hK.1 hP 0 rfl rfl 1 (by decide) (hts _ zk_X2_whatIs_1) (fun _ h9 => h9) rfl dX2_whatIs_101 ?_
                      refine lv_iload_n hx hb dX2_whatIs_104 rfl (lv_at hl 2 rfl) ?_
                      refine lv_iconst (v := (0 : Int32)) hx hb dX2_whatIs_105 (by decide) ?_
                      obtain ⟨r31, g32, h⟩ := bo1 h
                      refine zb_callS (As := [.int v2, .int (0 : Int32)]) (rest := [.ref (ad 2), .int x26]) ⟨hx, hb, hml, hown, hts⟩ (zc_X2_of l D cI v2 (0 : Int32) r31 g32) (va_cwS 2 hts gX2_whatIs_X2_of rfl rfl rfl hd_X2_of.2 ⟨Nat.le_of_ble_eq_true rfl, Nat.le_of_ble_eq_true rfl⟩) hK hP hD hS hA (zb_none _) rfl hl.1 rfl (Nat.le_of_ble_eq_true rfl) dX2_whatIs_106 ⟨Nat.le_refl _, Nat.le_refl _⟩ (fun H locs hP hD hS => ?_)
                      obtain ⟨h33, h⟩ := it_g h
                      refine va_iald hx hb hK.1 hP 2 0 rfl rfl h33 dX2_whatIs_109 ?_
                      refine lv_aload_n hx hb dX2_whatIs_110 rfl (lv_at hl 0 rfl) ?_
                      refine va_get (D := D) (ci := 2) (v := .ref (ad 6)) (C := RX2) (T := TX2) (N := 14) hx hb hts zi_X2_whatIs_X2 hown hK.1 hP 0 rfl rfl 6 (by decide) (hts _ zk_X2_whatIs_3) (fun _ h9 => h9) rfl dX2_whatIs_111 ?_
                      refine lv_iload hx hb dX2_whatIs_114 (lv_at hl 7 rfl) ?_
                      obtain ⟨h34, h⟩ := it_g h
                      refine va_iald hx hb hK.1 hP 6 0 rfl rfl h34 dX2_whatIs_116 ?_
                      refine lv_icmp_ne (tgt := 124) hx hb dX2_whatIs_117 (by decide) (fun c35 => ?_) (fun c35 => ?_)
                      · replace h := it_f c35 h
                        refine lv_iconst (v := (0 : Int32)) hx hb dX2_whatIs_124 (by decide) ?_
                        refine lv_iand hx hb dX2_whatIs_125 ?_
                        refine lv_istore (lv' := [(6, .int (x26 &&& (0 : Int32))), (0, .ref (ad 0)), (1, .int v1), (2, .int v2), (3, .int v3), (4, .int x16), (5, .int x17), (7, .int x27)]) hx hb dX2_whatIs_126 hl (by decide) rfl (fun ls hl => ?_)
                        refine lv_aload_n hx hb dX2_whatIs_128 rfl (lv_at hl 1 rfl) ?_
                        refine va_get (D := D) (ci := 2) (v := .ref (ad 2)) (C := RX2) (T := TX2) (N := 14) hx hb hts zi_X2_whatIs_X2 hown hK.1 hP 0 rfl rfl 1 (by decide) (hts _ zk_X2_whatIs_1) (fun _ h9 => h9) rfl dX2_whatIs_129 ?_
                        obtain ⟨n36, g37, h⟩ := bo1 h
                        refine zb_callS (As := [.ref (ad 2)]) (rest := []) ⟨hx, hb, hml, hown, hts⟩ (zc_X2_step l D cI (ad 2) x28 n36 g37) (va_cwS 1 hts gX2_whatIs_X2_step rfl rfl rfl hd_X2_step.2 ⟨Nat.le_of_ble_eq_true rfl, Nat.le_of_ble_eq_true rfl⟩) hK hP hD hS hA (zb_cM_m) rfl hl.1 rfl (Nat.le_of_ble_eq_true rfl) dX2_whatIs_132 ⟨Nat.le_refl _, Nat.le_refl _⟩ (fun H locs hP hD hS => ?_)
                        refine lv_iinc (v := (x27 + (1 : Int32))) (lv' := [(7, .int (x27 + (1 : Int32))), (6, .int (x26 &&& (0 : Int32))), (0, .ref (ad 0)), (1, .int v1), (2, .int v2), (3, .int v3), (4, .int x16), (5, .int x17)]) hx hb dX2_whatIs_135 hl (k := 7) rfl (by first | rfl | decide) (by decide) rfl (fun ls hl => ?_)
                        refine lv_goto (tgt := 89) hx hb dX2_whatIs_138 (by decide) ?_
                        exact ih29 (x26 &&& (0 : Int32)) (x27 + (1 : Int32)) n36 _ _ hP hD hS ls (lv_sub hl [2, 3, 4, 5, 6, 7, 1, 0] rfl) h
                      · replace h := it_t c35 h
                        refine lv_iconst (v := (1 : Int32)) hx hb dX2_whatIs_120 (by decide) ?_
                        refine lv_goto (tgt := 125) hx hb dX2_whatIs_121 (by decide) ?_
                        refine lv_iand hx hb dX2_whatIs_125 ?_
                        refine lv_istore (lv' := [(6, .int (x26 &&& (1 : Int32))), (0, .ref (ad 0)), (1, .int v1), (2, .int v2), (3, .int v3), (4, .int x16), (5, .int x17), (7, .int x27)]) hx hb dX2_whatIs_126 hl (by decide) rfl (fun ls hl => ?_)
                        refine lv_aload_n hx hb dX2_whatIs_128 rfl (lv_at hl 1 rfl) ?_
                        refine va_get (D := D) (ci := 2) (v := .ref (ad 2)) (C := RX2) (T := TX2) (N := 14) hx hb hts zi_X2_whatIs_X2 hown hK.1 hP 0 rfl rfl 1 (by decide) (hts _ zk_X2_whatIs_1) (fun _ h9 => h9) rfl dX2_whatIs_129 ?_
                        obtain ⟨n38, g39, h⟩ := bo1 h
                        refine zb_callS (As := [.ref (ad 2)]) (rest := []) ⟨hx, hb, hml, hown, hts⟩ (zc_X2_step l D cI (ad 2) x28 n38 g39) (va_cwS 1 hts gX2_whatIs_X2_step rfl rfl rfl hd_X2_step.2 ⟨Nat.le_of_ble_eq_true rfl, Nat.le_of_ble_eq_true rfl⟩) hK hP hD hS hA (zb_cM_m) rfl hl.1 rfl (Nat.le_of_ble_eq_true rfl) dX2_whatIs_132 ⟨Nat.le_refl _, Nat.le_refl _⟩ (fun H locs hP hD hS => ?_)
                        refine lv_iinc (v := (x27 + (1 : Int32))) (lv' := [(7, .int (x27 + (1 : Int32))), (6, .int (x26 &&& (1 : Int32))), (0, .ref (ad 0)), (1, .int v1), (2, .int v2), (3, .int v3), (4, .int x16), (5, .int x17)]) hx hb dX2_whatIs_135 hl (k := 7) rfl (by first | rfl | decide) (by decide) rfl (fun ls hl => ?_)
                        refine lv_goto (tgt := 89) hx hb dX2_whatIs_138 (by decide) ?_
                        exact ih29 (x26 &&& (1 : Int32)) (x27 + (1 : Int32)) n38 _ _ hP hD hS ls (lv_sub hl [2, 3, 4, 5, 6, 7, 1, 0] rfl) h
                exact lp29 zb_FU (1 : Int32) (0 : Int32) (upd n22 ((33 : Int32) + v1).toNatClampNeg x17) _ _ hP hD hS ls (lv_sub hl [2, 3, 4, 5, 6, 7, 1, 0] rfl) h
              · replace h := it_t c24 h
                refine lv_iconst (v := (3 : Int32)) hx hb dX2_whatIs_75 (by decide) ?_
                refine lv_goto (tgt := 81) hx hb dX2_whatIs_76 (by decide) ?_
                refine lv_iload_n hx hb dX2_whatIs_81 rfl (lv_at hl 2 rfl) ?_
                refine lv_iadd hx hb dX2_whatIs_82 ?_
                refine lv_iload hx hb dX2_whatIs_83 (lv_at hl 6 rfl) ?_
                obtain ⟨h40, h⟩ := it_g h
                refine va_iast hx hb hK.1 hP hD hS 2 0 rfl rfl h40 dX2_whatIs_85 (fun H locs hP hD hS => ?_)
                have hP : va_P D zb_cl (zb_M cI ad m_s (upd n22 ((3 : Int32) + v1).toNatClampNeg x17) m_image m_was m_hasImage m_letters m_row m_refused m_letterMany m_rowMany m_place m_numbers m_cost m_seed) H := hP
                have hD : va_D A (zb_M cI ad m_s (upd n22 ((3 : Int32) + v1).toNatClampNeg x17) m_image m_was m_hasImage m_letters m_row m_refused m_letterMany m_rowMany m_place m_numbers m_cost m_seed) := hD
                refine lv_iconst (v := (0 : Int32)) hx hb dX2_whatIs_86 (by decide) ?_
                refine lv_istore (lv' := [(7, .int (0 : Int32)), (6, .int (1 : Int32)), (0, .ref (ad 0)), (1, .int v1), (2, .int v2), (3, .int v3), (4, .int x16), (5, .int x17)]) hx hb dX2_whatIs_87 hl (by decide) rfl (fun ls hl => ?_)
                have lp44 : ∀ (fu44 : Nat) (x41 : Int32) (x42 : Int32) (x43 : (Nat → Int32)) (H : Heap) (locs : List Loc) (hP : va_P D zb_cl (zb_M cI ad m_s x43 m_image m_was m_hasImage m_letters m_row m_refused m_letterMany m_rowMany m_place m_numbers m_cost m_seed) H) (hD : va_D A (zb_M cI ad m_s x43 m_image m_was m_hasImage m_letters m_row m_refused m_letterMany m_rowMany m_place m_numbers m_cost m_seed)) (hS : va_S A s.heap H locs) (ls : Array Slot) (hl : lv_has ls 8 [(0, .ref (ad 0)), (1, .int v1), (2, .int v2), (3, .int v3), (4, .int x16), (5, .int x17), (6, .int x41), (7, .int x42)]) (h : zl3 (zf_X2_whatIs_b89 (zl3 (zf_X2_whatIs_b37 v1 v2 v3 m_s m_row m_refused m_rowMany) fu10) v2 x16 x17 m_row m_rowMany) fu44 x41 x42 x43 = some (r0, w_m_m, w_m_refused)), W p l e rm_X2_whatIs s m args below meth c H locs 0 0 (zb_Q below D (some (.int r0)) (zb_M cI ad m_s w_m_m m_image m_was m_hasImage m_letters m_row w_m_refused m_letterMany m_rowMany m_place m_numbers m_cost m_seed) A args s) (F0 m 89 ls []) := by
                  intro fu44
                  induction fu44 with
                  | zero => intro x41 x42 x43 H locs hP hD hS ls hl h; exact zb_no h
                  | succ fu44 ih44 =>
                    intro x41 x42 x43 H locs hP hD hS ls hl h
                    replace h : zf_X2_whatIs_b89 (zl3 (zf_X2_whatIs_b37 v1 v2 v3 m_s m_row m_refused m_rowMany) fu10) v2 x16 x17 m_row m_rowMany (zl3 (zf_X2_whatIs_b89 (zl3 (zf_X2_whatIs_b37 v1 v2 v3 m_s m_row m_refused m_rowMany) fu10) v2 x16 x17 m_row m_rowMany) fu44) x41 x42 x43 = some (r0, w_m_m, w_m_refused) := h
                    unfold zf_X2_whatIs_b89 at h
                    refine lv_iload hx hb dX2_whatIs_89 (lv_at hl 7 rfl) ?_
                    refine lv_aload_n hx hb dX2_whatIs_91 rfl (lv_at hl 0 rfl) ?_
                    refine va_get (D := D) (ci := 2) (v := .int m_rowMany) (C := RX2) (T := TX2) (N := 14) hx hb hts zi_X2_whatIs_X2 hown hK.1 hP 0 rfl rfl 9 (by decide) (hts _ zk_X2_whatIs_2) (fun _ h9 => h9) rfl dX2_whatIs_92 ?_
                    refine lv_icmp_ge (tgt := 141) hx hb dX2_whatIs_95 (by decide) (fun c45 => ?_) (fun c45 => ?_)
                    · replace h := it_t c45 h
                      exact j141 x16 x17 x41 x43 _ _ hP hD hS ls (lv_sub hl [0, 1, 2, 3, 4, 5, 6] rfl) h
                    · replace h := it_f c45 h
                      refine lv_iload hx hb dX2_whatIs_98 (lv_at hl 6 rfl) ?_
                      refine lv_aload_n hx hb dX2_whatIs_100 rfl (lv_at hl 0 rfl) ?_
                      refine va_get (D := D) (ci := 2) (v := .ref (ad 2)) (C := RX2) (T := TX2) (N := 14) hx hb hts zi_X2_whatIs_X2 hown hK.1 hP 0 rfl rfl 1 (by decide) (hts _ zk_X2_whatIs_1) (fun _ h9 => h9) rfl dX2_whatIs_101 ?_
                      refine lv_iload_n hx hb dX2_whatIs_104 rfl (lv_at hl 2 rfl) ?_
                      refine lv_iconst (v := (0 : Int32)) hx hb dX2_whatIs_105 (by decide) ?_
                      obtain ⟨r46, g47, h⟩ := bo1 h
                      refine zb_callS (As := [.int v2, .int (0 : Int32)]) (rest := [.ref (ad 2), .int x41]) ⟨hx, hb, hml, hown, hts⟩ (zc_X2_of l D cI v2 (0 : Int32) r46 g47) (va_cwS 2 hts gX2_whatIs_X2_of rfl rfl rfl hd_X2_of.2 ⟨Nat.le_of_ble_eq_true rfl, Nat.le_of_ble_eq_true rfl⟩) hK hP hD hS hA (zb_none _) rfl hl.1 rfl (Nat.le_of_ble_eq_true rfl) dX2_whatIs_106 ⟨Nat.le_refl _, Nat.le_refl _⟩ (fun H locs hP hD hS => ?_)
                      obtain ⟨h48, h⟩ := it_g h
                      refine va_iald hx hb hK.1 hP 2 0 rfl rfl h48 dX2_whatIs_109 ?_
                      refine lv_aload_n hx hb dX2_whatIs_110 rfl (lv_at hl 0 rfl) ?_
                      refine va_get (D := D) (ci := 2) (v := .ref (ad 6)) (C := RX2) (T := TX2) (N := 14) hx hb hts zi_X2_whatIs_X2 hown hK.1 hP 0 rfl rfl 6 (by decide) (hts _ zk_X2_whatIs_3) (fun _ h9 => h9) rfl dX2_whatIs_111 ?_
                      refine lv_iload hx hb dX2_whatIs_114 (lv_at hl 7 rfl) ?_
                      obtain ⟨h49, h⟩ := it_g h
                      refine va_iald hx hb hK.1 hP 6 0 rfl rfl h49 dX2_whatIs_116 ?_
                      refine lv_icmp_ne (tgt := 124) hx hb dX2_whatIs_117 (by decide) (fun c50 => ?_) (fun c50 => ?_)
                      · replace h := it_f c50 h
                        refine lv_iconst (v := (0 : Int32)) hx hb dX2_whatIs_124 (by decide) ?_
                        refine lv_iand hx hb dX2_whatIs_125 ?_
                        refine lv_istore (lv' := [(6, .int (x41 &&& (0 : Int32))), (0, .ref (ad 0)), (1, .int v1), (2, .int v2), (3, .int v3), (4, .int x16), (5, .int x17), (7, .int x42)]) hx hb dX2_whatIs_126 hl (by decide) rfl (fun ls hl => ?_)
                        refine lv_aload_n hx hb dX2_whatIs_128 rfl (lv_at hl 1 rfl) ?_
                        refine va_get (D := D) (ci := 2) (v := .ref (ad 2)) (C := RX2) (T := TX2) (N := 14) hx hb hts zi_X2_whatIs_X2 hown hK.1 hP 0 rfl rfl 1 (by decide) (hts _ zk_X2_whatIs_1) (fun _ h9 => h9) rfl dX2_whatIs_129 ?_
                        obtain ⟨n51, g52, h⟩ := bo1 h
                        refine zb_callS (As := [.ref (ad 2)]) (rest := []) ⟨hx, hb, hml, hown, hts⟩ (zc_X2_step l D cI (ad 2) x43 n51 g52) (va_cwS 1 hts gX2_whatIs_X2_step rfl rfl rfl hd_X2_step.2 ⟨Nat.le_of_ble_eq_true rfl, Nat.le_of_ble_eq_true rfl⟩) hK hP hD hS hA (zb_cM_m) rfl hl.1 rfl (Nat.le_of_ble_eq_true rfl) dX2_whatIs_132 ⟨Nat.le_refl _, Nat.le_refl _⟩ (fun H locs hP hD hS => ?_)
                        refine lv_iinc (v := (x42 + (1 : Int32))) (lv' := [(7, .int (x42 + (1 : Int32))), (6, .int (x41 &&& (0 : Int32))), (0, .ref (ad 0)), (1, .int v1), (2, .int v2), (3, .int v3), (4, .int x16), (5, .int x17)]) hx hb dX2_whatIs_135 hl (k := 7) rfl (by first | rfl | decide) (by decide) rfl (fun ls hl => ?_)
                        refine lv_goto (tgt := 89) hx hb dX2_whatIs_138 (by decide) ?_
                        exact ih44 (x41 &&& (0 : Int32)) (x42 + (1 : Int32)) n51 _ _ hP hD hS ls (lv_sub hl [2, 3, 4, 5, 6, 7, 1, 0] rfl) h
                      · replace h := it_t c50 h
                        refine lv_iconst (v := (1 : Int32)) hx hb dX2_whatIs_120 (by decide) ?_
                        refine lv_goto (tgt := 125) hx hb dX2_whatIs_121 (by decide) ?_
                        refine lv_iand hx hb dX2_whatIs_125 ?_
                        refine lv_istore (lv' := [(6, .int (x41 &&& (1 : Int32))), (0, .ref (ad 0)), (1, .int v1), (2, .int v2), (3, .int v3), (4, .int x16), (5, .int x17), (7, .int x42)]) hx hb dX2_whatIs_126 hl (by decide) rfl (fun ls hl => ?_)
                        refine lv_aload_n hx hb dX2_whatIs_128 rfl (lv_at hl 1 rfl) ?_
                        refine va_get (D := D) (ci := 2) (v := .ref (ad 2)) (C := RX2) (T := TX2) (N := 14) hx hb hts zi_X2_whatIs_X2 hown hK.1 hP 0 rfl rfl 1 (by decide) (hts _ zk_X2_whatIs_1) (fun _ h9 => h9) rfl dX2_whatIs_129 ?_
                        obtain ⟨n53, g54, h⟩ := bo1 h
                        refine zb_callS (As := [.ref (ad 2)]) (rest := []) ⟨hx, hb, hml, hown, hts⟩ (zc_X2_step l D cI (ad 2) x43 n53 g54) (va_cwS 1 hts gX2_whatIs_X2_step rfl rfl rfl hd_X2_step.2 ⟨Nat.le_of_ble_eq_true rfl, Nat.le_of_ble_eq_true rfl⟩) hK hP hD hS hA (zb_cM_m) rfl hl.1 rfl (Nat.le_of_ble_eq_true rfl) dX2_whatIs_132 ⟨Nat.le_refl _, Nat.le_refl _⟩ (fun H locs hP hD hS => ?_)
                        refine lv_iinc (v := (x42 + (1 : Int32))) (lv' := [(7, .int (x42 + (1 : Int32))), (6, .int (x41 &&& (1 : Int32))), (0, .ref (ad 0)), (1, .int v1), (2, .int v2), (3, .int v3), (4, .int x16), (5, .int x17)]) hx hb dX2_whatIs_135 hl (k := 7) rfl (by first | rfl | decide) (by decide) rfl (fun ls hl => ?_)
                        refine lv_goto (tgt := 89) hx hb dX2_whatIs_138 (by decide) ?_
                        exact ih44 (x41 &&& (1 : Int32)) (x42 + (1 : Int32)) n53 _ _ hP hD hS ls (lv_sub hl [2, 3, 4, 5, 6, 7, 1, 0] rfl) h
                exact lp44 zb_FU (1 : Int32) (0 : Int32) (upd n22 ((3 : Int32) + v1).toNatClampNeg x17) _ _ hP hD hS ls (lv_sub hl [2, 3, 4, 5, 6, 7, 1, 0] rfl) h
          refine lv_iload hx hb dX2_whatIs_37 (lv_at hl 5 rfl) ?_
          refine lv_iload_n hx hb dX2_whatIs_39 rfl (lv_at hl 3 rfl) ?_
          refine lv_if_ne (tgt := 48) hx hb dX2_whatIs_40 (by decide) (fun c55 => ?_) (fun c55 => ?_)
          · replace h := it_f c55 h
            refine lv_bipush (v := (10 : Int32)) hx hb dX2_whatIs_48 (by decide) ?_
            exact j50 x7 x8 x8 (10 : Int32) x9 _ _ hP hD hS ls (lv_sub hl [0, 1, 2, 3, 4, 5] rfl) h
          · replace h := it_t c55 h
            refine lv_bipush (v := (6 : Int32)) hx hb dX2_whatIs_43 (by decide) ?_
            refine lv_goto (tgt := 50) hx hb dX2_whatIs_45 (by decide) ?_
            exact j50 x7 x8 x8 (6 : Int32) x9 _ _ hP hD hS ls (lv_sub hl [0, 1, 2, 3, 4, 5] rfl) h
      exact lp10 zb_FU (0 : Int32) (0 : Int32) m_m _ _ hP hD hS ls (lv_sub hl [2, 3, 4, 5, 1, 0] rfl) h
    · replace h := it_t c6 h
      refine lv_aload_n hx hb dX2_whatIs_24 rfl (lv_at hl 0 rfl) ?_
      refine lv_bipush (v := ((-2) : Int32)) hx hb dX2_whatIs_25 (by decide) ?_
      obtain ⟨r56, n57, g58, h⟩ := bo2 h
      refine zb_callV (As := [.int ((-2) : Int32)]) (rest := []) ⟨hx, hb, hml, hown, hts⟩ (zc_X2_no l D cI ad m_s m_m m_image m_was m_hasImage m_letters m_row m_refused m_letterMany m_rowMany m_place m_numbers m_cost m_seed ((-2) : Int32) r56 n57 g58) (cwV 1 hts gX2_whatIs_X2_no rfl rfl rfl hd_X2_no ⟨Nat.le_of_ble_eq_true rfl, Nat.le_of_ble_eq_true rfl⟩) hK hP hD hS hA (zb_sM) (q0 := 0) rfl rfl rfl hl.1 rfl (Nat.le_of_ble_eq_true rfl) dX2_whatIs_27 ⟨Nat.le_refl _, Nat.le_refl _⟩ (fun H locs hP hD hS => ?_)
      obtain ⟨rfl, rfl, rfl⟩ := re3 h
      exact zb_iret hx hb hr hlk hP hS dX2_whatIs_30
  · replace h := it_t c3 h
    refine lv_aload_n hx hb dX2_whatIs_9 rfl (lv_at hl 0 rfl) ?_
    refine lv_iconst (v := ((-1) : Int32)) hx hb dX2_whatIs_10 (by decide) ?_
    obtain ⟨r59, n60, g61, h⟩ := bo2 h
    refine zb_callV (As := [.int ((-1) : Int32)]) (rest := []) ⟨hx, hb, hml, hown, hts⟩ (zc_X2_no l D cI ad m_s m_m m_image m_was m_hasImage m_letters m_row m_refused m_letterMany m_rowMany m_place m_numbers m_cost m_seed ((-1) : Int32) r59 n60 g61) (cwV 1 hts gX2_whatIs_X2_no rfl rfl rfl hd_X2_no ⟨Nat.le_of_ble_eq_true rfl, Nat.le_of_ble_eq_true rfl⟩) hK hP hD hS hA (zb_sM) (q0 := 0) rfl rfl rfl hl.1 rfl (Nat.le_of_ble_eq_true rfl) dX2_whatIs_11 ⟨Nat.le_refl _, Nat.le_refl _⟩ (fun H locs hP hD hS => ?_)
    obtain ⟨rfl, rfl, rfl⟩ := re3 h
    exact zb_iret hx hb hr hlk hP hS dX2_whatIs_14
abbrev rm_X2_row : Room := { frames := 1, cells := 0, slots := 0, locals := 22 }
theorem hd_X2_row : yX2_row.cls = RX2 ∧ yX2_row.cls ≠ "java/lang/invoke/MethodHandle" ∧ yX2_row.cls ≠ "java/lang/invoke/VarHandle" ∧ (parseMethodDescriptor yX2_row.desc).map (fun d => d.parameters.length) = some 1 := by decide +kernel
theorem zi_X2_row_X2 : ∀ w ∈ wsX20, w ∈ wsX2_row := fun _ h => List.mem_cons_of_mem _ (List.mem_append_right _ h)
theorem zk_X2_row_0 : Cond.fieldLink RX2 213 "GroutingIsFollowedModel" "rowMany" "I" ∈ wsX2_row := by decide +kernel
theorem zk_X2_row_1 : Cond.fieldLink RX2 25 "GroutingIsFollowedModel" "row" "[I" ∈ wsX2_row := by decide +kernel
set_option maxHeartbeats 4000000 in
set_option maxRecDepth 100000 in
theorem zc_X2_row (l : Launch) (D : va_G) (cI : ClassId) (ad : Nat → Nat) (m_s : (Nat → Int32)) (m_m : (Nat → Int32)) (m_image : (Nat → Int32)) (m_was : (Nat → Int32)) (m_hasImage : Int32) (m_letters : (Nat → Int32)) (m_row : (Nat → Int32)) (m_refused : (Nat → Int32)) (m_letterMany : Int32) (m_rowMany : Int32) (m_place : Int32) (m_numbers : (Nat → Int32)) (m_cost : (Nat → Int32)) (m_seed : Int32) (v1 : Int32) (r0 : Int32) (w_m_row : (Nat → Int32)) (w_m_refused : (Nat → Int32)) (w_m_rowMany : Int32) (h : zf_X2_row m_row m_refused m_rowMany v1 = some (r0, w_m_row, w_m_refused, w_m_rowMany)) : Cn l D cI yX2_row wsX2_row rm_X2_row [.ref (ad 0), .int v1] (zb_M cI ad m_s m_m m_image m_was m_hasImage m_letters m_row m_refused m_letterMany m_rowMany m_place m_numbers m_cost m_seed) (some (.int r0)) (zb_M cI ad m_s m_m m_image m_was m_hasImage m_letters w_m_row w_m_refused m_letterMany w_m_rowMany m_place m_numbers m_cost m_seed) := by
  refine zb_ofW (cc := cX2_row) (maxL := 3) (ret := (some .int)) (by decide) rfl (Nat.le_of_ble_eq_true rfl) ?_
  intro p e s m args below meth c A ls hx hb hr hml hts hown hlk hK hP hD hA hl
  have hS : va_S A s.heap s.heap [] := va_S.rf
  have hl : lv_has ls 3 [(0, .ref (ad 0)), (1, .int v1)] := hl
  unfold zf_X2_row at h
  have j24 : ∀ (x1 : Int32) (x2 : (Nat → Int32)) (x3 : (Nat → Int32)) (x4 : Int32) (H : Heap) (locs : List Loc) (hP : va_P D zb_cl (zb_M cI ad m_s m_m m_image m_was m_hasImage m_letters x2 x3 m_letterMany x4 m_place m_numbers m_cost m_seed) H) (hD : va_D A (zb_M cI ad m_s m_m m_image m_was m_hasImage m_letters x2 x3 m_letterMany x4 m_place m_numbers m_cost m_seed)) (hS : va_S A s.heap H locs) (ls : Array Slot) (hl : lv_has ls 3 [(0, .ref (ad 0)), (1, .int v1), (2, .int x1)]) (h : zf_X2_row_j24 v1 x1 x2 x3 x4 = some (r0, w_m_row, w_m_refused, w_m_rowMany)), W p l e rm_X2_row s m args below meth c H locs 0 0 (zb_Q below D (some (.int r0)) (zb_M cI ad m_s m_m m_image m_was m_hasImage m_letters w_m_row w_m_refused m_letterMany w_m_rowMany m_place m_numbers m_cost m_seed) A args s) (F0 m 24 ls []) := by
    intro x1 x2 x3 x4 H locs hP hD hS ls hl h
    unfold zf_X2_row_j24 at h
    refine lv_iload_n hx hb dX2_row_24 rfl (lv_at hl 2 rfl) ?_
    refine lv_if_eq (tgt := 34) hx hb dX2_row_25 (by decide) (fun c5 => ?_) (fun c5 => ?_)
    · replace h := it_t c5 h
      refine lv_aload_n hx hb dX2_row_34 rfl (lv_at hl 0 rfl) ?_
      refine va_get (D := D) (ci := 2) (v := .ref (ad 6)) (C := RX2) (T := TX2) (N := 14) hx hb hts zi_X2_row_X2 hown hK.1 hP 0 rfl rfl 6 (by decide) (hts _ zk_X2_row_1) (fun _ h9 => h9) rfl dX2_row_35 ?_
      refine lv_aload_n hx hb dX2_row_38 rfl (lv_at hl 0 rfl) ?_
      refine va_get (D := D) (ci := 2) (v := .int x4) (C := RX2) (T := TX2) (N := 14) hx hb hts zi_X2_row_X2 hown hK.1 hP 0 rfl rfl 9 (by decide) (hts _ zk_X2_row_0) (fun _ h9 => h9) rfl dX2_row_39 ?_
      refine lv_iload_n hx hb dX2_row_42 rfl (lv_at hl 1 rfl) ?_
      obtain ⟨h6, h⟩ := it_g h
      refine va_iast hx hb hK.1 hP hD hS 6 0 rfl rfl h6 dX2_row_43 (fun H locs hP hD hS => ?_)
      have hP : va_P D zb_cl (zb_M cI ad m_s m_m m_image m_was m_hasImage m_letters (upd x2 x4.toNatClampNeg v1) x3 m_letterMany x4 m_place m_numbers m_cost m_seed) H := hP
      have hD : va_D A (zb_M cI ad m_s m_m m_image m_was m_hasImage m_letters (upd x2 x4.toNatClampNeg v1) x3 m_letterMany x4 m_place m_numbers m_cost m_seed) := hD
      refine lv_aload_n hx hb dX2_row_44 rfl (lv_at hl 0 rfl) ?_
      refine lv_dup hx hb dX2_row_45 rfl ?_
      refine va_get (D := D) (ci := 2) (v := .int x4) (C := RX2) (T := TX2) (N := 14) hx hb hts zi_X2_row_X2 hown hK.1 hP 0 rfl rfl 9 (by decide) (hts _ zk_X2_row_0) (fun _ h9 => h9) rfl dX2_row_46 ?_
      refine lv_iconst (v := (1 : Int32)) hx hb dX2_row_49 (by decide) ?_
      refine lv_iadd hx hb dX2_row_50 ?_
      refine va_put (D := D) (ci := 2) (v := .int (x4 + (1 : Int32))) (ty := .int) (C := RX2) (T := TX2) (N := 14) hx hb hts zi_X2_row_X2 tyX2 tyX2_ok nmX2 hown hK.1 hP hD hS 0 rfl rfl 9 (by decide) (hts _ zk_X2_row_0) (fun _ h9 => h9) rfl (by decide +kernel) rfl rfl (Nat.le_of_ble_eq_true rfl) dX2_row_51 (fun H locs hP hD hS => ?_)
      have hP : va_P D zb_cl (zb_M cI ad m_s m_m m_image m_was m_hasImage m_letters (upd x2 x4.toNatClampNeg v1) x3 m_letterMany (x4 + (1 : Int32)) m_place m_numbers m_cost m_seed) H := hP
      have hD : va_D A (zb_M cI ad m_s m_m m_image m_was m_hasImage m_letters (upd x2 x4.toNatClampNeg v1) x3 m_letterMany (x4 + (1 : Int32)) m_place m_numbers m_cost m_seed) := hD
      refine lv_aload_n hx hb dX2_row_54 rfl (lv_at hl 0 rfl) ?_
      refine va_get (D := D) (ci := 2) (v := .int (x4 + (1 : Int32))) (C := RX2) (T := TX2) (N := 14) hx hb hts zi_X2_row_X2 hown hK.1 hP 0 rfl rfl 9 (by decide) (hts _ zk_X2_row_0) (fun _ h9 => h9) rfl dX2_row_55 ?_
      obtain ⟨rfl, rfl, rfl, rfl⟩ := re4 h
      exact zb_iret hx hb hr hlk hP hS dX2_row_58
    · replace h := it_f c5 h
      refine lv_aload_n hx hb dX2_row_28 rfl (lv_at hl 0 rfl) ?_
      refine lv_iload_n hx hb dX2_row_29 rfl (lv_at hl 2 rfl) ?_
      obtain ⟨r7, n8, g9, h⟩ := bo2 h
      refine zb_callV (As := [.int x1]) (rest := []) ⟨hx, hb, hml, hown, hts⟩ (zc_X2_no l D cI ad m_s m_m m_image m_was m_hasImage m_letters x2 x3 m_letterMany x4 m_place m_numbers m_cost m_seed x1 r7 n8 g9) (cwV 1 hts gX2_row_X2_no rfl rfl rfl hd_X2_no ⟨Nat.le_of_ble_eq_true rfl, Nat.le_of_ble_eq_true rfl⟩) hK hP hD hS hA (zb_sM) (q0 := 0) rfl rfl rfl hl.1 rfl (Nat.le_of_ble_eq_true rfl) dX2_row_30 ⟨Nat.le_refl _, Nat.le_refl _⟩ (fun H locs hP hD hS => ?_)
      obtain ⟨rfl, rfl, rfl, rfl⟩ := re4 h
      exact zb_iret hx hb hr hlk hP hS dX2_row_33
  refine lv_iload_n hx hb dX2_row_0 rfl (lv_at hl 1 rfl) ?_
  refine lv_iconst (v := (0 : Int32)) hx hb dX2_row_1 (by decide) ?_
  refine lv_bipush (v := (99 : Int32)) hx hb dX2_row_2 (by decide) ?_
  obtain ⟨r10, g11, h⟩ := bo1 h
  refine zb_callS (As := [.int v1, .int (0 : Int32), .int (99 : Int32)]) (rest := []) ⟨hx, hb, hml, hown, hts⟩ (zc_X2_wrongBy l D cI v1 (0 : Int32) (99 : Int32) r10 g11) (va_cwS 3 hts gX2_row_X2_wrongBy rfl rfl rfl hd_X2_wrongBy.2 ⟨Nat.le_of_ble_eq_true rfl, Nat.le_of_ble_eq_true rfl⟩) hK hP hD hS hA (zb_none _) rfl hl.1 rfl (Nat.le_of_ble_eq_true rfl) dX2_row_4 ⟨Nat.le_refl _, Nat.le_refl _⟩ (fun H locs hP hD hS => ?_)
  refine lv_istore_n (lv' := [(2, .int r10), (0, .ref (ad 0)), (1, .int v1)]) hx hb dX2_row_7 rfl hl (by decide) rfl (fun ls hl => ?_)
  refine lv_iload_n hx hb dX2_row_8 rfl (lv_at hl 0 rfl) ?_
  refine lv_if_ne (tgt := 24) hx hb dX2_row_9 (by decide) (fun c12 => ?_) (fun c12 => ?_)
  · replace h := it_f c12 h
    exact j24 r10 m_row m_refused m_rowMany _ _ hP hD hS ls (lv_sub hl [1, 2, 0] rfl) h
  · replace h := it_t c12 h
    refine lv_aload_n hx hb dX2_row_12 rfl (lv_at hl 1 rfl) ?_
    refine va_get (D := D) (ci := 2) (v := .int m_rowMany) (C := RX2) (T := TX2) (N := 14) hx hb hts zi_X2_row_X2 hown hK.1 hP 0 rfl rfl 9 (by decide) (hts _ zk_X2_row_0) (fun _ h9 => h9) rfl dX2_row_13 ?_
    refine lv_bipush (v := (16 : Int32)) hx hb dX2_row_16 (by decide) ?_
    refine lv_icmp_ne (tgt := 24) hx hb dX2_row_18 (by decide) (fun c13 => ?_) (fun c13 => ?_)
    · replace h := it_f c13 h
      exact j24 r10 m_row m_refused m_rowMany _ _ hP hD hS ls (lv_sub hl [1, 2, 0] rfl) h
    · replace h := it_t c13 h
      refine lv_bipush (v := ((-6) : Int32)) hx hb dX2_row_21 (by decide) ?_
      refine lv_istore_n (lv' := [(2, .int ((-6) : Int32)), (0, .ref (ad 0)), (1, .int v1)]) hx hb dX2_row_23 rfl hl (by decide) rfl (fun ls hl => ?_)
      exact j24 ((-6) : Int32) m_row m_refused m_rowMany _ _ hP hD hS ls (lv_sub hl [1, 2, 0] rfl) h
abbrev rm_X2_judge : Room := { frames := 0, cells := 0, slots := 0, locals := 0 }
theorem hd_X2_judge : yX2_judge.cls = RX2 ∧ yX2_judge.cls ≠ "java/lang/invoke/MethodHandle" ∧ yX2_judge.cls ≠ "java/lang/invoke/VarHandle" ∧ (parseMethodDescriptor yX2_judge.desc).map (fun d => d.parameters.length) = some 0 := by decide +kernel
theorem zi_X2_judge_X2 : ∀ w ∈ wsX20, w ∈ wsX2_judge := fun _ h => List.mem_cons_of_mem _ (List.mem_append_right _ h)
theorem zk_X2_judge_0 : Cond.fieldLink RX2 213 "GroutingIsFollowedModel" "rowMany" "I" ∈ wsX2_judge := by decide +kernel
theorem zk_X2_judge_1 : Cond.fieldLink RX2 9 "GroutingIsFollowedModel" "s" "[I" ∈ wsX2_judge := by decide +kernel
theorem zk_X2_judge_2 : Cond.fieldLink RX2 25 "GroutingIsFollowedModel" "row" "[I" ∈ wsX2_judge := by decide +kernel
set_option maxHeartbeats 4000000 in
set_option maxRecDepth 100000 in
theorem zc_X2_judge (l : Launch) (D : va_G) (cI : ClassId) (ad : Nat → Nat) (m_s : (Nat → Int32)) (m_m : (Nat → Int32)) (m_image : (Nat → Int32)) (m_was : (Nat → Int32)) (m_hasImage : Int32) (m_letters : (Nat → Int32)) (m_row : (Nat → Int32)) (m_refused : (Nat → Int32)) (m_letterMany : Int32) (m_rowMany : Int32) (m_place : Int32) (m_numbers : (Nat → Int32)) (m_cost : (Nat → Int32)) (m_seed : Int32) (r0 : Int32) (w_m_rowMany : Int32) (h : zf_X2_judge m_s m_row m_rowMany = some (r0, w_m_rowMany)) : Cn l D cI yX2_judge wsX2_judge rm_X2_judge [.ref (ad 0)] (zb_M cI ad m_s m_m m_image m_was m_hasImage m_letters m_row m_refused m_letterMany m_rowMany m_place m_numbers m_cost m_seed) (some (.int r0)) (zb_M cI ad m_s m_m m_image m_was m_hasImage m_letters m_row m_refused m_letterMany w_m_rowMany m_place m_numbers m_cost m_seed) := by
  refine zb_ofW (cc := cX2_judge) (maxL := 3) (ret := (some .int)) (by decide) rfl (Nat.le_of_ble_eq_true rfl) ?_
  intro p e s m args below meth c A ls hx hb hr hml hts hown hlk hK hP hD hA hl
  have hS : va_S A s.heap s.heap [] := va_S.rf
  have hl : lv_has ls 3 [(0, .ref (ad 0))] := hl
  unfold zf_X2_judge at h
  refine lv_aload_n hx hb dX2_judge_0 rfl (lv_at hl 0 rfl) ?_
  refine va_get (D := D) (ci := 2) (v := .int m_rowMany) (C := RX2) (T := TX2) (N := 14) hx hb hts zi_X2_judge_X2 hown hK.1 hP 0 rfl rfl 9 (by decide) (hts _ zk_X2_judge_0) (fun _ h9 => h9) rfl dX2_judge_1 ?_
  refine lv_istore_n (lv' := [(1, .int m_rowMany), (0, .ref (ad 0))]) hx hb dX2_judge_4 rfl hl (by decide) rfl (fun ls hl => ?_)
  refine lv_aload_n hx hb dX2_judge_5 rfl (lv_at hl 1 rfl) ?_
  refine lv_iconst (v := (0 : Int32)) hx hb dX2_judge_6 (by decide) ?_
  refine va_put (D := D) (ci := 2) (v := .int (0 : Int32)) (ty := .int) (C := RX2) (T := TX2) (N := 14) hx hb hts zi_X2_judge_X2 tyX2 tyX2_ok nmX2 hown hK.1 hP hD hS 0 rfl rfl 9 (by decide) (hts _ zk_X2_judge_0) (fun _ h9 => h9) rfl (by decide +kernel) rfl rfl (Nat.le_of_ble_eq_true rfl) dX2_judge_7 (fun H locs hP hD hS => ?_)
  have hP : va_P D zb_cl (zb_M cI ad m_s m_m m_image m_was m_hasImage m_letters m_row m_refused m_letterMany (0 : Int32) m_place m_numbers m_cost m_seed) H := hP
  have hD : va_D A (zb_M cI ad m_s m_m m_image m_was m_hasImage m_letters m_row m_refused m_letterMany (0 : Int32) m_place m_numbers m_cost m_seed) := hD
  refine lv_iconst (v := (0 : Int32)) hx hb dX2_judge_10 (by decide) ?_
  refine lv_istore_n (lv' := [(2, .int (0 : Int32)), (1, .int m_rowMany), (0, .ref (ad 0))]) hx hb dX2_judge_11 rfl hl (by decide) rfl (fun ls hl => ?_)
  have lp2 : ∀ (fu2 : Nat) (x1 : Int32) (H : Heap) (locs : List Loc) (hP : va_P D zb_cl (zb_M cI ad m_s m_m m_image m_was m_hasImage m_letters m_row m_refused m_letterMany (0 : Int32) m_place m_numbers m_cost m_seed) H) (hD : va_D A (zb_M cI ad m_s m_m m_image m_was m_hasImage m_letters m_row m_refused m_letterMany (0 : Int32) m_place m_numbers m_cost m_seed)) (hS : va_S A s.heap H locs) (ls : Array Slot) (hl : lv_has ls 3 [(0, .ref (ad 0)), (1, .int m_rowMany), (2, .int x1)]) (h : zl1 (zf_X2_judge_b12 m_rowMany m_s m_row (0 : Int32)) fu2 x1 = some (r0, w_m_rowMany)), W p l e rm_X2_judge s m args below meth c H locs 0 0 (zb_Q below D (some (.int r0)) (zb_M cI ad m_s m_m m_image m_was m_hasImage m_letters m_row m_refused m_letterMany w_m_rowMany m_place m_numbers m_cost m_seed) A args s) (F0 m 12 ls []) := by
    intro fu2
    induction fu2 with
    | zero => intro x1 H locs hP hD hS ls hl h; exact zb_no h
    | succ fu2 ih2 =>
      intro x1 H locs hP hD hS ls hl h
      replace h : zf_X2_judge_b12 m_rowMany m_s m_row (0 : Int32) (zl1 (zf_X2_judge_b12 m_rowMany m_s m_row (0 : Int32)) fu2) x1 = some (r0, w_m_rowMany) := h
      unfold zf_X2_judge_b12 at h
      refine lv_iload_n hx hb dX2_judge_12 rfl (lv_at hl 2 rfl) ?_
      refine lv_iload_n hx hb dX2_judge_13 rfl (lv_at hl 1 rfl) ?_
      refine lv_icmp_ge (tgt := 43) hx hb dX2_judge_14 (by decide) (fun c3 => ?_) (fun c3 => ?_)
      · replace h := it_t c3 h
        refine lv_bipush (v := ((-9) : Int32)) hx hb dX2_judge_43 (by decide) ?_
        obtain ⟨rfl, rfl⟩ := re2 h
        exact zb_iret hx hb hr hlk hP hS dX2_judge_45
      · replace h := it_f c3 h
        refine lv_aload_n hx hb dX2_judge_17 rfl (lv_at hl 0 rfl) ?_
        refine va_get (D := D) (ci := 2) (v := .ref (ad 1)) (C := RX2) (T := TX2) (N := 14) hx hb hts zi_X2_judge_X2 hown hK.1 hP 0 rfl rfl 0 (by decide) (hts _ zk_X2_judge_1) (fun _ h9 => h9) rfl dX2_judge_18 ?_
        refine lv_bipush (v := (63 : Int32)) hx hb dX2_judge_21 (by decide) ?_
        refine lv_iload_n hx hb dX2_judge_23 rfl (lv_at hl 2 rfl) ?_
        refine lv_iadd hx hb dX2_judge_24 ?_
        obtain ⟨h4, h⟩ := it_g h
        refine va_iald hx hb hK.1 hP 1 0 rfl rfl h4 dX2_judge_25 ?_
        refine lv_aload_n hx hb dX2_judge_26 rfl (lv_at hl 0 rfl) ?_
        refine va_get (D := D) (ci := 2) (v := .ref (ad 6)) (C := RX2) (T := TX2) (N := 14) hx hb hts zi_X2_judge_X2 hown hK.1 hP 0 rfl rfl 6 (by decide) (hts _ zk_X2_judge_2) (fun _ h9 => h9) rfl dX2_judge_27 ?_
        refine lv_iload_n hx hb dX2_judge_30 rfl (lv_at hl 2 rfl) ?_
        obtain ⟨h5, h⟩ := it_g h
        refine va_iald hx hb hK.1 hP 6 0 rfl rfl h5 dX2_judge_31 ?_
        refine lv_icmp_eq (tgt := 37) hx hb dX2_judge_32 (by decide) (fun c6 => ?_) (fun c6 => ?_)
        · replace h := it_t c6 h
          refine lv_iinc (v := (x1 + (1 : Int32))) (lv' := [(2, .int (x1 + (1 : Int32))), (0, .ref (ad 0)), (1, .int m_rowMany)]) hx hb dX2_judge_37 hl (k := 2) rfl (by first | rfl | decide) (by decide) rfl (fun ls hl => ?_)
          refine lv_goto (tgt := 12) hx hb dX2_judge_40 (by decide) ?_
          exact ih2 (x1 + (1 : Int32)) _ _ hP hD hS ls (lv_sub hl [1, 2, 0] rfl) h
        · replace h := it_f c6 h
          refine lv_iload_n hx hb dX2_judge_35 rfl (lv_at hl 2 rfl) ?_
          obtain ⟨rfl, rfl⟩ := re2 h
          exact zb_iret hx hb hr hlk hP hS dX2_judge_36
  exact lp2 zb_FU (0 : Int32) _ _ hP hD hS ls (lv_sub hl [2, 1, 0] rfl) h
abbrev rm_X2_clear : Room := { frames := 0, cells := 0, slots := 0, locals := 0 }
theorem hd_X2_clear : yX2_clear.cls = RX2 ∧ yX2_clear.cls ≠ "java/lang/invoke/MethodHandle" ∧ yX2_clear.cls ≠ "java/lang/invoke/VarHandle" ∧ (parseMethodDescriptor yX2_clear.desc).map (fun d => d.parameters.length) = some 0 := by decide +kernel
theorem zi_X2_clear_X2 : ∀ w ∈ wsX20, w ∈ wsX2_clear := fun _ h => List.mem_cons_of_mem _ (List.mem_append_right _ h)
theorem zk_X2_clear_0 : Cond.fieldLink RX2 213 "GroutingIsFollowedModel" "rowMany" "I" ∈ wsX2_clear := by decide +kernel
set_option maxHeartbeats 4000000 in
set_option maxRecDepth 100000 in
theorem zc_X2_clear (l : Launch) (D : va_G) (cI : ClassId) (ad : Nat → Nat) (m_s : (Nat → Int32)) (m_m : (Nat → Int32)) (m_image : (Nat → Int32)) (m_was : (Nat → Int32)) (m_hasImage : Int32) (m_letters : (Nat → Int32)) (m_row : (Nat → Int32)) (m_refused : (Nat → Int32)) (m_letterMany : Int32) (m_rowMany : Int32) (m_place : Int32) (m_numbers : (Nat → Int32)) (m_cost : (Nat → Int32)) (m_seed : Int32) (r0 : Int32) (w_m_rowMany : Int32) (h : zf_X2_clear m_rowMany = some (r0, w_m_rowMany)) : Cn l D cI yX2_clear wsX2_clear rm_X2_clear [.ref (ad 0)] (zb_M cI ad m_s m_m m_image m_was m_hasImage m_letters m_row m_refused m_letterMany m_rowMany m_place m_numbers m_cost m_seed) (some (.int r0)) (zb_M cI ad m_s m_m m_image m_was m_hasImage m_letters m_row m_refused m_letterMany w_m_rowMany m_place m_numbers m_cost m_seed) := by
  refine zb_ofW (cc := cX2_clear) (maxL := 2) (ret := (some .int)) (by decide) rfl (Nat.le_of_ble_eq_true rfl) ?_
  intro p e s m args below meth c A ls hx hb hr hml hts hown hlk hK hP hD hA hl
  have hS : va_S A s.heap s.heap [] := va_S.rf
  have hl : lv_has ls 2 [(0, .ref (ad 0))] := hl
  unfold zf_X2_clear at h
  refine lv_aload_n hx hb dX2_clear_0 rfl (lv_at hl 0 rfl) ?_
  refine va_get (D := D) (ci := 2) (v := .int m_rowMany) (C := RX2) (T := TX2) (N := 14) hx hb hts zi_X2_clear_X2 hown hK.1 hP 0 rfl rfl 9 (by decide) (hts _ zk_X2_clear_0) (fun _ h9 => h9) rfl dX2_clear_1 ?_
  refine lv_istore_n (lv' := [(1, .int m_rowMany), (0, .ref (ad 0))]) hx hb dX2_clear_4 rfl hl (by decide) rfl (fun ls hl => ?_)
  refine lv_aload_n hx hb dX2_clear_5 rfl (lv_at hl 1 rfl) ?_
  refine lv_iconst (v := (0 : Int32)) hx hb dX2_clear_6 (by decide) ?_
  refine va_put (D := D) (ci := 2) (v := .int (0 : Int32)) (ty := .int) (C := RX2) (T := TX2) (N := 14) hx hb hts zi_X2_clear_X2 tyX2 tyX2_ok nmX2 hown hK.1 hP hD hS 0 rfl rfl 9 (by decide) (hts _ zk_X2_clear_0) (fun _ h9 => h9) rfl (by decide +kernel) rfl rfl (Nat.le_of_ble_eq_true rfl) dX2_clear_7 (fun H locs hP hD hS => ?_)
  have hP : va_P D zb_cl (zb_M cI ad m_s m_m m_image m_was m_hasImage m_letters m_row m_refused m_letterMany (0 : Int32) m_place m_numbers m_cost m_seed) H := hP
  have hD : va_D A (zb_M cI ad m_s m_m m_image m_was m_hasImage m_letters m_row m_refused m_letterMany (0 : Int32) m_place m_numbers m_cost m_seed) := hD
  refine lv_iload_n hx hb dX2_clear_10 rfl (lv_at hl 0 rfl) ?_
  obtain ⟨rfl, rfl⟩ := re2 h
  exact zb_iret hx hb hr hlk hP hS dX2_clear_11
abbrev rm_X2_drawn : Room := { frames := 0, cells := 0, slots := 0, locals := 0 }
theorem hd_X2_drawn : yX2_drawn.cls = RX2 ∧ yX2_drawn.cls ≠ "java/lang/invoke/MethodHandle" ∧ yX2_drawn.cls ≠ "java/lang/invoke/VarHandle" ∧ (parseMethodDescriptor yX2_drawn.desc).map (fun d => d.parameters.length) = some 1 := by decide +kernel
theorem zi_X2_drawn_X2 : ∀ w ∈ wsX20, w ∈ wsX2_drawn := fun _ h => List.mem_cons_of_mem _ (List.mem_append_right _ h)
theorem zk_X2_drawn_0 : Cond.fieldLink RX2 216 "GroutingIsFollowedModel" "seed" "I" ∈ wsX2_drawn := by decide +kernel
theorem zk_X2_drawn_1 : Cond.constant RX2 219 (1664525) ∈ wsX2_drawn := by decide +kernel
theorem zk_X2_drawn_2 : Cond.constant RX2 220 (1013904223) ∈ wsX2_drawn := by decide +kernel
theorem zk_X2_drawn_3 : Cond.constant RX2 221 (2147483647) ∈ wsX2_drawn := by decide +kernel
set_option maxHeartbeats 4000000 in
set_option maxRecDepth 100000 in
theorem zc_X2_drawn (l : Launch) (D : va_G) (cI : ClassId) (ad : Nat → Nat) (m_s : (Nat → Int32)) (m_m : (Nat → Int32)) (m_image : (Nat → Int32)) (m_was : (Nat → Int32)) (m_hasImage : Int32) (m_letters : (Nat → Int32)) (m_row : (Nat → Int32)) (m_refused : (Nat → Int32)) (m_letterMany : Int32) (m_rowMany : Int32) (m_place : Int32) (m_numbers : (Nat → Int32)) (m_cost : (Nat → Int32)) (m_seed : Int32) (v1 : Int32) (r0 : Int32) (w_m_seed : Int32) (h : zf_X2_drawn m_seed v1 = some (r0, w_m_seed)) : Cn l D cI yX2_drawn wsX2_drawn rm_X2_drawn [.ref (ad 0), .int v1] (zb_M cI ad m_s m_m m_image m_was m_hasImage m_letters m_row m_refused m_letterMany m_rowMany m_place m_numbers m_cost m_seed) (some (.int r0)) (zb_M cI ad m_s m_m m_image m_was m_hasImage m_letters m_row m_refused m_letterMany m_rowMany m_place m_numbers m_cost w_m_seed) := by
  refine zb_ofW (cc := cX2_drawn) (maxL := 2) (ret := (some .int)) (by decide) rfl (Nat.le_of_ble_eq_true rfl) ?_
  intro p e s m args below meth c A ls hx hb hr hml hts hown hlk hK hP hD hA hl
  have hS : va_S A s.heap s.heap [] := va_S.rf
  have hl : lv_has ls 2 [(0, .ref (ad 0)), (1, .int v1)] := hl
  unfold zf_X2_drawn at h
  refine lv_aload_n hx hb dX2_drawn_0 rfl (lv_at hl 0 rfl) ?_
  refine lv_aload_n hx hb dX2_drawn_1 rfl (lv_at hl 0 rfl) ?_
  refine va_get (D := D) (ci := 2) (v := .int m_seed) (C := RX2) (T := TX2) (N := 14) hx hb hts zi_X2_drawn_X2 hown hK.1 hP 0 rfl rfl 13 (by decide) (hts _ zk_X2_drawn_0) (fun _ h9 => h9) rfl dX2_drawn_2 ?_
  refine lv_ldc (v := (1664525 : Int32)) hx hb hown (hts _ zk_X2_drawn_1) dX2_drawn_5 ?_
  refine lv_imul hx hb dX2_drawn_7 ?_
  refine lv_ldc (v := (1013904223 : Int32)) hx hb hown (hts _ zk_X2_drawn_2) dX2_drawn_8 ?_
  refine lv_iadd hx hb dX2_drawn_10 ?_
  refine va_put (D := D) (ci := 2) (v := .int ((m_seed * (1664525 : Int32)) + (1013904223 : Int32))) (ty := .int) (C := RX2) (T := TX2) (N := 14) hx hb hts zi_X2_drawn_X2 tyX2 tyX2_ok nmX2 hown hK.1 hP hD hS 0 rfl rfl 13 (by decide) (hts _ zk_X2_drawn_0) (fun _ h9 => h9) rfl (by decide +kernel) rfl rfl (Nat.le_of_ble_eq_true rfl) dX2_drawn_11 (fun H locs hP hD hS => ?_)
  have hP : va_P D zb_cl (zb_M cI ad m_s m_m m_image m_was m_hasImage m_letters m_row m_refused m_letterMany m_rowMany m_place m_numbers m_cost ((m_seed * (1664525 : Int32)) + (1013904223 : Int32))) H := hP
  have hD : va_D A (zb_M cI ad m_s m_m m_image m_was m_hasImage m_letters m_row m_refused m_letterMany m_rowMany m_place m_numbers m_cost ((m_seed * (1664525 : Int32)) + (1013904223 : Int32))) := hD
  refine lv_aload_n hx hb dX2_drawn_14 rfl (lv_at hl 0 rfl) ?_
  refine va_get (D := D) (ci := 2) (v := .int ((m_seed * (1664525 : Int32)) + (1013904223 : Int32))) (C := RX2) (T := TX2) (N := 14) hx hb hts zi_X2_drawn_X2 hown hK.1 hP 0 rfl rfl 13 (by decide) (hts _ zk_X2_drawn_0) (fun _ h9 => h9) rfl dX2_drawn_15 ?_
  refine lv_ldc (v := (2147483647 : Int32)) hx hb hown (hts _ zk_X2_drawn_3) dX2_drawn_18 ?_
  refine lv_iand hx hb dX2_drawn_20 ?_
  refine lv_sipush (v := (256 : Int32)) hx hb dX2_drawn_21 (by decide) ?_
  refine lv_idiv hx hb dX2_drawn_24 (by decide) ?_
  refine lv_iload_n hx hb dX2_drawn_25 rfl (lv_at hl 1 rfl) ?_
  obtain ⟨h1, h⟩ := it_n h
  refine lv_irem hx hb dX2_drawn_26 h1 ?_
  obtain ⟨rfl, rfl⟩ := re2 h
  exact zb_iret hx hb hr hlk hP hS dX2_drawn_27
