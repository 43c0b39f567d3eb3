abbrev rm_X2_wall : Room := { frames := 6, cells := 0, slots := 0, locals := 136 }
theorem hd_X2_wall : yX2_wall.cls = RX2 ∧ yX2_wall.cls ≠ "java/lang/invoke/MethodHandle" ∧ yX2_wall.cls ≠ "java/lang/invoke/VarHandle" ∧ (parseMethodDescriptor yX2_wall.desc).map (fun d => d.parameters.length) = some 0 := by decide +kernel
theorem zi_X2_wall_X2 : ∀ w ∈ wsX20, w ∈ wsX2_wall := fun _ h => List.mem_cons_of_mem _ (List.mem_append_right _ h)
theorem zk_X2_wall_0 : Cond.fieldLink RX2 89 "GroutingIsFollowedModel" "place" "I" ∈ wsX2_wall := by decide +kernel
theorem zk_X2_wall_1 : Cond.fieldLink RX2 85 "GroutingIsFollowedModel" "letterMany" "I" ∈ wsX2_wall := by decide +kernel
theorem zk_X2_wall_2 : Cond.fieldLink RX2 9 "GroutingIsFollowedModel" "s" "[I" ∈ wsX2_wall := by decide +kernel
theorem zk_X2_wall_3 : Cond.fieldLink RX2 19 "GroutingIsFollowedModel" "was" "[I" ∈ wsX2_wall := by decide +kernel
set_option maxHeartbeats 4000000 in
set_option maxRecDepth 100000 in
theorem zc_X2_wall (l : Launch) (D : va_G) (cI : ClassId) (ad : Nat → Nat) (m_s : (Nat → Int32)) (m_m : (Nat → Int32)) (m_image : (Nat → Int32)) (m_was : (Nat → Int32)) (m_hasImage : Int32) (m_letters : (Nat → Int32)) (m_row : (Nat → Int32)) (m_refused : (Nat → Int32)) (m_letterMany : Int32) (m_rowMany : Int32) (m_place : Int32) (m_numbers : (Nat → Int32)) (m_cost : (Nat → Int32)) (m_seed : Int32) (r0 : Int32) (w_m_s : (Nat → Int32)) (w_m_was : (Nat → Int32)) (w_m_letterMany : Int32) (w_m_place : Int32) (w_m_numbers : (Nat → Int32)) (h : zf_X2_wall m_s m_was m_letters m_letterMany m_place m_numbers = some (r0, w_m_s, w_m_was, w_m_letterMany, w_m_place, w_m_numbers)) : Cn l D cI yX2_wall wsX2_wall rm_X2_wall [.ref (ad 0)] (zb_M cI ad m_s m_m m_image m_was m_hasImage m_letters m_row m_refused m_letterMany m_rowMany m_place m_numbers m_cost m_seed) (some (.int r0)) (zb_M cI ad w_m_s m_m m_image w_m_was m_hasImage m_letters m_row m_refused w_m_letterMany m_rowMany w_m_place w_m_numbers m_cost m_seed) := by
  refine zb_ofW (cc := cX2_wall) (maxL := 6) (ret := (some .int)) (by decide) rfl (Nat.le_of_ble_eq_true rfl) ?_
  intro p e s m args below meth c A ls hx hb hr hml hts hown hlk hK hP hD hA hl
  have hS : va_S A s.heap s.heap [] := va_S.rf
  have hl : lv_has ls 6 [(0, .ref (ad 0))] := hl
  unfold zf_X2_wall at h
  have j128 : ∀ (x1 : Int32) (x2 : Int32) (x3 : (Nat → Int32)) (x4 : (Nat → Int32)) (x5 : Int32) (x6 : Int32) (x7 : (Nat → Int32)) (H : Heap) (locs : List Loc) (hP : va_P D zb_cl (zb_M cI ad x3 m_m m_image x4 m_hasImage m_letters m_row m_refused x5 m_rowMany x6 x7 m_cost m_seed) H) (hD : va_D A (zb_M cI ad x3 m_m m_image x4 m_hasImage m_letters m_row m_refused x5 m_rowMany x6 x7 m_cost m_seed)) (hS : va_S A s.heap H locs) (ls : Array Slot) (hl : lv_has ls 6 [(0, .ref (ad 0)), (1, .int x1), (2, .int x2)]) (h : zf_X2_wall_j128 x1 x2 x3 x4 x6 x7 = some (r0, w_m_s, w_m_was, w_m_letterMany, w_m_place, w_m_numbers)), W p l e rm_X2_wall s m args below meth c H locs 0 0 (zb_Q below D (some (.int r0)) (zb_M cI ad w_m_s m_m m_image w_m_was m_hasImage m_letters m_row m_refused w_m_letterMany m_rowMany w_m_place w_m_numbers m_cost m_seed) A args s) (F0 m 128 ls []) := by
    intro x1 x2 x3 x4 x5 x6 x7 H locs hP hD hS ls hl h
    unfold zf_X2_wall_j128 at h
    refine lv_aload_n hx hb dX2_wall_128 rfl (lv_at hl 0 rfl) ?_
    refine lv_iconst (v := (0 : Int32)) hx hb dX2_wall_129 (by decide) ?_
    refine va_put (D := D) (ci := 2) (v := .int (0 : Int32)) (ty := .int) (C := RX2) (T := TX2) (N := 14) hx hb hts zi_X2_wall_X2 tyX2 tyX2_ok nmX2 hown hK.1 hP hD hS 0 rfl rfl 8 (by decide) (hts _ zk_X2_wall_1) (fun _ h9 => h9) rfl (by decide +kernel) rfl rfl (Nat.le_of_ble_eq_true rfl) dX2_wall_130 (fun H locs hP hD hS => ?_)
    have hP : va_P D zb_cl (zb_M cI ad x3 m_m m_image x4 m_hasImage m_letters m_row m_refused (0 : Int32) m_rowMany x6 x7 m_cost m_seed) H := hP
    have hD : va_D A (zb_M cI ad x3 m_m m_image x4 m_hasImage m_letters m_row m_refused (0 : Int32) m_rowMany x6 x7 m_cost m_seed) := hD
    refine lv_iload_n hx hb dX2_wall_133 rfl (lv_at hl 2 rfl) ?_
    refine lv_bipush (v := ((-9) : Int32)) hx hb dX2_wall_134 (by decide) ?_
    refine lv_icmp_ne (tgt := 143) hx hb dX2_wall_136 (by decide) (fun c8 => ?_) (fun c8 => ?_)
    · replace h := it_f c8 h
      refine lv_iload_n hx hb dX2_wall_143 rfl (lv_at hl 2 rfl) ?_
      obtain ⟨rfl, rfl, rfl, rfl, rfl, rfl⟩ := re6 h
      exact zb_iret hx hb hr hlk hP hS dX2_wall_144
    · replace h := it_t c8 h
      refine lv_iload_n hx hb dX2_wall_139 rfl (lv_at hl 1 rfl) ?_
      refine lv_goto (tgt := 144) hx hb dX2_wall_140 (by decide) ?_
      obtain ⟨rfl, rfl, rfl, rfl, rfl, rfl⟩ := re6 h
      exact zb_iret hx hb hr hlk hP hS dX2_wall_144
  have j46 : ∀ (x9 : Int32) (x10 : Int32) (x11 : (Nat → Int32)) (x12 : (Nat → Int32)) (x13 : Int32) (x14 : Int32) (x15 : (Nat → Int32)) (H : Heap) (locs : List Loc) (hP : va_P D zb_cl (zb_M cI ad x11 m_m m_image x12 m_hasImage m_letters m_row m_refused x13 m_rowMany x14 x15 m_cost m_seed) H) (hD : va_D A (zb_M cI ad x11 m_m m_image x12 m_hasImage m_letters m_row m_refused x13 m_rowMany x14 x15 m_cost m_seed)) (hS : va_S A s.heap H locs) (ls : Array Slot) (hl : lv_has ls 6 [(0, .ref (ad 0)), (1, .int x9), (2, .int x10)]) (h : zf_X2_wall_j46 x9 x10 x11 x12 m_letters x13 x15 = some (r0, w_m_s, w_m_was, w_m_letterMany, w_m_place, w_m_numbers)), W p l e rm_X2_wall s m args below meth c H locs 0 0 (zb_Q below D (some (.int r0)) (zb_M cI ad w_m_s m_m m_image w_m_was m_hasImage m_letters m_row m_refused w_m_letterMany m_rowMany w_m_place w_m_numbers m_cost m_seed) A args s) (F0 m 46 ls []) := by
    intro x9 x10 x11 x12 x13 x14 x15 H locs hP hD hS ls hl h
    unfold zf_X2_wall_j46 at h
    refine lv_aload_n hx hb dX2_wall_46 rfl (lv_at hl 0 rfl) ?_
    refine va_get (D := D) (ci := 2) (v := .ref (ad 1)) (C := RX2) (T := TX2) (N := 14) hx hb hts zi_X2_wall_X2 hown hK.1 hP 0 rfl rfl 0 (by decide) (hts _ zk_X2_wall_2) (fun _ h9 => h9) rfl dX2_wall_47 ?_
    refine lv_aload_n hx hb dX2_wall_50 rfl (lv_at hl 0 rfl) ?_
    refine va_get (D := D) (ci := 2) (v := .ref (ad 4)) (C := RX2) (T := TX2) (N := 14) hx hb hts zi_X2_wall_X2 hown hK.1 hP 0 rfl rfl 3 (by decide) (hts _ zk_X2_wall_3) (fun _ h9 => h9) rfl dX2_wall_51 ?_
    obtain ⟨n16, g17, h⟩ := bo1 h
    refine zb_callS (As := [.ref (ad 1), .ref (ad 4)]) (rest := []) ⟨hx, hb, hml, hown, hts⟩ (zc_X2_copies l D cI (ad 1) (ad 4) x11 x12 n16 g17) (va_cwS 2 hts gX2_wall_X2_copies rfl rfl rfl hd_X2_copies.2 ⟨Nat.le_of_ble_eq_true rfl, Nat.le_of_ble_eq_true rfl⟩) hK hP hD hS hA (zb_cM_s_was) rfl hl.1 rfl (Nat.le_of_ble_eq_true rfl) dX2_wall_54 ⟨Nat.le_refl _, Nat.le_refl _⟩ (fun H locs hP hD hS => ?_)
    refine lv_aload_n hx hb dX2_wall_57 rfl (lv_at hl 0 rfl) ?_
    refine lv_iconst (v := (0 : Int32)) hx hb dX2_wall_58 (by decide) ?_
    refine va_put (D := D) (ci := 2) (v := .int (0 : Int32)) (ty := .int) (C := RX2) (T := TX2) (N := 14) hx hb hts zi_X2_wall_X2 tyX2 tyX2_ok nmX2 hown hK.1 hP hD hS 0 rfl rfl 10 (by decide) (hts _ zk_X2_wall_0) (fun _ h9 => h9) rfl (by decide +kernel) rfl rfl (Nat.le_of_ble_eq_true rfl) dX2_wall_59 (fun H locs hP hD hS => ?_)
    have hP : va_P D zb_cl (zb_M cI ad x11 m_m m_image n16 m_hasImage m_letters m_row m_refused x13 m_rowMany (0 : Int32) x15 m_cost m_seed) H := hP
    have hD : va_D A (zb_M cI ad x11 m_m m_image n16 m_hasImage m_letters m_row m_refused x13 m_rowMany (0 : Int32) x15 m_cost m_seed) := hD
    have lp22 : ∀ (fu22 : Nat) (x18 : Int32) (x19 : (Nat → Int32)) (x20 : Int32) (x21 : (Nat → Int32)) (H : Heap) (locs : List Loc) (hP : va_P D zb_cl (zb_M cI ad x19 m_m m_image n16 m_hasImage m_letters m_row m_refused x13 m_rowMany x20 x21 m_cost m_seed) H) (hD : va_D A (zb_M cI ad x19 m_m m_image n16 m_hasImage m_letters m_row m_refused x13 m_rowMany x20 x21 m_cost m_seed)) (hS : va_S A s.heap H locs) (ls : Array Slot) (hl : lv_has ls 6 [(0, .ref (ad 0)), (1, .int x9), (2, .int x18)]) (h : zl4 (zf_X2_wall_b62 x9 n16 m_letters x13) fu22 x18 x19 x20 x21 = some (r0, w_m_s, w_m_was, w_m_letterMany, w_m_place, w_m_numbers)), W p l e rm_X2_wall s m args below meth c H locs 0 0 (zb_Q below D (some (.int r0)) (zb_M cI ad w_m_s m_m m_image w_m_was m_hasImage m_letters m_row m_refused w_m_letterMany m_rowMany w_m_place w_m_numbers m_cost m_seed) A args s) (F0 m 62 ls []) := by
      intro fu22
      induction fu22 with
      | zero => intro x18 x19 x20 x21 H locs hP hD hS ls hl h; exact zb_no h
      | succ fu22 ih22 =>
        intro x18 x19 x20 x21 H locs hP hD hS ls hl h
        replace h : zf_X2_wall_b62 x9 n16 m_letters x13 (zl4 (zf_X2_wall_b62 x9 n16 m_letters x13) fu22) x18 x19 x20 x21 = some (r0, w_m_s, w_m_was, w_m_letterMany, w_m_place, w_m_numbers) := h
        unfold zf_X2_wall_b62 at h
        refine lv_iload_n hx hb dX2_wall_62 rfl (lv_at hl 2 rfl) ?_
        refine lv_bipush (v := ((-9) : Int32)) hx hb dX2_wall_63 (by decide) ?_
        refine lv_icmp_ne (tgt := 128) hx hb dX2_wall_65 (by decide) (fun c23 => ?_) (fun c23 => ?_)
        · replace h := it_f c23 h
          exact j128 x9 x18 x19 n16 x13 x20 x21 _ _ hP hD hS ls (lv_sub hl [0, 1, 2] rfl) h
        · replace h := it_t c23 h
          refine lv_aload_n hx hb dX2_wall_68 rfl (lv_at hl 0 rfl) ?_
          refine va_get (D := D) (ci := 2) (v := .int x20) (C := RX2) (T := TX2) (N := 14) hx hb hts zi_X2_wall_X2 hown hK.1 hP 0 rfl rfl 10 (by decide) (hts _ zk_X2_wall_0) (fun _ h9 => h9) rfl dX2_wall_69 ?_
          refine lv_aload_n hx hb dX2_wall_72 rfl (lv_at hl 0 rfl) ?_
          refine va_get (D := D) (ci := 2) (v := .int x13) (C := RX2) (T := TX2) (N := 14) hx hb hts zi_X2_wall_X2 hown hK.1 hP 0 rfl rfl 8 (by decide) (hts _ zk_X2_wall_1) (fun _ h9 => h9) rfl dX2_wall_73 ?_
          refine lv_icmp_ge (tgt := 128) hx hb dX2_wall_76 (by decide) (fun c24 => ?_) (fun c24 => ?_)
          · replace h := it_t c24 h
            exact j128 x9 x18 x19 n16 x13 x20 x21 _ _ hP hD hS ls (lv_sub hl [0, 1, 2] rfl) h
          · replace h := it_f c24 h
            refine lv_aload_n hx hb dX2_wall_79 rfl (lv_at hl 0 rfl) ?_
            refine va_get (D := D) (ci := 2) (v := .int x20) (C := RX2) (T := TX2) (N := 14) hx hb hts zi_X2_wall_X2 hown hK.1 hP 0 rfl rfl 10 (by decide) (hts _ zk_X2_wall_0) (fun _ h9 => h9) rfl dX2_wall_80 ?_
            refine lv_istore_n (lv' := [(3, .int x20), (0, .ref (ad 0)), (1, .int x9), (2, .int x18)]) hx hb dX2_wall_83 rfl hl (by decide) rfl (fun ls hl => ?_)
            refine lv_aload_n hx hb dX2_wall_84 rfl (lv_at hl 1 rfl) ?_
            obtain ⟨r25, g26, h⟩ := bo1 h
            refine zb_callV (As := []) (rest := []) ⟨hx, hb, hml, hown, hts⟩ (zc_X2_here l D cI ad x19 m_m m_image n16 m_hasImage m_letters m_row m_refused x13 m_rowMany x20 x21 m_cost m_seed r25 g26) (cwV 0 hts gX2_wall_X2_here rfl rfl rfl hd_X2_here ⟨Nat.le_of_ble_eq_true rfl, Nat.le_of_ble_eq_true rfl⟩) hK hP hD hS hA (zb_sM) (q0 := 0) rfl rfl rfl hl.1 rfl (Nat.le_of_ble_eq_true rfl) dX2_wall_85 ⟨Nat.le_refl _, Nat.le_refl _⟩ (fun H locs hP hD hS => ?_)
            refine lv_istore (lv' := [(4, .int r25), (3, .int x20), (0, .ref (ad 0)), (1, .int x9), (2, .int x18)]) hx hb dX2_wall_88 hl (by decide) rfl (fun ls hl => ?_)
            refine lv_aload_n hx hb dX2_wall_90 rfl (lv_at hl 2 rfl) ?_
            obtain ⟨r27, n28, n29, g30, h⟩ := bo3 h
            refine zb_callV (As := []) (rest := []) ⟨hx, hb, hml, hown, hts⟩ (zc_X2_readsStatement l D cI ad x19 m_m m_image n16 m_hasImage m_letters m_row m_refused x13 m_rowMany x20 x21 m_cost m_seed r27 n28 n29 g30) (cwV 0 hts gX2_wall_X2_readsStatement rfl rfl rfl hd_X2_readsStatement ⟨Nat.le_of_ble_eq_true rfl, Nat.le_of_ble_eq_true rfl⟩) hK hP hD hS hA (zb_sM) (q0 := 0) rfl rfl rfl hl.1 rfl (Nat.le_of_ble_eq_true rfl) dX2_wall_91 ⟨Nat.le_refl _, Nat.le_refl _⟩ (fun H locs hP hD hS => ?_)
            refine lv_istore (lv' := [(5, .int r27), (4, .int r25), (3, .int x20), (0, .ref (ad 0)), (1, .int x9), (2, .int x18)]) hx hb dX2_wall_94 hl (by decide) rfl (fun ls hl => ?_)
            refine lv_aload_n hx hb dX2_wall_96 rfl (lv_at hl 3 rfl) ?_
            refine lv_iload hx hb dX2_wall_97 (lv_at hl 1 rfl) ?_
            obtain ⟨r31, n32, g33, h⟩ := bo2 h
            refine zb_callV (As := [.int r25]) (rest := []) ⟨hx, hb, hml, hown, hts⟩ (zc_X2_isDone l D cI ad x19 m_m m_image n16 m_hasImage m_letters m_row m_refused x13 m_rowMany n28 n29 m_cost m_seed r25 r31 n32 g33) (cwV 1 hts gX2_wall_X2_isDone rfl rfl rfl hd_X2_isDone ⟨Nat.le_of_ble_eq_true rfl, Nat.le_of_ble_eq_true rfl⟩) hK hP hD hS hA (zb_sM) (q0 := 0) rfl rfl rfl hl.1 rfl (Nat.le_of_ble_eq_true rfl) dX2_wall_99 ⟨Nat.le_refl _, Nat.le_refl _⟩ (fun H locs hP hD hS => ?_)
            refine lv_if_eq (tgt := 108) hx hb dX2_wall_102 (by decide) (fun c34 => ?_) (fun c34 => ?_)
            · replace h := it_t c34 h
              refine lv_sipush (v := ((-2000) : Int32)) hx hb dX2_wall_108 (by decide) ?_
              refine lv_iload_n hx hb dX2_wall_111 rfl (lv_at hl 2 rfl) ?_
              refine lv_isub hx hb dX2_wall_112 ?_
              refine lv_istore_n (lv' := [(2, .int (((-2000) : Int32) - x20)), (5, .int r27), (4, .int r25), (3, .int x20), (0, .ref (ad 0)), (1, .int x9)]) hx hb dX2_wall_113 rfl hl (by decide) rfl (fun ls hl => ?_)
              refine lv_aload_n hx hb dX2_wall_114 rfl (lv_at hl 4 rfl) ?_
              refine va_get (D := D) (ci := 2) (v := .ref (ad 4)) (C := RX2) (T := TX2) (N := 14) hx hb hts zi_X2_wall_X2 hown hK.1 hP 0 rfl rfl 3 (by decide) (hts _ zk_X2_wall_3) (fun _ h9 => h9) rfl dX2_wall_115 ?_
              refine lv_aload_n hx hb dX2_wall_118 rfl (lv_at hl 4 rfl) ?_
              refine va_get (D := D) (ci := 2) (v := .ref (ad 1)) (C := RX2) (T := TX2) (N := 14) hx hb hts zi_X2_wall_X2 hown hK.1 hP 0 rfl rfl 0 (by decide) (hts _ zk_X2_wall_2) (fun _ h9 => h9) rfl dX2_wall_119 ?_
              obtain ⟨n35, g36, h⟩ := bo1 h
              refine zb_callS (As := [.ref (ad 4), .ref (ad 1)]) (rest := []) ⟨hx, hb, hml, hown, hts⟩ (zc_X2_copies l D cI (ad 4) (ad 1) n16 n32 n35 g36) (va_cwS 2 hts gX2_wall_X2_copies rfl rfl rfl hd_X2_copies.2 ⟨Nat.le_of_ble_eq_true rfl, Nat.le_of_ble_eq_true rfl⟩) hK hP hD hS hA (zb_cM_was_s) rfl hl.1 rfl (Nat.le_of_ble_eq_true rfl) dX2_wall_122 ⟨Nat.le_refl _, Nat.le_refl _⟩ (fun H locs hP hD hS => ?_)
              refine lv_goto (tgt := 62) hx hb dX2_wall_125 (by decide) ?_
              exact ih22 (((-2000) : Int32) - x20) n35 n28 n29 _ _ hP hD hS ls (lv_sub hl [4, 5, 0] rfl) h
            · replace h := it_f c34 h
              refine lv_goto (tgt := 62) hx hb dX2_wall_105 (by decide) ?_
              exact ih22 x18 n32 n28 n29 _ _ hP hD hS ls (lv_sub hl [3, 4, 5] rfl) h
    exact lp22 zb_FU x10 x11 (0 : Int32) x15 _ _ hP hD hS ls (lv_sub hl [0, 1, 2] rfl) h
  refine lv_aload_n hx hb dX2_wall_0 rfl (lv_at hl 0 rfl) ?_
  refine lv_iconst (v := (0 : Int32)) hx hb dX2_wall_1 (by decide) ?_
  refine va_put (D := D) (ci := 2) (v := .int (0 : Int32)) (ty := .int) (C := RX2) (T := TX2) (N := 14) hx hb hts zi_X2_wall_X2 tyX2 tyX2_ok nmX2 hown hK.1 hP hD hS 0 rfl rfl 10 (by decide) (hts _ zk_X2_wall_0) (fun _ h9 => h9) rfl (by decide +kernel) rfl rfl (Nat.le_of_ble_eq_true rfl) dX2_wall_2 (fun H locs hP hD hS => ?_)
  have hP : va_P D zb_cl (zb_M cI ad m_s m_m m_image m_was m_hasImage m_letters m_row m_refused m_letterMany m_rowMany (0 : Int32) m_numbers m_cost m_seed) H := hP
  have hD : va_D A (zb_M cI ad m_s m_m m_image m_was m_hasImage m_letters m_row m_refused m_letterMany m_rowMany (0 : Int32) m_numbers m_cost m_seed) := hD
  refine lv_iconst (v := (0 : Int32)) hx hb dX2_wall_5 (by decide) ?_
  refine lv_istore_n (lv' := [(1, .int (0 : Int32)), (0, .ref (ad 0))]) hx hb dX2_wall_6 rfl hl (by decide) rfl (fun ls hl => ?_)
  refine lv_bipush (v := ((-9) : Int32)) hx hb dX2_wall_7 (by decide) ?_
  refine lv_istore_n (lv' := [(2, .int ((-9) : Int32)), (1, .int (0 : Int32)), (0, .ref (ad 0))]) hx hb dX2_wall_9 rfl hl (by decide) rfl (fun ls hl => ?_)
  have lp41 : ∀ (fu41 : Nat) (x37 : Int32) (x38 : Int32) (x39 : Int32) (x40 : (Nat → Int32)) (H : Heap) (locs : List Loc) (hP : va_P D zb_cl (zb_M cI ad m_s m_m m_image m_was m_hasImage m_letters m_row m_refused m_letterMany m_rowMany x39 x40 m_cost m_seed) H) (hD : va_D A (zb_M cI ad m_s m_m m_image m_was m_hasImage m_letters m_row m_refused m_letterMany m_rowMany x39 x40 m_cost m_seed)) (hS : va_S A s.heap H locs) (ls : Array Slot) (hl : lv_has ls 6 [(0, .ref (ad 0)), (1, .int x37), (2, .int x38)]) (h : zl4 (zf_X2_wall_b10 m_s m_was m_letters m_letterMany) fu41 x37 x38 x39 x40 = some (r0, w_m_s, w_m_was, w_m_letterMany, w_m_place, w_m_numbers)), W p l e rm_X2_wall s m args below meth c H locs 0 0 (zb_Q below D (some (.int r0)) (zb_M cI ad w_m_s m_m m_image w_m_was m_hasImage m_letters m_row m_refused w_m_letterMany m_rowMany w_m_place w_m_numbers m_cost m_seed) A args s) (F0 m 10 ls []) := by
    intro fu41
    induction fu41 with
    | zero => intro x37 x38 x39 x40 H locs hP hD hS ls hl h; exact zb_no h
    | succ fu41 ih41 =>
      intro x37 x38 x39 x40 H locs hP hD hS ls hl h
      replace h : zf_X2_wall_b10 m_s m_was m_letters m_letterMany (zl4 (zf_X2_wall_b10 m_s m_was m_letters m_letterMany) fu41) x37 x38 x39 x40 = some (r0, w_m_s, w_m_was, w_m_letterMany, w_m_place, w_m_numbers) := h
      unfold zf_X2_wall_b10 at h
      refine lv_aload_n hx hb dX2_wall_10 rfl (lv_at hl 0 rfl) ?_
      obtain ⟨r42, n43, n44, g45, h⟩ := bo3 h
      refine zb_callV (As := []) (rest := []) ⟨hx, hb, hml, hown, hts⟩ (zc_X2_readsStatement l D cI ad m_s m_m m_image m_was m_hasImage m_letters m_row m_refused m_letterMany m_rowMany x39 x40 m_cost m_seed r42 n43 n44 g45) (cwV 0 hts gX2_wall_X2_readsStatement rfl rfl rfl hd_X2_readsStatement ⟨Nat.le_of_ble_eq_true rfl, Nat.le_of_ble_eq_true rfl⟩) hK hP hD hS hA (zb_sM) (q0 := 0) rfl rfl rfl hl.1 rfl (Nat.le_of_ble_eq_true rfl) dX2_wall_11 ⟨Nat.le_refl _, Nat.le_refl _⟩ (fun H locs hP hD hS => ?_)
      refine lv_if_ne (tgt := 26) hx hb dX2_wall_14 (by decide) (fun c46 => ?_) (fun c46 => ?_)
      · replace h := it_f c46 h
        refine lv_iinc (v := (x37 + (1 : Int32))) (lv' := [(1, .int (x37 + (1 : Int32))), (0, .ref (ad 0)), (2, .int x38)]) hx hb dX2_wall_26 hl (k := 1) rfl (by first | rfl | decide) (by decide) rfl (fun ls hl => ?_)
        refine lv_iload_n hx hb dX2_wall_29 rfl (lv_at hl 2 rfl) ?_
        refine lv_bipush (v := ((-9) : Int32)) hx hb dX2_wall_30 (by decide) ?_
        refine lv_icmp_ne (tgt := 46) hx hb dX2_wall_32 (by decide) (fun c47 => ?_) (fun c47 => ?_)
        · replace h := it_f c47 h
          exact j46 (x37 + (1 : Int32)) x38 m_s m_was m_letterMany n43 n44 _ _ hP hD hS ls (lv_sub hl [1, 0, 2] rfl) h
        · replace h := it_t c47 h
          refine lv_aload_n hx hb dX2_wall_35 rfl (lv_at hl 1 rfl) ?_
          refine va_get (D := D) (ci := 2) (v := .int n43) (C := RX2) (T := TX2) (N := 14) hx hb hts zi_X2_wall_X2 hown hK.1 hP 0 rfl rfl 10 (by decide) (hts _ zk_X2_wall_0) (fun _ h9 => h9) rfl dX2_wall_36 ?_
          refine lv_aload_n hx hb dX2_wall_39 rfl (lv_at hl 1 rfl) ?_
          refine va_get (D := D) (ci := 2) (v := .int m_letterMany) (C := RX2) (T := TX2) (N := 14) hx hb hts zi_X2_wall_X2 hown hK.1 hP 0 rfl rfl 8 (by decide) (hts _ zk_X2_wall_1) (fun _ h9 => h9) rfl dX2_wall_40 ?_
          refine lv_icmp_lt (tgt := 10) hx hb dX2_wall_43 (by decide) (fun c48 => ?_) (fun c48 => ?_)
          · replace h := it_t c48 h
            exact ih41 (x37 + (1 : Int32)) x38 n43 n44 _ _ hP hD hS ls (lv_sub hl [1, 0, 2] rfl) h
          · replace h := it_f c48 h
            exact j46 (x37 + (1 : Int32)) x38 m_s m_was m_letterMany n43 n44 _ _ hP hD hS ls (lv_sub hl [1, 0, 2] rfl) h
      · replace h := it_t c46 h
        refine lv_sipush (v := ((-1000) : Int32)) hx hb dX2_wall_17 (by decide) ?_
        refine lv_aload_n hx hb dX2_wall_20 rfl (lv_at hl 0 rfl) ?_
        refine va_get (D := D) (ci := 2) (v := .int n43) (C := RX2) (T := TX2) (N := 14) hx hb hts zi_X2_wall_X2 hown hK.1 hP 0 rfl rfl 10 (by decide) (hts _ zk_X2_wall_0) (fun _ h9 => h9) rfl dX2_wall_21 ?_
        refine lv_isub hx hb dX2_wall_24 ?_
        refine lv_istore_n (lv' := [(2, .int (((-1000) : Int32) - n43)), (0, .ref (ad 0)), (1, .int x37)]) hx hb dX2_wall_25 rfl hl (by decide) rfl (fun ls hl => ?_)
        refine lv_iinc (v := (x37 + (1 : Int32))) (lv' := [(1, .int (x37 + (1 : Int32))), (2, .int (((-1000) : Int32) - n43)), (0, .ref (ad 0))]) hx hb dX2_wall_26 hl (k := 2) rfl (by first | rfl | decide) (by decide) rfl (fun ls hl => ?_)
        refine lv_iload_n hx hb dX2_wall_29 rfl (lv_at hl 1 rfl) ?_
        refine lv_bipush (v := ((-9) : Int32)) hx hb dX2_wall_30 (by decide) ?_
        refine lv_icmp_ne (tgt := 46) hx hb dX2_wall_32 (by decide) (fun c49 => ?_) (fun c49 => ?_)
        · replace h := it_f c49 h
          exact j46 (x37 + (1 : Int32)) (((-1000) : Int32) - n43) m_s m_was m_letterMany n43 n44 _ _ hP hD hS ls (lv_sub hl [2, 0, 1] rfl) h
        · replace h := it_t c49 h
          refine lv_aload_n hx hb dX2_wall_35 rfl (lv_at hl 2 rfl) ?_
          refine va_get (D := D) (ci := 2) (v := .int n43) (C := RX2) (T := TX2) (N := 14) hx hb hts zi_X2_wall_X2 hown hK.1 hP 0 rfl rfl 10 (by decide) (hts _ zk_X2_wall_0) (fun _ h9 => h9) rfl dX2_wall_36 ?_
          refine lv_aload_n hx hb dX2_wall_39 rfl (lv_at hl 2 rfl) ?_
          refine va_get (D := D) (ci := 2) (v := .int m_letterMany) (C := RX2) (T := TX2) (N := 14) hx hb hts zi_X2_wall_X2 hown hK.1 hP 0 rfl rfl 8 (by decide) (hts _ zk_X2_wall_1) (fun _ h9 => h9) rfl dX2_wall_40 ?_
          refine lv_icmp_lt (tgt := 10) hx hb dX2_wall_43 (by decide) (fun c50 => ?_) (fun c50 => ?_)
          · replace h := it_t c50 h
            exact ih41 (x37 + (1 : Int32)) (((-1000) : Int32) - n43) n43 n44 _ _ hP hD hS ls (lv_sub hl [2, 0, 1] rfl) h
          · replace h := it_f c50 h
            exact j46 (x37 + (1 : Int32)) (((-1000) : Int32) - n43) m_s m_was m_letterMany n43 n44 _ _ hP hD hS ls (lv_sub hl [2, 0, 1] rfl) h
  exact lp41 zb_FU (0 : Int32) ((-9) : Int32) (0 : Int32) m_numbers _ _ hP hD hS ls (lv_sub hl [2, 1, 0] rfl) h
abbrev rm_X2_node : Room := { frames := 2, cells := 0, slots := 0, locals := 42 }
theorem hd_X2_node : yX2_node.cls = RX2 ∧ yX2_node.cls ≠ "java/lang/invoke/MethodHandle" ∧ yX2_node.cls ≠ "java/lang/invoke/VarHandle" ∧ (parseMethodDescriptor yX2_node.desc).map (fun d => d.parameters.length) = some 2 := by decide +kernel
theorem zi_X2_node_X2 : ∀ w ∈ wsX20, w ∈ wsX2_node := fun _ h => List.mem_cons_of_mem _ (List.mem_append_right _ h)
theorem zk_X2_node_0 : Cond.fieldLink RX2 9 "GroutingIsFollowedModel" "s" "[I" ∈ wsX2_node := by decide +kernel
set_option maxHeartbeats 4000000 in
set_option maxRecDepth 100000 in
theorem zc_X2_node (l : Launch) (D : va_G) (cI : ClassId) (ad : Nat → Nat) (m_s : (Nat → Int32)) (m_m : (Nat → Int32)) (m_image : (Nat → Int32)) (m_was : (Nat → Int32)) (m_hasImage : Int32) (m_letters : (Nat → Int32)) (m_row : (Nat → Int32)) (m_refused : (Nat → Int32)) (m_letterMany : Int32) (m_rowMany : Int32) (m_place : Int32) (m_numbers : (Nat → Int32)) (m_cost : (Nat → Int32)) (m_seed : Int32) (v1 : Int32) (v2 : Int32) (r0 : Int32) (w_m_refused : (Nat → Int32)) (h : zf_X2_node m_s m_refused v1 v2 = some (r0, w_m_refused)) : Cn l D cI yX2_node wsX2_node rm_X2_node [.ref (ad 0), .int v1, .int v2] (zb_M cI ad m_s m_m m_image m_was m_hasImage m_letters m_row m_refused m_letterMany m_rowMany m_place m_numbers m_cost m_seed) (some (.int r0)) (zb_M cI ad m_s m_m m_image m_was m_hasImage m_letters m_row w_m_refused m_letterMany m_rowMany m_place m_numbers m_cost m_seed) := by
  refine zb_ofW (cc := cX2_node) (maxL := 3) (ret := (some .int)) (by decide) rfl (Nat.le_of_ble_eq_true rfl) ?_
  intro p e s m args below meth c A ls hx hb hr hml hts hown hlk hK hP hD hA hl
  have hS : va_S A s.heap s.heap [] := va_S.rf
  have hl : lv_has ls 3 [(0, .ref (ad 0)), (1, .int v1), (2, .int v2)] := hl
  unfold zf_X2_node at h
  refine lv_iload_n hx hb dX2_node_0 rfl (lv_at hl 1 rfl) ?_
  obtain ⟨r1, g2, h⟩ := bo1 h
  refine zb_callS (As := [.int v1]) (rest := []) ⟨hx, hb, hml, hown, hts⟩ (zc_X2_isNode l D cI v1 r1 g2) (va_cwS 1 hts gX2_node_X2_isNode rfl rfl rfl hd_X2_isNode.2 ⟨Nat.le_of_ble_eq_true rfl, Nat.le_of_ble_eq_true rfl⟩) hK hP hD hS hA (zb_none _) rfl hl.1 rfl (Nat.le_of_ble_eq_true rfl) dX2_node_1 ⟨Nat.le_refl _, Nat.le_refl _⟩ (fun H locs hP hD hS => ?_)
  refine lv_if_ne (tgt := 13) hx hb dX2_node_4 (by decide) (fun c3 => ?_) (fun c3 => ?_)
  · replace h := it_f c3 h
    refine lv_iload_n hx hb dX2_node_13 rfl (lv_at hl 2 rfl) ?_
    refine lv_if_ne (tgt := 28) hx hb dX2_node_14 (by decide) (fun c4 => ?_) (fun c4 => ?_)
    · replace h := it_f c4 h
      refine lv_iload_n hx hb dX2_node_28 rfl (lv_at hl 2 rfl) ?_
      refine lv_iconst (v := (1 : Int32)) hx hb dX2_node_29 (by decide) ?_
      refine lv_icmp_ne (tgt := 45) hx hb dX2_node_30 (by decide) (fun c5 => ?_) (fun c5 => ?_)
      · replace h := it_f c5 h
        refine lv_iload_n hx hb dX2_node_45 rfl (lv_at hl 2 rfl) ?_
        refine lv_iconst (v := (2 : Int32)) hx hb dX2_node_46 (by decide) ?_
        refine lv_icmp_ne (tgt := 62) hx hb dX2_node_47 (by decide) (fun c6 => ?_) (fun c6 => ?_)
        · replace h := it_f c6 h
          refine lv_aload_n hx hb dX2_node_62 rfl (lv_at hl 0 rfl) ?_
          refine lv_bipush (v := ((-2) : Int32)) hx hb dX2_node_63 (by decide) ?_
          obtain ⟨r7, n8, g9, h⟩ := bo2 h
          refine zb_callV (As := [.int ((-2) : Int32)]) (rest := []) ⟨hx, hb, hml, hown, hts⟩ (zc_X2_no l D cI ad m_s m_m m_image m_was m_hasImage m_letters m_row m_refused m_letterMany m_rowMany m_place m_numbers m_cost m_seed ((-2) : Int32) r7 n8 g9) (cwV 1 hts gX2_node_X2_no rfl rfl rfl hd_X2_no ⟨Nat.le_of_ble_eq_true rfl, Nat.le_of_ble_eq_true rfl⟩) hK hP hD hS hA (zb_sM) (q0 := 0) rfl rfl rfl hl.1 rfl (Nat.le_of_ble_eq_true rfl) dX2_node_65 ⟨Nat.le_refl _, Nat.le_refl _⟩ (fun H locs hP hD hS => ?_)
          obtain ⟨rfl, rfl⟩ := re2 h
          exact zb_iret hx hb hr hlk hP hS dX2_node_68
        · replace h := it_t c6 h
          refine lv_aload_n hx hb dX2_node_50 rfl (lv_at hl 0 rfl) ?_
          refine va_get (D := D) (ci := 2) (v := .ref (ad 1)) (C := RX2) (T := TX2) (N := 14) hx hb hts zi_X2_node_X2 hown hK.1 hP 0 rfl rfl 0 (by decide) (hts _ zk_X2_node_0) (fun _ h9 => h9) rfl dX2_node_51 ?_
          refine lv_bipush (v := (63 : Int32)) hx hb dX2_node_54 (by decide) ?_
          refine lv_iload_n hx hb dX2_node_56 rfl (lv_at hl 1 rfl) ?_
          refine lv_iadd hx hb dX2_node_57 ?_
          obtain ⟨h10, h⟩ := it_g h
          refine va_iald hx hb hK.1 hP 1 0 rfl rfl h10 dX2_node_58 ?_
          refine lv_goto (tgt := 68) hx hb dX2_node_59 (by decide) ?_
          obtain ⟨rfl, rfl⟩ := re2 h
          exact zb_iret hx hb hr hlk hP hS dX2_node_68
      · replace h := it_t c5 h
        refine lv_aload_n hx hb dX2_node_33 rfl (lv_at hl 0 rfl) ?_
        refine va_get (D := D) (ci := 2) (v := .ref (ad 1)) (C := RX2) (T := TX2) (N := 14) hx hb hts zi_X2_node_X2 hown hK.1 hP 0 rfl rfl 0 (by decide) (hts _ zk_X2_node_0) (fun _ h9 => h9) rfl dX2_node_34 ?_
        refine lv_bipush (v := (33 : Int32)) hx hb dX2_node_37 (by decide) ?_
        refine lv_iload_n hx hb dX2_node_39 rfl (lv_at hl 1 rfl) ?_
        refine lv_iadd hx hb dX2_node_40 ?_
        obtain ⟨h11, h⟩ := it_g h
        refine va_iald hx hb hK.1 hP 1 0 rfl rfl h11 dX2_node_41 ?_
        refine lv_goto (tgt := 68) hx hb dX2_node_42 (by decide) ?_
        obtain ⟨rfl, rfl⟩ := re2 h
        exact zb_iret hx hb hr hlk hP hS dX2_node_68
    · replace h := it_t c4 h
      refine lv_aload_n hx hb dX2_node_17 rfl (lv_at hl 0 rfl) ?_
      refine va_get (D := D) (ci := 2) (v := .ref (ad 1)) (C := RX2) (T := TX2) (N := 14) hx hb hts zi_X2_node_X2 hown hK.1 hP 0 rfl rfl 0 (by decide) (hts _ zk_X2_node_0) (fun _ h9 => h9) rfl dX2_node_18 ?_
      refine lv_iconst (v := (3 : Int32)) hx hb dX2_node_21 (by decide) ?_
      refine lv_iload_n hx hb dX2_node_22 rfl (lv_at hl 1 rfl) ?_
      refine lv_iadd hx hb dX2_node_23 ?_
      obtain ⟨h12, h⟩ := it_g h
      refine va_iald hx hb hK.1 hP 1 0 rfl rfl h12 dX2_node_24 ?_
      refine lv_goto (tgt := 68) hx hb dX2_node_25 (by decide) ?_
      obtain ⟨rfl, rfl⟩ := re2 h
      exact zb_iret hx hb hr hlk hP hS dX2_node_68
  · replace h := it_t c3 h
    refine lv_aload_n hx hb dX2_node_7 rfl (lv_at hl 0 rfl) ?_
    refine lv_iconst (v := ((-1) : Int32)) hx hb dX2_node_8 (by decide) ?_
    obtain ⟨r13, n14, g15, h⟩ := bo2 h
    refine zb_callV (As := [.int ((-1) : Int32)]) (rest := []) ⟨hx, hb, hml, hown, hts⟩ (zc_X2_no l D cI ad m_s m_m m_image m_was m_hasImage m_letters m_row m_refused m_letterMany m_rowMany m_place m_numbers m_cost m_seed ((-1) : Int32) r13 n14 g15) (cwV 1 hts gX2_node_X2_no rfl rfl rfl hd_X2_no ⟨Nat.le_of_ble_eq_true rfl, Nat.le_of_ble_eq_true rfl⟩) hK hP hD hS hA (zb_sM) (q0 := 0) rfl rfl rfl hl.1 rfl (Nat.le_of_ble_eq_true rfl) dX2_node_9 ⟨Nat.le_refl _, Nat.le_refl _⟩ (fun H locs hP hD hS => ?_)
    obtain ⟨rfl, rfl⟩ := re2 h
    exact zb_iret hx hb hr hlk hP hS dX2_node_12
abbrev rm_X2_person : Room := { frames := 2, cells := 0, slots := 0, locals := 46 }
theorem hd_X2_person : yX2_person.cls = RX2 ∧ yX2_person.cls ≠ "java/lang/invoke/MethodHandle" ∧ yX2_person.cls ≠ "java/lang/invoke/VarHandle" ∧ (parseMethodDescriptor yX2_person.desc).map (fun d => d.parameters.length) = some 2 := by decide +kernel
theorem zi_X2_person_X2 : ∀ w ∈ wsX20, w ∈ wsX2_person := fun _ h => List.mem_cons_of_mem _ (List.mem_append_right _ h)
theorem zk_X2_person_0 : Cond.fieldLink RX2 9 "GroutingIsFollowedModel" "s" "[I" ∈ wsX2_person := by decide +kernel
set_option maxHeartbeats 4000000 in
set_option maxRecDepth 100000 in
theorem zc_X2_person (l : Launch) (D : va_G) (cI : ClassId) (ad : Nat → Nat) (m_s : (Nat → Int32)) (m_m : (Nat → Int32)) (m_image : (Nat → Int32)) (m_was : (Nat → Int32)) (m_hasImage : Int32) (m_letters : (Nat → Int32)) (m_row : (Nat → Int32)) (m_refused : (Nat → Int32)) (m_letterMany : Int32) (m_rowMany : Int32) (m_place : Int32) (m_numbers : (Nat → Int32)) (m_cost : (Nat → Int32)) (m_seed : Int32) (v1 : Int32) (v2 : Int32) (r0 : Int32) (w_m_refused : (Nat → Int32)) (h : zf_X2_person m_s m_refused v1 v2 = some (r0, w_m_refused)) : Cn l D cI yX2_person wsX2_person rm_X2_person [.ref (ad 0), .int v1, .int v2] (zb_M cI ad m_s m_m m_image m_was m_hasImage m_letters m_row m_refused m_letterMany m_rowMany m_place m_numbers m_cost m_seed) (some (.int r0)) (zb_M cI ad m_s m_m m_image m_was m_hasImage m_letters m_row w_m_refused m_letterMany m_rowMany m_place m_numbers m_cost m_seed) := by
  refine zb_ofW (cc := cX2_person) (maxL := 3) (ret := (some .int)) (by decide) rfl (Nat.le_of_ble_eq_true rfl) ?_
  intro p e s m args below meth c A ls hx hb hr hml hts hown hlk hK hP hD hA hl
  have hS : va_S A s.heap s.heap [] := va_S.rf
  have hl : lv_has ls 3 [(0, .ref (ad 0)), (1, .int v1), (2, .int v2)] := hl
  unfold zf_X2_person at h
  refine lv_aload_n hx hb dX2_person_0 rfl (lv_at hl 0 rfl) ?_
  refine lv_iload_n hx hb dX2_person_1 rfl (lv_at hl 1 rfl) ?_
  obtain ⟨r1, g2, h⟩ := bo1 h
  refine zb_callV (As := [.int v1]) (rest := []) ⟨hx, hb, hml, hown, hts⟩ (zc_X2_isPerson l D cI ad m_s m_m m_image m_was m_hasImage m_letters m_row m_refused m_letterMany m_rowMany m_place m_numbers m_cost m_seed v1 r1 g2) (cwV 1 hts gX2_person_X2_isPerson rfl rfl rfl hd_X2_isPerson ⟨Nat.le_of_ble_eq_true rfl, Nat.le_of_ble_eq_true rfl⟩) hK hP hD hS hA (zb_sM) (q0 := 0) rfl rfl rfl hl.1 rfl (Nat.le_of_ble_eq_true rfl) dX2_person_2 ⟨Nat.le_refl _, Nat.le_refl _⟩ (fun H locs hP hD hS => ?_)
  refine lv_if_ne (tgt := 14) hx hb dX2_person_5 (by decide) (fun c3 => ?_) (fun c3 => ?_)
  · replace h := it_f c3 h
    refine lv_iload_n hx hb dX2_person_14 rfl (lv_at hl 2 rfl) ?_
    refine lv_iconst (v := (0 : Int32)) hx hb dX2_person_15 (by decide) ?_
    refine lv_iconst (v := (2 : Int32)) hx hb dX2_person_16 (by decide) ?_
    obtain ⟨r4, g5, h⟩ := bo1 h
    refine zb_callS (As := [.int v2, .int (0 : Int32), .int (2 : Int32)]) (rest := []) ⟨hx, hb, hml, hown, hts⟩ (zc_X2_isIn l D cI v2 (0 : Int32) (2 : Int32) r4 g5) (va_cwS 3 hts gX2_person_X2_isIn rfl rfl rfl hd_X2_isIn.2 ⟨Nat.le_of_ble_eq_true rfl, Nat.le_of_ble_eq_true rfl⟩) hK hP hD hS hA (zb_none _) rfl hl.1 rfl (Nat.le_of_ble_eq_true rfl) dX2_person_17 ⟨Nat.le_refl _, Nat.le_refl _⟩ (fun H locs hP hD hS => ?_)
    refine lv_if_eq (tgt := 34) hx hb dX2_person_20 (by decide) (fun c6 => ?_) (fun c6 => ?_)
    · replace h := it_t c6 h
      refine lv_iload_n hx hb dX2_person_34 rfl (lv_at hl 2 rfl) ?_
      refine lv_iconst (v := (3 : Int32)) hx hb dX2_person_35 (by decide) ?_
      refine lv_icmp_eq (tgt := 46) hx hb dX2_person_36 (by decide) (fun c7 => ?_) (fun c7 => ?_)
      · replace h := it_t c7 h
        refine lv_aload_n hx hb dX2_person_46 rfl (lv_at hl 0 rfl) ?_
        refine va_get (D := D) (ci := 2) (v := .ref (ad 1)) (C := RX2) (T := TX2) (N := 14) hx hb hts zi_X2_person_X2 hown hK.1 hP 0 rfl rfl 0 (by decide) (hts _ zk_X2_person_0) (fun _ h9 => h9) rfl dX2_person_47 ?_
        refine lv_aload_n hx hb dX2_person_50 rfl (lv_at hl 0 rfl) ?_
        refine va_get (D := D) (ci := 2) (v := .ref (ad 1)) (C := RX2) (T := TX2) (N := 14) hx hb hts zi_X2_person_X2 hown hK.1 hP 0 rfl rfl 0 (by decide) (hts _ zk_X2_person_0) (fun _ h9 => h9) rfl dX2_person_51 ?_
        refine lv_iload_n hx hb dX2_person_54 rfl (lv_at hl 1 rfl) ?_
        refine lv_iconst (v := (0 : Int32)) hx hb dX2_person_55 (by decide) ?_
        obtain ⟨r8, g9, h⟩ := bo1 h
        refine zb_callS (As := [.int v1, .int (0 : Int32)]) (rest := [.ref (ad 1), .ref (ad 1)]) ⟨hx, hb, hml, hown, hts⟩ (zc_X2_of l D cI v1 (0 : Int32) r8 g9) (va_cwS 2 hts gX2_person_X2_of rfl rfl rfl hd_X2_of.2 ⟨Nat.le_of_ble_eq_true rfl, Nat.le_of_ble_eq_true rfl⟩) hK hP hD hS hA (zb_none _) rfl hl.1 rfl (Nat.le_of_ble_eq_true rfl) dX2_person_56 ⟨Nat.le_refl _, Nat.le_refl _⟩ (fun H locs hP hD hS => ?_)
        obtain ⟨h10, h⟩ := it_g h
        refine va_iald hx hb hK.1 hP 1 0 rfl rfl h10 dX2_person_59 ?_
        obtain ⟨r11, g12, h⟩ := bo1 h
        refine zb_callS (As := [.ref (ad 1), .int (m_s r8.toNatClampNeg)]) (rest := []) ⟨hx, hb, hml, hown, hts⟩ (zc_X2_isDry l D cI (ad 1) m_s (m_s r8.toNatClampNeg) r11 g12) (va_cwS 2 hts gX2_person_X2_isDry rfl rfl rfl hd_X2_isDry.2 ⟨Nat.le_of_ble_eq_true rfl, Nat.le_of_ble_eq_true rfl⟩) hK hP hD hS hA (zb_cM_s) rfl hl.1 rfl (Nat.le_of_ble_eq_true rfl) dX2_person_60 ⟨Nat.le_refl _, Nat.le_refl _⟩ (fun H locs hP hD hS => ?_)
        refine lv_if_eq (tgt := 71) hx hb dX2_person_63 (by decide) (fun c13 => ?_) (fun c13 => ?_)
        · replace h := it_t c13 h
          refine lv_aload_n hx hb dX2_person_71 rfl (lv_at hl 0 rfl) ?_
          refine va_get (D := D) (ci := 2) (v := .ref (ad 1)) (C := RX2) (T := TX2) (N := 14) hx hb hts zi_X2_person_X2 hown hK.1 hP 0 rfl rfl 0 (by decide) (hts _ zk_X2_person_0) (fun _ h9 => h9) rfl dX2_person_72 ?_
          refine lv_iload_n hx hb dX2_person_75 rfl (lv_at hl 1 rfl) ?_
          refine lv_aload_n hx hb dX2_person_76 rfl (lv_at hl 0 rfl) ?_
          refine va_get (D := D) (ci := 2) (v := .ref (ad 1)) (C := RX2) (T := TX2) (N := 14) hx hb hts zi_X2_person_X2 hown hK.1 hP 0 rfl rfl 0 (by decide) (hts _ zk_X2_person_0) (fun _ h9 => h9) rfl dX2_person_77 ?_
          refine lv_iconst (v := (1 : Int32)) hx hb dX2_person_80 (by decide) ?_
          refine va_iald hx hb hK.1 hP 1 0 rfl rfl (vl_in (by decide)) dX2_person_81 ?_
          refine lv_iconst (v := (1 : Int32)) hx hb dX2_person_82 (by decide) ?_
          refine lv_iadd hx hb dX2_person_83 ?_
          obtain ⟨r14, g15, h⟩ := bo1 h
          refine zb_callS (As := [.ref (ad 1), .int v1, .int ((m_s (1 : Int32).toNatClampNeg) + (1 : Int32))]) (rest := []) ⟨hx, hb, hml, hown, hts⟩ (zc_X2_wayOf l D cI (ad 1) m_s v1 ((m_s (1 : Int32).toNatClampNeg) + (1 : Int32)) r14 g15) (va_cwS 3 hts gX2_person_X2_wayOf rfl rfl rfl hd_X2_wayOf.2 ⟨Nat.le_of_ble_eq_true rfl, Nat.le_of_ble_eq_true rfl⟩) hK hP hD hS hA (zb_cM_s) rfl hl.1 rfl (Nat.le_of_ble_eq_true rfl) dX2_person_84 ⟨Nat.le_refl _, Nat.le_refl _⟩ (fun H locs hP hD hS => ?_)
          obtain ⟨rfl, rfl⟩ := re2 h
          exact zb_iret hx hb hr hlk hP hS dX2_person_87
        · replace h := it_f c13 h
          refine lv_bipush (v := ((-9) : Int32)) hx hb dX2_person_66 (by decide) ?_
          refine lv_goto (tgt := 87) hx hb dX2_person_68 (by decide) ?_
          obtain ⟨rfl, rfl⟩ := re2 h
          exact zb_iret hx hb hr hlk hP hS dX2_person_87
      · replace h := it_f c7 h
        refine lv_aload_n hx hb dX2_person_39 rfl (lv_at hl 0 rfl) ?_
        refine lv_bipush (v := ((-2) : Int32)) hx hb dX2_person_40 (by decide) ?_
        obtain ⟨r16, n17, g18, h⟩ := bo2 h
        refine zb_callV (As := [.int ((-2) : Int32)]) (rest := []) ⟨hx, hb, hml, hown, hts⟩ (zc_X2_no l D cI ad m_s m_m m_image m_was m_hasImage m_letters m_row m_refused m_letterMany m_rowMany m_place m_numbers m_cost m_seed ((-2) : Int32) r16 n17 g18) (cwV 1 hts gX2_person_X2_no rfl rfl rfl hd_X2_no ⟨Nat.le_of_ble_eq_true rfl, Nat.le_of_ble_eq_true rfl⟩) hK hP hD hS hA (zb_sM) (q0 := 0) rfl rfl rfl hl.1 rfl (Nat.le_of_ble_eq_true rfl) dX2_person_42 ⟨Nat.le_refl _, Nat.le_refl _⟩ (fun H locs hP hD hS => ?_)
        obtain ⟨rfl, rfl⟩ := re2 h
        exact zb_iret hx hb hr hlk hP hS dX2_person_45
    · replace h := it_f c6 h
      refine lv_aload_n hx hb dX2_person_23 rfl (lv_at hl 0 rfl) ?_
      refine va_get (D := D) (ci := 2) (v := .ref (ad 1)) (C := RX2) (T := TX2) (N := 14) hx hb hts zi_X2_person_X2 hown hK.1 hP 0 rfl rfl 0 (by decide) (hts _ zk_X2_person_0) (fun _ h9 => h9) rfl dX2_person_24 ?_
      refine lv_iload_n hx hb dX2_person_27 rfl (lv_at hl 1 rfl) ?_
      refine lv_iload_n hx hb dX2_person_28 rfl (lv_at hl 2 rfl) ?_
      obtain ⟨r19, g20, h⟩ := bo1 h
      refine zb_callS (As := [.int v1, .int v2]) (rest := [.ref (ad 1)]) ⟨hx, hb, hml, hown, hts⟩ (zc_X2_of l D cI v1 v2 r19 g20) (va_cwS 2 hts gX2_person_X2_of rfl rfl rfl hd_X2_of.2 ⟨Nat.le_of_ble_eq_true rfl, Nat.le_of_ble_eq_true rfl⟩) hK hP hD hS hA (zb_none _) rfl hl.1 rfl (Nat.le_of_ble_eq_true rfl) dX2_person_29 ⟨Nat.le_refl _, Nat.le_refl _⟩ (fun H locs hP hD hS => ?_)
      obtain ⟨h21, h⟩ := it_g h
      refine va_iald hx hb hK.1 hP 1 0 rfl rfl h21 dX2_person_32 ?_
      obtain ⟨rfl, rfl⟩ := re2 h
      exact zb_iret hx hb hr hlk hP hS dX2_person_33
  · replace h := it_t c3 h
    refine lv_aload_n hx hb dX2_person_8 rfl (lv_at hl 0 rfl) ?_
    refine lv_iconst (v := ((-1) : Int32)) hx hb dX2_person_9 (by decide) ?_
    obtain ⟨r22, n23, g24, h⟩ := bo2 h
    refine zb_callV (As := [.int ((-1) : Int32)]) (rest := []) ⟨hx, hb, hml, hown, hts⟩ (zc_X2_no l D cI ad m_s m_m m_image m_was m_hasImage m_letters m_row m_refused m_letterMany m_rowMany m_place m_numbers m_cost m_seed ((-1) : Int32) r22 n23 g24) (cwV 1 hts gX2_person_X2_no rfl rfl rfl hd_X2_no ⟨Nat.le_of_ble_eq_true rfl, Nat.le_of_ble_eq_true rfl⟩) hK hP hD hS hA (zb_sM) (q0 := 0) rfl rfl rfl hl.1 rfl (Nat.le_of_ble_eq_true rfl) dX2_person_10 ⟨Nat.le_refl _, Nat.le_refl _⟩ (fun H locs hP hD hS => ?_)
    obtain ⟨rfl, rfl⟩ := re2 h
    exact zb_iret hx hb hr hlk hP hS dX2_person_13
abbrev rm_X2_wrongBy : Room := { frames := 0, cells := 0, slots := 0, locals := 0 }
theorem hd_X2_wrongBy : yX2_wrongBy.cls = RX2 ∧ yX2_wrongBy.cls ≠ "java/lang/invoke/MethodHandle" ∧ yX2_wrongBy.cls ≠ "java/lang/invoke/VarHandle" ∧ (parseMethodDescriptor yX2_wrongBy.desc).map (fun d => d.parameters.length) = some 3 := by decide +kernel
set_option maxHeartbeats 4000000 in
set_option maxRecDepth 100000 in
theorem zc_X2_wrongBy (l : Launch) (D : va_G) (cI : ClassId)  (v0 : Int32) (v1 : Int32) (v2 : Int32) (r0 : Int32) (h : zf_X2_wrongBy v0 v1 v2 = some r0) : Cn l D cI yX2_wrongBy wsX2_wrongBy rm_X2_wrongBy [.int v0, .int v1, .int v2] ([]) (some (.int r0)) ([]) := by
  refine zb_ofW (cc := cX2_wrongBy) (maxL := 3) (ret := (some .int)) (by decide) rfl (Nat.le_of_ble_eq_true rfl) ?_
  intro p e s m args below meth c A ls hx hb hr hml hts hown hlk hK hP hD hA hl
  have hS : va_S A s.heap s.heap [] := va_S.rf
  have hl : lv_has ls 3 [(0, .int v0), (1, .int v1), (2, .int v2)] := hl
  unfold zf_X2_wrongBy at h
  refine lv_iload_n hx hb dX2_wrongBy_0 rfl (lv_at hl 0 rfl) ?_
  refine lv_iload_n hx hb dX2_wrongBy_1 rfl (lv_at hl 1 rfl) ?_
  refine lv_icmp_ge (tgt := 10) hx hb dX2_wrongBy_2 (by decide) (fun c1 => ?_) (fun c1 => ?_)
  · replace h := it_t c1 h
    refine lv_iload_n hx hb dX2_wrongBy_10 rfl (lv_at hl 0 rfl) ?_
    refine lv_iload_n hx hb dX2_wrongBy_11 rfl (lv_at hl 2 rfl) ?_
    refine lv_icmp_le (tgt := 20) hx hb dX2_wrongBy_12 (by decide) (fun c2 => ?_) (fun c2 => ?_)
    · replace h := it_t c2 h
      refine lv_iconst (v := (0 : Int32)) hx hb dX2_wrongBy_20 (by decide) ?_
      obtain rfl := re1 h
      exact zb_iret hx hb hr hlk hP hS dX2_wrongBy_21
    · replace h := it_f c2 h
      refine lv_bipush (v := ((-6) : Int32)) hx hb dX2_wrongBy_15 (by decide) ?_
      refine lv_goto (tgt := 21) hx hb dX2_wrongBy_17 (by decide) ?_
      obtain rfl := re1 h
      exact zb_iret hx hb hr hlk hP hS dX2_wrongBy_21
  · replace h := it_f c1 h
    refine lv_bipush (v := ((-4) : Int32)) hx hb dX2_wrongBy_5 (by decide) ?_
    refine lv_goto (tgt := 21) hx hb dX2_wrongBy_7 (by decide) ?_
    obtain rfl := re1 h
    exact zb_iret hx hb hr hlk hP hS dX2_wrongBy_21
abbrev rm_X2_sets : Room := { frames := 0, cells := 0, slots := 0, locals := 0 }
theorem hd_X2_sets : yX2_sets.cls = RX2 ∧ yX2_sets.cls ≠ "java/lang/invoke/MethodHandle" ∧ yX2_sets.cls ≠ "java/lang/invoke/VarHandle" ∧ (parseMethodDescriptor yX2_sets.desc).map (fun d => d.parameters.length) = some 2 := by decide +kernel
theorem zi_X2_sets_X2 : ∀ w ∈ wsX20, w ∈ wsX2_sets := fun _ h => List.mem_cons_of_mem _ (List.mem_append_right _ h)
theorem zk_X2_sets_0 : Cond.fieldLink RX2 9 "GroutingIsFollowedModel" "s" "[I" ∈ wsX2_sets := by decide +kernel
set_option maxHeartbeats 4000000 in
set_option maxRecDepth 100000 in
theorem zc_X2_sets (l : Launch) (D : va_G) (cI : ClassId) (ad : Nat → Nat) (m_s : (Nat → Int32)) (m_m : (Nat → Int32)) (m_image : (Nat → Int32)) (m_was : (Nat → Int32)) (m_hasImage : Int32) (m_letters : (Nat → Int32)) (m_row : (Nat → Int32)) (m_refused : (Nat → Int32)) (m_letterMany : Int32) (m_rowMany : Int32) (m_place : Int32) (m_numbers : (Nat → Int32)) (m_cost : (Nat → Int32)) (m_seed : Int32) (v1 : Int32) (v2 : Int32) (r0 : Int32) (w_m_s : (Nat → Int32)) (h : zf_X2_sets m_s v1 v2 = some (r0, w_m_s)) : Cn l D cI yX2_sets wsX2_sets rm_X2_sets [.ref (ad 0), .int v1, .int v2] (zb_M cI ad m_s m_m m_image m_was m_hasImage m_letters m_row m_refused m_letterMany m_rowMany m_place m_numbers m_cost m_seed) (some (.int r0)) (zb_M cI ad w_m_s m_m m_image m_was m_hasImage m_letters m_row m_refused m_letterMany m_rowMany m_place m_numbers m_cost m_seed) := by
  refine zb_ofW (cc := cX2_sets) (maxL := 4) (ret := (some .int)) (by decide) rfl (Nat.le_of_ble_eq_true rfl) ?_
  intro p e s m args below meth c A ls hx hb hr hml hts hown hlk hK hP hD hA hl
  have hS : va_S A s.heap s.heap [] := va_S.rf
  have hl : lv_has ls 4 [(0, .ref (ad 0)), (1, .int v1), (2, .int v2)] := hl
  unfold zf_X2_sets at h
  refine lv_aload_n hx hb dX2_sets_0 rfl (lv_at hl 0 rfl) ?_
  refine va_get (D := D) (ci := 2) (v := .ref (ad 1)) (C := RX2) (T := TX2) (N := 14) hx hb hts zi_X2_sets_X2 hown hK.1 hP 0 rfl rfl 0 (by decide) (hts _ zk_X2_sets_0) (fun _ h9 => h9) rfl dX2_sets_1 ?_
  refine lv_iload_n hx hb dX2_sets_4 rfl (lv_at hl 1 rfl) ?_
  obtain ⟨h1, h⟩ := it_g h
  refine va_iald hx hb hK.1 hP 1 0 rfl rfl h1 dX2_sets_5 ?_
  refine lv_istore_n (lv' := [(3, .int (m_s v1.toNatClampNeg)), (0, .ref (ad 0)), (1, .int v1), (2, .int v2)]) hx hb dX2_sets_6 rfl hl (by decide) rfl (fun ls hl => ?_)
  refine lv_aload_n hx hb dX2_sets_7 rfl (lv_at hl 1 rfl) ?_
  refine va_get (D := D) (ci := 2) (v := .ref (ad 1)) (C := RX2) (T := TX2) (N := 14) hx hb hts zi_X2_sets_X2 hown hK.1 hP 0 rfl rfl 0 (by decide) (hts _ zk_X2_sets_0) (fun _ h9 => h9) rfl dX2_sets_8 ?_
  refine lv_iload_n hx hb dX2_sets_11 rfl (lv_at hl 2 rfl) ?_
  refine lv_iload_n hx hb dX2_sets_12 rfl (lv_at hl 3 rfl) ?_
  obtain ⟨h2, h⟩ := it_g h
  refine va_iast hx hb hK.1 hP hD hS 1 0 rfl rfl h2 dX2_sets_13 (fun H locs hP hD hS => ?_)
  have hP : va_P D zb_cl (zb_M cI ad (upd m_s v1.toNatClampNeg v2) m_m m_image m_was m_hasImage m_letters m_row m_refused m_letterMany m_rowMany m_place m_numbers m_cost m_seed) H := hP
  have hD : va_D A (zb_M cI ad (upd m_s v1.toNatClampNeg v2) m_m m_image m_was m_hasImage m_letters m_row m_refused m_letterMany m_rowMany m_place m_numbers m_cost m_seed) := hD
  refine lv_iload_n hx hb dX2_sets_14 rfl (lv_at hl 0 rfl) ?_
  obtain ⟨rfl, rfl⟩ := re2 h
  exact zb_iret hx hb hr hlk hP hS dX2_sets_15
abbrev rm_X2_lays : Room := { frames := 2, cells := 0, slots := 0, locals := 42 }
theorem hd_X2_lays : yX2_lays.cls = RX2 ∧ yX2_lays.cls ≠ "java/lang/invoke/MethodHandle" ∧ yX2_lays.cls ≠ "java/lang/invoke/VarHandle" ∧ (parseMethodDescriptor yX2_lays.desc).map (fun d => d.parameters.length) = some 3 := by decide +kernel
theorem zi_X2_lays_X2 : ∀ w ∈ wsX20, w ∈ wsX2_lays := fun _ h => List.mem_cons_of_mem _ (List.mem_append_right _ h)
theorem zk_X2_lays_0 : Cond.fieldLink RX2 9 "GroutingIsFollowedModel" "s" "[I" ∈ wsX2_lays := by decide +kernel
set_option maxHeartbeats 4000000 in
set_option maxRecDepth 100000 in
theorem zc_X2_lays (l : Launch) (D : va_G) (cI : ClassId) (ad : Nat → Nat) (m_s : (Nat → Int32)) (m_m : (Nat → Int32)) (m_image : (Nat → Int32)) (m_was : (Nat → Int32)) (m_hasImage : Int32) (m_letters : (Nat → Int32)) (m_row : (Nat → Int32)) (m_refused : (Nat → Int32)) (m_letterMany : Int32) (m_rowMany : Int32) (m_place : Int32) (m_numbers : (Nat → Int32)) (m_cost : (Nat → Int32)) (m_seed : Int32) (v1 : Int32) (v2 : Int32) (v3 : Int32) (r0 : Int32) (w_m_s : (Nat → Int32)) (w_m_refused : (Nat → Int32)) (h : zf_X2_lays m_s m_refused v1 v2 v3 = some (r0, w_m_s, w_m_refused)) : Cn l D cI yX2_lays wsX2_lays rm_X2_lays [.ref (ad 0), .int v1, .int v2, .int v3] (zb_M cI ad m_s m_m m_image m_was m_hasImage m_letters m_row m_refused m_letterMany m_rowMany m_place m_numbers m_cost m_seed) (some (.int r0)) (zb_M cI ad w_m_s m_m m_image m_was m_hasImage m_letters m_row w_m_refused m_letterMany m_rowMany m_place m_numbers m_cost m_seed) := by
  refine zb_ofW (cc := cX2_lays) (maxL := 6) (ret := (some .int)) (by decide) rfl (Nat.le_of_ble_eq_true rfl) ?_
  intro p e s m args below meth c A ls hx hb hr hml hts hown hlk hK hP hD hA hl
  have hS : va_S A s.heap s.heap [] := va_S.rf
  have hl : lv_has ls 6 [(0, .ref (ad 0)), (1, .int v1), (2, .int v2), (3, .int v3)] := hl
  unfold zf_X2_lays at h
  have j32 : ∀ (x1 : Int32) (x2 : (Nat → Int32)) (x3 : (Nat → Int32)) (H : Heap) (locs : List Loc) (hP : va_P D zb_cl (zb_M cI ad x2 m_m m_image m_was m_hasImage m_letters m_row x3 m_letterMany m_rowMany m_place m_numbers m_cost m_seed) H) (hD : va_D A (zb_M cI ad x2 m_m m_image m_was m_hasImage m_letters m_row x3 m_letterMany m_rowMany m_place m_numbers m_cost m_seed)) (hS : va_S A s.heap H locs) (ls : Array Slot) (hl : lv_has ls 6 [(0, .ref (ad 0)), (1, .int v1), (2, .int v2), (3, .int v3)]) (h : zf_X2_lays_j32 v1 v2 v3 x1 x2 x3 = some (r0, w_m_s, w_m_refused)), W p l e rm_X2_lays s m args below meth c H locs 0 0 (zb_Q below D (some (.int r0)) (zb_M cI ad w_m_s m_m m_image m_was m_hasImage m_letters m_row w_m_refused m_letterMany m_rowMany m_place m_numbers m_cost m_seed) A args s) (F0 m 32 ls [.int x1]) := by
    intro x1 x2 x3 H locs hP hD hS ls hl h
    unfold zf_X2_lays_j32 at h
    refine lv_istore (lv' := [(4, .int x1), (0, .ref (ad 0)), (1, .int v1), (2, .int v2), (3, .int v3)]) hx hb dX2_lays_32 hl (by decide) rfl (fun ls hl => ?_)
    refine lv_iload hx hb dX2_lays_34 (lv_at hl 0 rfl) ?_
    refine lv_if_eq (tgt := 46) hx hb dX2_lays_36 (by decide) (fun c4 => ?_) (fun c4 => ?_)
    · replace h := it_t c4 h
      refine lv_bipush (v := (10 : Int32)) hx hb dX2_lays_46 (by decide) ?_
      refine lv_aload_n hx hb dX2_lays_48 rfl (lv_at hl 1 rfl) ?_
      refine va_get (D := D) (ci := 2) (v := .ref (ad 1)) (C := RX2) (T := TX2) (N := 14) hx hb hts zi_X2_lays_X2 hown hK.1 hP 0 rfl rfl 0 (by decide) (hts _ zk_X2_lays_0) (fun _ h9 => h9) rfl dX2_lays_49 ?_
      refine lv_iconst (v := (3 : Int32)) hx hb dX2_lays_52 (by decide) ?_
      refine lv_iload_n hx hb dX2_lays_53 rfl (lv_at hl 2 rfl) ?_
      refine lv_iadd hx hb dX2_lays_54 ?_
      obtain ⟨h5, h⟩ := it_g h
      refine va_iald hx hb hK.1 hP 1 0 rfl rfl h5 dX2_lays_55 ?_
      refine lv_imul hx hb dX2_lays_56 ?_
      refine lv_aload_n hx hb dX2_lays_57 rfl (lv_at hl 1 rfl) ?_
      refine va_get (D := D) (ci := 2) (v := .ref (ad 1)) (C := RX2) (T := TX2) (N := 14) hx hb hts zi_X2_lays_X2 hown hK.1 hP 0 rfl rfl 0 (by decide) (hts _ zk_X2_lays_0) (fun _ h9 => h9) rfl dX2_lays_58 ?_
      refine lv_bipush (v := (33 : Int32)) hx hb dX2_lays_61 (by decide) ?_
      refine lv_iload_n hx hb dX2_lays_63 rfl (lv_at hl 2 rfl) ?_
      refine lv_iadd hx hb dX2_lays_64 ?_
      obtain ⟨h6, h⟩ := it_g h
      refine va_iald hx hb hK.1 hP 1 0 rfl rfl h6 dX2_lays_65 ?_
      refine lv_iadd hx hb dX2_lays_66 ?_
      refine lv_istore (lv' := [(5, .int (((10 : Int32) * (x2 ((3 : Int32) + v1).toNatClampNeg)) + (x2 ((33 : Int32) + v1).toNatClampNeg))), (4, .int x1), (0, .ref (ad 0)), (1, .int v1), (2, .int v2), (3, .int v3)]) hx hb dX2_lays_67 hl (by decide) rfl (fun ls hl => ?_)
      refine lv_aload_n hx hb dX2_lays_69 rfl (lv_at hl 2 rfl) ?_
      refine va_get (D := D) (ci := 2) (v := .ref (ad 1)) (C := RX2) (T := TX2) (N := 14) hx hb hts zi_X2_lays_X2 hown hK.1 hP 0 rfl rfl 0 (by decide) (hts _ zk_X2_lays_0) (fun _ h9 => h9) rfl dX2_lays_70 ?_
      refine lv_iconst (v := (3 : Int32)) hx hb dX2_lays_73 (by decide) ?_
      refine lv_iload_n hx hb dX2_lays_74 rfl (lv_at hl 3 rfl) ?_
      refine lv_iadd hx hb dX2_lays_75 ?_
      refine lv_iload_n hx hb dX2_lays_76 rfl (lv_at hl 4 rfl) ?_
      obtain ⟨h7, h⟩ := it_g h
      refine va_iast hx hb hK.1 hP hD hS 1 0 rfl rfl h7 dX2_lays_77 (fun H locs hP hD hS => ?_)
      have hP : va_P D zb_cl (zb_M cI ad (upd x2 ((3 : Int32) + v1).toNatClampNeg v2) m_m m_image m_was m_hasImage m_letters m_row x3 m_letterMany m_rowMany m_place m_numbers m_cost m_seed) H := hP
      have hD : va_D A (zb_M cI ad (upd x2 ((3 : Int32) + v1).toNatClampNeg v2) m_m m_image m_was m_hasImage m_letters m_row x3 m_letterMany m_rowMany m_place m_numbers m_cost m_seed) := hD
      refine lv_aload_n hx hb dX2_lays_78 rfl (lv_at hl 2 rfl) ?_
      refine va_get (D := D) (ci := 2) (v := .ref (ad 1)) (C := RX2) (T := TX2) (N := 14) hx hb hts zi_X2_lays_X2 hown hK.1 hP 0 rfl rfl 0 (by decide) (hts _ zk_X2_lays_0) (fun _ h9 => h9) rfl dX2_lays_79 ?_
      refine lv_bipush (v := (33 : Int32)) hx hb dX2_lays_82 (by decide) ?_
      refine lv_iload_n hx hb dX2_lays_84 rfl (lv_at hl 3 rfl) ?_
      refine lv_iadd hx hb dX2_lays_85 ?_
      refine lv_iload_n hx hb dX2_lays_86 rfl (lv_at hl 5 rfl) ?_
      obtain ⟨h8, h⟩ := it_g h
      refine va_iast hx hb hK.1 hP hD hS 1 0 rfl rfl h8 dX2_lays_87 (fun H locs hP hD hS => ?_)
      have hP : va_P D zb_cl (zb_M cI ad (upd (upd x2 ((3 : Int32) + v1).toNatClampNeg v2) ((33 : Int32) + v1).toNatClampNeg v3) m_m m_image m_was m_hasImage m_letters m_row x3 m_letterMany m_rowMany m_place m_numbers m_cost m_seed) H := hP
      have hD : va_D A (zb_M cI ad (upd (upd x2 ((3 : Int32) + v1).toNatClampNeg v2) ((33 : Int32) + v1).toNatClampNeg v3) m_m m_image m_was m_hasImage m_letters m_row x3 m_letterMany m_rowMany m_place m_numbers m_cost m_seed) := hD
      refine lv_iload hx hb dX2_lays_88 (lv_at hl 0 rfl) ?_
      obtain ⟨rfl, rfl, rfl⟩ := re3 h
      exact zb_iret hx hb hr hlk hP hS dX2_lays_90
    · replace h := it_f c4 h
      refine lv_aload_n hx hb dX2_lays_39 rfl (lv_at hl 1 rfl) ?_
      refine lv_iload hx hb dX2_lays_40 (lv_at hl 0 rfl) ?_
      obtain ⟨r9, n10, g11, h⟩ := bo2 h
      refine zb_callV (As := [.int x1]) (rest := []) ⟨hx, hb, hml, hown, hts⟩ (zc_X2_no l D cI ad x2 m_m m_image m_was m_hasImage m_letters m_row x3 m_letterMany m_rowMany m_place m_numbers m_cost m_seed x1 r9 n10 g11) (cwV 1 hts gX2_lays_X2_no rfl rfl rfl hd_X2_no ⟨Nat.le_of_ble_eq_true rfl, Nat.le_of_ble_eq_true rfl⟩) hK hP hD hS hA (zb_sM) (q0 := 0) rfl rfl rfl hl.1 rfl (Nat.le_of_ble_eq_true rfl) dX2_lays_42 ⟨Nat.le_refl _, Nat.le_refl _⟩ (fun H locs hP hD hS => ?_)
      obtain ⟨rfl, rfl, rfl⟩ := re3 h
      exact zb_iret hx hb hr hlk hP hS dX2_lays_45
  refine lv_iload_n hx hb dX2_lays_0 rfl (lv_at hl 1 rfl) ?_
  obtain ⟨r12, g13, h⟩ := bo1 h
  refine zb_callS (As := [.int v1]) (rest := []) ⟨hx, hb, hml, hown, hts⟩ (zc_X2_isNode l D cI v1 r12 g13) (va_cwS 1 hts gX2_lays_X2_isNode rfl rfl rfl hd_X2_isNode.2 ⟨Nat.le_of_ble_eq_true rfl, Nat.le_of_ble_eq_true rfl⟩) hK hP hD hS hA (zb_none _) rfl hl.1 rfl (Nat.le_of_ble_eq_true rfl) dX2_lays_1 ⟨Nat.le_refl _, Nat.le_refl _⟩ (fun H locs hP hD hS => ?_)
  refine lv_if_ne (tgt := 11) hx hb dX2_lays_4 (by decide) (fun c14 => ?_) (fun c14 => ?_)
  · replace h := it_f c14 h
    refine lv_iload_n hx hb dX2_lays_11 rfl (lv_at hl 2 rfl) ?_
    refine lv_iconst (v := (0 : Int32)) hx hb dX2_lays_12 (by decide) ?_
    refine lv_iconst (v := (5 : Int32)) hx hb dX2_lays_13 (by decide) ?_
    obtain ⟨r15, g16, h⟩ := bo1 h
    refine zb_callS (As := [.int v2, .int (0 : Int32), .int (5 : Int32)]) (rest := []) ⟨hx, hb, hml, hown, hts⟩ (zc_X2_isIn l D cI v2 (0 : Int32) (5 : Int32) r15 g16) (va_cwS 3 hts gX2_lays_X2_isIn rfl rfl rfl hd_X2_isIn.2 ⟨Nat.le_of_ble_eq_true rfl, Nat.le_of_ble_eq_true rfl⟩) hK hP hD hS hA (zb_none _) rfl hl.1 rfl (Nat.le_of_ble_eq_true rfl) dX2_lays_14 ⟨Nat.le_refl _, Nat.le_refl _⟩ (fun H locs hP hD hS => ?_)
    refine lv_if_ne (tgt := 25) hx hb dX2_lays_17 (by decide) (fun c17 => ?_) (fun c17 => ?_)
    · replace h := it_f c17 h
      refine lv_iload_n hx hb dX2_lays_25 rfl (lv_at hl 3 rfl) ?_
      refine lv_iconst (v := (0 : Int32)) hx hb dX2_lays_26 (by decide) ?_
      refine lv_bipush (v := (9 : Int32)) hx hb dX2_lays_27 (by decide) ?_
      obtain ⟨r18, g19, h⟩ := bo1 h
      refine zb_callS (As := [.int v3, .int (0 : Int32), .int (9 : Int32)]) (rest := []) ⟨hx, hb, hml, hown, hts⟩ (zc_X2_wrongBy l D cI v3 (0 : Int32) (9 : Int32) r18 g19) (va_cwS 3 hts gX2_lays_X2_wrongBy rfl rfl rfl hd_X2_wrongBy.2 ⟨Nat.le_of_ble_eq_true rfl, Nat.le_of_ble_eq_true rfl⟩) hK hP hD hS hA (zb_none _) rfl hl.1 rfl (Nat.le_of_ble_eq_true rfl) dX2_lays_29 ⟨Nat.le_refl _, Nat.le_refl _⟩ (fun H locs hP hD hS => ?_)
      exact j32 r18 m_s m_refused _ _ hP hD hS ls (lv_sub hl [0, 1, 2, 3] rfl) h
    · replace h := it_t c17 h
      refine lv_bipush (v := ((-2) : Int32)) hx hb dX2_lays_20 (by decide) ?_
      refine lv_goto (tgt := 32) hx hb dX2_lays_22 (by decide) ?_
      exact j32 ((-2) : Int32) m_s m_refused _ _ hP hD hS ls (lv_sub hl [0, 1, 2, 3] rfl) h
  · replace h := it_t c14 h
    refine lv_iconst (v := ((-1) : Int32)) hx hb dX2_lays_7 (by decide) ?_
    refine lv_goto (tgt := 32) hx hb dX2_lays_8 (by decide) ?_
    exact j32 ((-1) : Int32) m_s m_refused _ _ hP hD hS ls (lv_sub hl [0, 1, 2, 3] rfl) h
abbrev rm_X2_wets : Room := { frames := 2, cells := 0, slots := 0, locals := 42 }
theorem hd_X2_wets : yX2_wets.cls = RX2 ∧ yX2_wets.cls ≠ "java/lang/invoke/MethodHandle" ∧ yX2_wets.cls ≠ "java/lang/invoke/VarHandle" ∧ (parseMethodDescriptor yX2_wets.desc).map (fun d => d.parameters.length) = some 2 := by decide +kernel
set_option maxHeartbeats 4000000 in
set_option maxRecDepth 100000 in
theorem zc_X2_wets (l : Launch) (D : va_G) (cI : ClassId) (ad : Nat → Nat) (m_s : (Nat → Int32)) (m_m : (Nat → Int32)) (m_image : (Nat → Int32)) (m_was : (Nat → Int32)) (m_hasImage : Int32) (m_letters : (Nat → Int32)) (m_row : (Nat → Int32)) (m_refused : (Nat → Int32)) (m_letterMany : Int32) (m_rowMany : Int32) (m_place : Int32) (m_numbers : (Nat → Int32)) (m_cost : (Nat → Int32)) (m_seed : Int32) (v1 : Int32) (v2 : Int32) (r0 : Int32) (w_m_s : (Nat → Int32)) (w_m_refused : (Nat → Int32)) (h : zf_X2_wets m_s m_refused v1 v2 = some (r0, w_m_s, w_m_refused)) : Cn l D cI yX2_wets wsX2_wets rm_X2_wets [.ref (ad 0), .int v1, .int v2] (zb_M cI ad m_s m_m m_image m_was m_hasImage m_letters m_row m_refused m_letterMany m_rowMany m_place m_numbers m_cost m_seed) (some (.int r0)) (zb_M cI ad w_m_s m_m m_image m_was m_hasImage m_letters m_row w_m_refused m_letterMany m_rowMany m_place m_numbers m_cost m_seed) := by
  refine zb_ofW (cc := cX2_wets) (maxL := 4) (ret := (some .int)) (by decide) rfl (Nat.le_of_ble_eq_true rfl) ?_
  intro p e s m args below meth c A ls hx hb hr hml hts hown hlk hK hP hD hA hl
  have hS : va_S A s.heap s.heap [] := va_S.rf
  have hl : lv_has ls 4 [(0, .ref (ad 0)), (1, .int v1), (2, .int v2)] := hl
  unfold zf_X2_wets at h
  refine lv_iload_n hx hb dX2_wets_0 rfl (lv_at hl 1 rfl) ?_
  obtain ⟨r1, g2, h⟩ := bo1 h
  refine zb_callS (As := [.int v1]) (rest := []) ⟨hx, hb, hml, hown, hts⟩ (zc_X2_isNode l D cI v1 r1 g2) (va_cwS 1 hts gX2_wets_X2_isNode rfl rfl rfl hd_X2_isNode.2 ⟨Nat.le_of_ble_eq_true rfl, Nat.le_of_ble_eq_true rfl⟩) hK hP hD hS hA (zb_none _) rfl hl.1 rfl (Nat.le_of_ble_eq_true rfl) dX2_wets_1 ⟨Nat.le_refl _, Nat.le_refl _⟩ (fun H locs hP hD hS => ?_)
  refine lv_if_eq (tgt := 17) hx hb dX2_wets_4 (by decide) (fun c3 => ?_) (fun c3 => ?_)
  · replace h := it_t c3 h
    refine lv_iconst (v := ((-1) : Int32)) hx hb dX2_wets_17 (by decide) ?_
    refine lv_istore_n (lv' := [(3, .int ((-1) : Int32)), (0, .ref (ad 0)), (1, .int v1), (2, .int v2)]) hx hb dX2_wets_18 rfl hl (by decide) rfl (fun ls hl => ?_)
    refine lv_iload_n hx hb dX2_wets_19 rfl (lv_at hl 0 rfl) ?_
    refine lv_if_eq (tgt := 31) hx hb dX2_wets_20 (by decide) (fun c4 => absurd c4 (by decide)) (fun _ => ?_)
    refine lv_aload_n hx hb dX2_wets_23 rfl (lv_at hl 1 rfl) ?_
    refine lv_iload_n hx hb dX2_wets_24 rfl (lv_at hl 0 rfl) ?_
    obtain ⟨r5, n6, g7, h⟩ := bo2 h
    refine zb_callV (As := [.int ((-1) : Int32)]) (rest := []) ⟨hx, hb, hml, hown, hts⟩ (zc_X2_no l D cI ad m_s m_m m_image m_was m_hasImage m_letters m_row m_refused m_letterMany m_rowMany m_place m_numbers m_cost m_seed ((-1) : Int32) r5 n6 g7) (cwV 1 hts gX2_wets_X2_no rfl rfl rfl hd_X2_no ⟨Nat.le_of_ble_eq_true rfl, Nat.le_of_ble_eq_true rfl⟩) hK hP hD hS hA (zb_sM) (q0 := 0) rfl rfl rfl hl.1 rfl (Nat.le_of_ble_eq_true rfl) dX2_wets_25 ⟨Nat.le_refl _, Nat.le_refl _⟩ (fun H locs hP hD hS => ?_)
    refine lv_goto (tgt := 40) hx hb dX2_wets_28 (by decide) ?_
    obtain ⟨rfl, rfl, rfl⟩ := re3 h
    exact zb_iret hx hb hr hlk hP hS dX2_wets_40
  · replace h := it_f c3 h
    refine lv_iload_n hx hb dX2_wets_7 rfl (lv_at hl 2 rfl) ?_
    refine lv_iconst (v := (0 : Int32)) hx hb dX2_wets_8 (by decide) ?_
    refine lv_bipush (v := (9 : Int32)) hx hb dX2_wets_9 (by decide) ?_
    obtain ⟨r8, g9, h⟩ := bo1 h
    refine zb_callS (As := [.int v2, .int (0 : Int32), .int (9 : Int32)]) (rest := []) ⟨hx, hb, hml, hown, hts⟩ (zc_X2_wrongBy l D cI v2 (0 : Int32) (9 : Int32) r8 g9) (va_cwS 3 hts gX2_wets_X2_wrongBy rfl rfl rfl hd_X2_wrongBy.2 ⟨Nat.le_of_ble_eq_true rfl, Nat.le_of_ble_eq_true rfl⟩) hK hP hD hS hA (zb_none _) rfl hl.1 rfl (Nat.le_of_ble_eq_true rfl) dX2_wets_11 ⟨Nat.le_refl _, Nat.le_refl _⟩ (fun H locs hP hD hS => ?_)
    refine lv_goto (tgt := 18) hx hb dX2_wets_14 (by decide) ?_
    refine lv_istore_n (lv' := [(3, .int r8), (0, .ref (ad 0)), (1, .int v1), (2, .int v2)]) hx hb dX2_wets_18 rfl hl (by decide) rfl (fun ls hl => ?_)
    refine lv_iload_n hx hb dX2_wets_19 rfl (lv_at hl 0 rfl) ?_
    refine lv_if_eq (tgt := 31) hx hb dX2_wets_20 (by decide) (fun c10 => ?_) (fun c10 => ?_)
    · replace h := it_t c10 h
      refine lv_aload_n hx hb dX2_wets_31 rfl (lv_at hl 1 rfl) ?_
      refine lv_bipush (v := (63 : Int32)) hx hb dX2_wets_32 (by decide) ?_
      refine lv_iload_n hx hb dX2_wets_34 rfl (lv_at hl 2 rfl) ?_
      refine lv_iadd hx hb dX2_wets_35 ?_
      refine lv_iload_n hx hb dX2_wets_36 rfl (lv_at hl 3 rfl) ?_
      obtain ⟨r11, n12, g13, h⟩ := bo2 h
      refine zb_callV (As := [.int ((63 : Int32) + v1), .int v2]) (rest := []) ⟨hx, hb, hml, hown, hts⟩ (zc_X2_sets l D cI ad m_s m_m m_image m_was m_hasImage m_letters m_row m_refused m_letterMany m_rowMany m_place m_numbers m_cost m_seed ((63 : Int32) + v1) v2 r11 n12 g13) (cwV 2 hts gX2_wets_X2_sets rfl rfl rfl hd_X2_sets ⟨Nat.le_of_ble_eq_true rfl, Nat.le_of_ble_eq_true rfl⟩) hK hP hD hS hA (zb_sM) (q0 := 0) rfl rfl rfl hl.1 rfl (Nat.le_of_ble_eq_true rfl) dX2_wets_37 ⟨Nat.le_refl _, Nat.le_refl _⟩ (fun H locs hP hD hS => ?_)
      obtain ⟨rfl, rfl, rfl⟩ := re3 h
      exact zb_iret hx hb hr hlk hP hS dX2_wets_40
    · replace h := it_f c10 h
      refine lv_aload_n hx hb dX2_wets_23 rfl (lv_at hl 1 rfl) ?_
      refine lv_iload_n hx hb dX2_wets_24 rfl (lv_at hl 0 rfl) ?_
      obtain ⟨r14, n15, g16, h⟩ := bo2 h
      refine zb_callV (As := [.int r8]) (rest := []) ⟨hx, hb, hml, hown, hts⟩ (zc_X2_no l D cI ad m_s m_m m_image m_was m_hasImage m_letters m_row m_refused m_letterMany m_rowMany m_place m_numbers m_cost m_seed r8 r14 n15 g16) (cwV 1 hts gX2_wets_X2_no rfl rfl rfl hd_X2_no ⟨Nat.le_of_ble_eq_true rfl, Nat.le_of_ble_eq_true rfl⟩) hK hP hD hS hA (zb_sM) (q0 := 0) rfl rfl rfl hl.1 rfl (Nat.le_of_ble_eq_true rfl) dX2_wets_25 ⟨Nat.le_refl _, Nat.le_refl _⟩ (fun H locs hP hD hS => ?_)
      refine lv_goto (tgt := 40) hx hb dX2_wets_28 (by decide) ?_
      obtain ⟨rfl, rfl, rfl⟩ := re3 h
      exact zb_iret hx hb hr hlk hP hS dX2_wets_40
abbrev rm_X2_comesIn : Room := { frames := 2, cells := 0, slots := 0, locals := 43 }
theorem hd_X2_comesIn : yX2_comesIn.cls = RX2 ∧ yX2_comesIn.cls ≠ "java/lang/invoke/MethodHandle" ∧ yX2_comesIn.cls ≠ "java/lang/invoke/VarHandle" ∧ (parseMethodDescriptor yX2_comesIn.desc).map (fun d => d.parameters.length) = some 2 := by decide +kernel
theorem zi_X2_comesIn_X2 : ∀ w ∈ wsX20, w ∈ wsX2_comesIn := fun _ h => List.mem_cons_of_mem _ (List.mem_append_right _ h)
theorem zk_X2_comesIn_0 : Cond.fieldLink RX2 9 "GroutingIsFollowedModel" "s" "[I" ∈ wsX2_comesIn := by decide +kernel
set_option maxHeartbeats 4000000 in
set_option maxRecDepth 100000 in
theorem zc_X2_comesIn (l : Launch) (D : va_G) (cI : ClassId) (ad : Nat → Nat) (m_s : (Nat → Int32)) (m_m : (Nat → Int32)) (m_image : (Nat → Int32)) (m_was : (Nat → Int32)) (m_hasImage : Int32) (m_letters : (Nat → Int32)) (m_row : (Nat → Int32)) (m_refused : (Nat → Int32)) (m_letterMany : Int32) (m_rowMany : Int32) (m_place : Int32) (m_numbers : (Nat → Int32)) (m_cost : (Nat → Int32)) (m_seed : Int32) (v1 : Int32) (v2 : Int32) (r0 : Int32) (w_m_s : (Nat → Int32)) (w_m_refused : (Nat → Int32)) (h : zf_X2_comesIn m_s m_refused v1 v2 = some (r0, w_m_s, w_m_refused)) : Cn l D cI yX2_comesIn wsX2_comesIn rm_X2_comesIn [.ref (ad 0), .int v1, .int v2] (zb_M cI ad m_s m_m m_image m_was m_hasImage m_letters m_row m_refused m_letterMany m_rowMany m_place m_numbers m_cost m_seed) (some (.int r0)) (zb_M cI ad w_m_s m_m m_image m_was m_hasImage m_letters m_row w_m_refused m_letterMany m_rowMany m_place m_numbers m_cost m_seed) := by
  refine zb_ofW (cc := cX2_comesIn) (maxL := 3) (ret := (some .int)) (by decide) rfl (Nat.le_of_ble_eq_true rfl) ?_
  intro p e s m args below meth c A ls hx hb hr hml hts hown hlk hK hP hD hA hl
  have hS : va_S A s.heap s.heap [] := va_S.rf
  have hl : lv_has ls 3 [(0, .ref (ad 0)), (1, .int v1), (2, .int v2)] := hl
  unfold zf_X2_comesIn at h
  refine lv_iload_n hx hb dX2_comesIn_0 rfl (lv_at hl 1 rfl) ?_
  obtain ⟨r1, g2, h⟩ := bo1 h
  refine zb_callS (As := [.int v1]) (rest := []) ⟨hx, hb, hml, hown, hts⟩ (zc_X2_isNode l D cI v1 r1 g2) (va_cwS 1 hts gX2_comesIn_X2_isNode rfl rfl rfl hd_X2_isNode.2 ⟨Nat.le_of_ble_eq_true rfl, Nat.le_of_ble_eq_true rfl⟩) hK hP hD hS hA (zb_none _) rfl hl.1 rfl (Nat.le_of_ble_eq_true rfl) dX2_comesIn_1 ⟨Nat.le_refl _, Nat.le_refl _⟩ (fun H locs hP hD hS => ?_)
  refine lv_if_eq (tgt := 14) hx hb dX2_comesIn_4 (by decide) (fun c3 => ?_) (fun c3 => ?_)
  · replace h := it_t c3 h
    refine lv_aload_n hx hb dX2_comesIn_14 rfl (lv_at hl 0 rfl) ?_
    refine lv_iconst (v := ((-1) : Int32)) hx hb dX2_comesIn_15 (by decide) ?_
    obtain ⟨r4, n5, g6, h⟩ := bo2 h
    refine zb_callV (As := [.int ((-1) : Int32)]) (rest := []) ⟨hx, hb, hml, hown, hts⟩ (zc_X2_no l D cI ad m_s m_m m_image m_was m_hasImage m_letters m_row m_refused m_letterMany m_rowMany m_place m_numbers m_cost m_seed ((-1) : Int32) r4 n5 g6) (cwV 1 hts gX2_comesIn_X2_no rfl rfl rfl hd_X2_no ⟨Nat.le_of_ble_eq_true rfl, Nat.le_of_ble_eq_true rfl⟩) hK hP hD hS hA (zb_sM) (q0 := 0) rfl rfl rfl hl.1 rfl (Nat.le_of_ble_eq_true rfl) dX2_comesIn_16 ⟨Nat.le_refl _, Nat.le_refl _⟩ (fun H locs hP hD hS => ?_)
    obtain ⟨rfl, rfl, rfl⟩ := re3 h
    exact zb_iret hx hb hr hlk hP hS dX2_comesIn_19
  · replace h := it_f c3 h
    refine lv_iload_n hx hb dX2_comesIn_7 rfl (lv_at hl 2 rfl) ?_
    obtain ⟨r7, g8, h⟩ := bo1 h
    refine zb_callS (As := [.int v2]) (rest := []) ⟨hx, hb, hml, hown, hts⟩ (zc_X2_isWay l D cI v2 r7 g8) (va_cwS 1 hts gX2_comesIn_X2_isWay rfl rfl rfl hd_X2_isWay.2 ⟨Nat.le_of_ble_eq_true rfl, Nat.le_of_ble_eq_true rfl⟩) hK hP hD hS hA (zb_none _) rfl hl.1 rfl (Nat.le_of_ble_eq_true rfl) dX2_comesIn_8 ⟨Nat.le_refl _, Nat.le_refl _⟩ (fun H locs hP hD hS => ?_)
    refine lv_if_ne (tgt := 20) hx hb dX2_comesIn_11 (by decide) (fun c9 => ?_) (fun c9 => ?_)
    · replace h := it_f c9 h
      refine lv_aload_n hx hb dX2_comesIn_20 rfl (lv_at hl 0 rfl) ?_
      refine va_get (D := D) (ci := 2) (v := .ref (ad 1)) (C := RX2) (T := TX2) (N := 14) hx hb hts zi_X2_comesIn_X2 hown hK.1 hP 0 rfl rfl 0 (by decide) (hts _ zk_X2_comesIn_0) (fun _ h9 => h9) rfl dX2_comesIn_21 ?_
      refine lv_iconst (v := (0 : Int32)) hx hb dX2_comesIn_24 (by decide) ?_
      refine va_iald hx hb hK.1 hP 1 0 rfl rfl (vl_in (by decide)) dX2_comesIn_25 ?_
      refine lv_iconst (v := (4 : Int32)) hx hb dX2_comesIn_26 (by decide) ?_
      refine lv_icmp_ne (tgt := 37) hx hb dX2_comesIn_27 (by decide) (fun c10 => ?_) (fun c10 => ?_)
      · replace h := it_f c10 h
        refine lv_aload_n hx hb dX2_comesIn_37 rfl (lv_at hl 0 rfl) ?_
        refine lv_iload_n hx hb dX2_comesIn_38 rfl (lv_at hl 1 rfl) ?_
        refine lv_iload_n hx hb dX2_comesIn_39 rfl (lv_at hl 2 rfl) ?_
        obtain ⟨n11, g12, h⟩ := bo1 h
        refine zb_callV (As := [.int v1, .int v2]) (rest := []) ⟨hx, hb, hml, hown, hts⟩ (zc_X2_adds l D cI ad m_s m_m m_image m_was m_hasImage m_letters m_row m_refused m_letterMany m_rowMany m_place m_numbers m_cost m_seed v1 v2 n11 g12) (cwV 2 hts gX2_comesIn_X2_adds rfl rfl rfl hd_X2_adds ⟨Nat.le_of_ble_eq_true rfl, Nat.le_of_ble_eq_true rfl⟩) hK hP hD hS hA (zb_sM) (q0 := 0) rfl rfl rfl hl.1 rfl (Nat.le_of_ble_eq_true rfl) dX2_comesIn_40 ⟨Nat.le_refl _, Nat.le_refl _⟩ (fun H locs hP hD hS => ?_)
        refine lv_aload_n hx hb dX2_comesIn_43 rfl (lv_at hl 0 rfl) ?_
        refine va_get (D := D) (ci := 2) (v := .ref (ad 1)) (C := RX2) (T := TX2) (N := 14) hx hb hts zi_X2_comesIn_X2 hown hK.1 hP 0 rfl rfl 0 (by decide) (hts _ zk_X2_comesIn_0) (fun _ h9 => h9) rfl dX2_comesIn_44 ?_
        refine lv_iconst (v := (0 : Int32)) hx hb dX2_comesIn_47 (by decide) ?_
        refine va_iald hx hb hK.1 hP 1 0 rfl rfl (vl_in (by decide)) dX2_comesIn_48 ?_
        refine lv_iconst (v := (1 : Int32)) hx hb dX2_comesIn_49 (by decide) ?_
        refine lv_isub hx hb dX2_comesIn_50 ?_
        obtain ⟨rfl, rfl, rfl⟩ := re3 h
        exact zb_iret hx hb hr hlk hP hS dX2_comesIn_51
      · replace h := it_t c10 h
        refine lv_aload_n hx hb dX2_comesIn_30 rfl (lv_at hl 0 rfl) ?_
        refine lv_bipush (v := ((-6) : Int32)) hx hb dX2_comesIn_31 (by decide) ?_
        obtain ⟨r13, n14, g15, h⟩ := bo2 h
        refine zb_callV (As := [.int ((-6) : Int32)]) (rest := []) ⟨hx, hb, hml, hown, hts⟩ (zc_X2_no l D cI ad m_s m_m m_image m_was m_hasImage m_letters m_row m_refused m_letterMany m_rowMany m_place m_numbers m_cost m_seed ((-6) : Int32) r13 n14 g15) (cwV 1 hts gX2_comesIn_X2_no rfl rfl rfl hd_X2_no ⟨Nat.le_of_ble_eq_true rfl, Nat.le_of_ble_eq_true rfl⟩) hK hP hD hS hA (zb_sM) (q0 := 0) rfl rfl rfl hl.1 rfl (Nat.le_of_ble_eq_true rfl) dX2_comesIn_33 ⟨Nat.le_refl _, Nat.le_refl _⟩ (fun H locs hP hD hS => ?_)
        obtain ⟨rfl, rfl, rfl⟩ := re3 h
        exact zb_iret hx hb hr hlk hP hS dX2_comesIn_36
    · replace h := it_t c9 h
      refine lv_aload_n hx hb dX2_comesIn_14 rfl (lv_at hl 0 rfl) ?_
      refine lv_iconst (v := ((-1) : Int32)) hx hb dX2_comesIn_15 (by decide) ?_
      obtain ⟨r16, n17, g18, h⟩ := bo2 h
      refine zb_callV (As := [.int ((-1) : Int32)]) (rest := []) ⟨hx, hb, hml, hown, hts⟩ (zc_X2_no l D cI ad m_s m_m m_image m_was m_hasImage m_letters m_row m_refused m_letterMany m_rowMany m_place m_numbers m_cost m_seed ((-1) : Int32) r16 n17 g18) (cwV 1 hts gX2_comesIn_X2_no rfl rfl rfl hd_X2_no ⟨Nat.le_of_ble_eq_true rfl, Nat.le_of_ble_eq_true rfl⟩) hK hP hD hS hA (zb_sM) (q0 := 0) rfl rfl rfl hl.1 rfl (Nat.le_of_ble_eq_true rfl) dX2_comesIn_16 ⟨Nat.le_refl _, Nat.le_refl _⟩ (fun H locs hP hD hS => ?_)
      obtain ⟨rfl, rfl, rfl⟩ := re3 h
      exact zb_iret hx hb hr hlk hP hS dX2_comesIn_19
abbrev rm_X2_heads : Room := { frames := 2, cells := 0, slots := 0, locals := 43 }
theorem hd_X2_heads : yX2_heads.cls = RX2 ∧ yX2_heads.cls ≠ "java/lang/invoke/MethodHandle" ∧ yX2_heads.cls ≠ "java/lang/invoke/VarHandle" ∧ (parseMethodDescriptor yX2_heads.desc).map (fun d => d.parameters.length) = some 2 := by decide +kernel
set_option maxHeartbeats 4000000 in
set_option maxRecDepth 100000 in
theorem zc_X2_heads (l : Launch) (D : va_G) (cI : ClassId) (ad : Nat → Nat) (m_s : (Nat → Int32)) (m_m : (Nat → Int32)) (m_image : (Nat → Int32)) (m_was : (Nat → Int32)) (m_hasImage : Int32) (m_letters : (Nat → Int32)) (m_row : (Nat → Int32)) (m_refused : (Nat → Int32)) (m_letterMany : Int32) (m_rowMany : Int32) (m_place : Int32) (m_numbers : (Nat → Int32)) (m_cost : (Nat → Int32)) (m_seed : Int32) (v1 : Int32) (v2 : Int32) (r0 : Int32) (w_m_s : (Nat → Int32)) (w_m_refused : (Nat → Int32)) (h : zf_X2_heads m_s m_refused v1 v2 = some (r0, w_m_s, w_m_refused)) : Cn l D cI yX2_heads wsX2_heads rm_X2_heads [.ref (ad 0), .int v1, .int v2] (zb_M cI ad m_s m_m m_image m_was m_hasImage m_letters m_row m_refused m_letterMany m_rowMany m_place m_numbers m_cost m_seed) (some (.int r0)) (zb_M cI ad w_m_s m_m m_image m_was m_hasImage m_letters m_row w_m_refused m_letterMany m_rowMany m_place m_numbers m_cost m_seed) := by
  refine zb_ofW (cc := cX2_heads) (maxL := 3) (ret := (some .int)) (by decide) rfl (Nat.le_of_ble_eq_true rfl) ?_
  intro p e s m args below meth c A ls hx hb hr hml hts hown hlk hK hP hD hA hl
  have hS : va_S A s.heap s.heap [] := va_S.rf
  have hl : lv_has ls 3 [(0, .ref (ad 0)), (1, .int v1), (2, .int v2)] := hl
  unfold zf_X2_heads at h
  refine lv_aload_n hx hb dX2_heads_0 rfl (lv_at hl 0 rfl) ?_
  refine lv_iload_n hx hb dX2_heads_1 rfl (lv_at hl 1 rfl) ?_
  obtain ⟨r1, g2, h⟩ := bo1 h
  refine zb_callV (As := [.int v1]) (rest := []) ⟨hx, hb, hml, hown, hts⟩ (zc_X2_isPerson l D cI ad m_s m_m m_image m_was m_hasImage m_letters m_row m_refused m_letterMany m_rowMany m_place m_numbers m_cost m_seed v1 r1 g2) (cwV 1 hts gX2_heads_X2_isPerson rfl rfl rfl hd_X2_isPerson ⟨Nat.le_of_ble_eq_true rfl, Nat.le_of_ble_eq_true rfl⟩) hK hP hD hS hA (zb_sM) (q0 := 0) rfl rfl rfl hl.1 rfl (Nat.le_of_ble_eq_true rfl) dX2_heads_2 ⟨Nat.le_refl _, Nat.le_refl _⟩ (fun H locs hP hD hS => ?_)
  refine lv_if_eq (tgt := 28) hx hb dX2_heads_5 (by decide) (fun c3 => ?_) (fun c3 => ?_)
  · replace h := it_t c3 h
    refine lv_aload_n hx hb dX2_heads_28 rfl (lv_at hl 0 rfl) ?_
    refine lv_iconst (v := ((-1) : Int32)) hx hb dX2_heads_29 (by decide) ?_
    obtain ⟨r4, n5, g6, h⟩ := bo2 h
    refine zb_callV (As := [.int ((-1) : Int32)]) (rest := []) ⟨hx, hb, hml, hown, hts⟩ (zc_X2_no l D cI ad m_s m_m m_image m_was m_hasImage m_letters m_row m_refused m_letterMany m_rowMany m_place m_numbers m_cost m_seed ((-1) : Int32) r4 n5 g6) (cwV 1 hts gX2_heads_X2_no rfl rfl rfl hd_X2_no ⟨Nat.le_of_ble_eq_true rfl, Nat.le_of_ble_eq_true rfl⟩) hK hP hD hS hA (zb_sM) (q0 := 0) rfl rfl rfl hl.1 rfl (Nat.le_of_ble_eq_true rfl) dX2_heads_30 ⟨Nat.le_refl _, Nat.le_refl _⟩ (fun H locs hP hD hS => ?_)
    obtain ⟨rfl, rfl, rfl⟩ := re3 h
    exact zb_iret hx hb hr hlk hP hS dX2_heads_33
  · replace h := it_f c3 h
    refine lv_iload_n hx hb dX2_heads_8 rfl (lv_at hl 2 rfl) ?_
    obtain ⟨r7, g8, h⟩ := bo1 h
    refine zb_callS (As := [.int v2]) (rest := []) ⟨hx, hb, hml, hown, hts⟩ (zc_X2_isWay l D cI v2 r7 g8) (va_cwS 1 hts gX2_heads_X2_isWay rfl rfl rfl hd_X2_isWay.2 ⟨Nat.le_of_ble_eq_true rfl, Nat.le_of_ble_eq_true rfl⟩) hK hP hD hS hA (zb_none _) rfl hl.1 rfl (Nat.le_of_ble_eq_true rfl) dX2_heads_9 ⟨Nat.le_refl _, Nat.le_refl _⟩ (fun H locs hP hD hS => ?_)
    refine lv_if_eq (tgt := 28) hx hb dX2_heads_12 (by decide) (fun c9 => ?_) (fun c9 => ?_)
    · replace h := it_t c9 h
      refine lv_aload_n hx hb dX2_heads_28 rfl (lv_at hl 0 rfl) ?_
      refine lv_iconst (v := ((-1) : Int32)) hx hb dX2_heads_29 (by decide) ?_
      obtain ⟨r10, n11, g12, h⟩ := bo2 h
      refine zb_callV (As := [.int ((-1) : Int32)]) (rest := []) ⟨hx, hb, hml, hown, hts⟩ (zc_X2_no l D cI ad m_s m_m m_image m_was m_hasImage m_letters m_row m_refused m_letterMany m_rowMany m_place m_numbers m_cost m_seed ((-1) : Int32) r10 n11 g12) (cwV 1 hts gX2_heads_X2_no rfl rfl rfl hd_X2_no ⟨Nat.le_of_ble_eq_true rfl, Nat.le_of_ble_eq_true rfl⟩) hK hP hD hS hA (zb_sM) (q0 := 0) rfl rfl rfl hl.1 rfl (Nat.le_of_ble_eq_true rfl) dX2_heads_30 ⟨Nat.le_refl _, Nat.le_refl _⟩ (fun H locs hP hD hS => ?_)
      obtain ⟨rfl, rfl, rfl⟩ := re3 h
      exact zb_iret hx hb hr hlk hP hS dX2_heads_33
    · replace h := it_f c9 h
      refine lv_aload_n hx hb dX2_heads_15 rfl (lv_at hl 0 rfl) ?_
      refine lv_iload_n hx hb dX2_heads_16 rfl (lv_at hl 1 rfl) ?_
      refine lv_iconst (v := (1 : Int32)) hx hb dX2_heads_17 (by decide) ?_
      obtain ⟨r13, g14, h⟩ := bo1 h
      refine zb_callS (As := [.int v1, .int (1 : Int32)]) (rest := [.ref (ad 0)]) ⟨hx, hb, hml, hown, hts⟩ (zc_X2_of l D cI v1 (1 : Int32) r13 g14) (va_cwS 2 hts gX2_heads_X2_of rfl rfl rfl hd_X2_of.2 ⟨Nat.le_of_ble_eq_true rfl, Nat.le_of_ble_eq_true rfl⟩) hK hP hD hS hA (zb_none _) rfl hl.1 rfl (Nat.le_of_ble_eq_true rfl) dX2_heads_18 ⟨Nat.le_refl _, Nat.le_refl _⟩ (fun H locs hP hD hS => ?_)
      refine lv_iload_n hx hb dX2_heads_21 rfl (lv_at hl 2 rfl) ?_
      obtain ⟨r15, n16, g17, h⟩ := bo2 h
      refine zb_callV (As := [.int r13, .int v2]) (rest := []) ⟨hx, hb, hml, hown, hts⟩ (zc_X2_sets l D cI ad m_s m_m m_image m_was m_hasImage m_letters m_row m_refused m_letterMany m_rowMany m_place m_numbers m_cost m_seed r13 v2 r15 n16 g17) (cwV 2 hts gX2_heads_X2_sets rfl rfl rfl hd_X2_sets ⟨Nat.le_of_ble_eq_true rfl, Nat.le_of_ble_eq_true rfl⟩) hK hP hD hS hA (zb_sM) (q0 := 0) rfl rfl rfl hl.1 rfl (Nat.le_of_ble_eq_true rfl) dX2_heads_22 ⟨Nat.le_refl _, Nat.le_refl _⟩ (fun H locs hP hD hS => ?_)
      refine lv_goto (tgt := 33) hx hb dX2_heads_25 (by decide) ?_
      obtain ⟨rfl, rfl, rfl⟩ := re3 h
      exact zb_iret hx hb hr hlk hP hS dX2_heads_33
abbrev rm_X2_areThere : Room := { frames := 2, cells := 0, slots := 0, locals := 43 }
theorem hd_X2_areThere : yX2_areThere.cls = RX2 ∧ yX2_areThere.cls ≠ "java/lang/invoke/MethodHandle" ∧ yX2_areThere.cls ≠ "java/lang/invoke/VarHandle" ∧ (parseMethodDescriptor yX2_areThere.desc).map (fun d => d.parameters.length) = some 2 := by decide +kernel
set_option maxHeartbeats 4000000 in
set_option maxRecDepth 100000 in
theorem zc_X2_areThere (l : Launch) (D : va_G) (cI : ClassId) (ad : Nat → Nat) (m_s : (Nat → Int32)) (m_m : (Nat → Int32)) (m_image : (Nat → Int32)) (m_was : (Nat → Int32)) (m_hasImage : Int32) (m_letters : (Nat → Int32)) (m_row : (Nat → Int32)) (m_refused : (Nat → Int32)) (m_letterMany : Int32) (m_rowMany : Int32) (m_place : Int32) (m_numbers : (Nat → Int32)) (m_cost : (Nat → Int32)) (m_seed : Int32) (v1 : Int32) (v2 : Int32) (r0 : Int32) (h : zf_X2_areThere m_s v1 v2 = some r0) : Cn l D cI yX2_areThere wsX2_areThere rm_X2_areThere [.ref (ad 0), .int v1, .int v2] (zb_M cI ad m_s m_m m_image m_was m_hasImage m_letters m_row m_refused m_letterMany m_rowMany m_place m_numbers m_cost m_seed) (some (.int r0)) (zb_M cI ad m_s m_m m_image m_was m_hasImage m_letters m_row m_refused m_letterMany m_rowMany m_place m_numbers m_cost m_seed) := by
  refine zb_ofW (cc := cX2_areThere) (maxL := 3) (ret := (some .boolean)) (by decide) rfl (Nat.le_of_ble_eq_true rfl) ?_
  intro p e s m args below meth c A ls hx hb hr hml hts hown hlk hK hP hD hA hl
  have hS : va_S A s.heap s.heap [] := va_S.rf
  have hl : lv_has ls 3 [(0, .ref (ad 0)), (1, .int v1), (2, .int v2)] := hl
  unfold zf_X2_areThere at h
  refine lv_aload_n hx hb dX2_areThere_0 rfl (lv_at hl 0 rfl) ?_
  refine lv_iload_n hx hb dX2_areThere_1 rfl (lv_at hl 1 rfl) ?_
  obtain ⟨r1, g2, h⟩ := bo1 h
  refine zb_callV (As := [.int v1]) (rest := []) ⟨hx, hb, hml, hown, hts⟩ (zc_X2_isPerson l D cI ad m_s m_m m_image m_was m_hasImage m_letters m_row m_refused m_letterMany m_rowMany m_place m_numbers m_cost m_seed v1 r1 g2) (cwV 1 hts gX2_areThere_X2_isPerson rfl rfl rfl hd_X2_isPerson ⟨Nat.le_of_ble_eq_true rfl, Nat.le_of_ble_eq_true rfl⟩) hK hP hD hS hA (zb_sM) (q0 := 0) rfl rfl rfl hl.1 rfl (Nat.le_of_ble_eq_true rfl) dX2_areThere_2 ⟨Nat.le_refl _, Nat.le_refl _⟩ (fun H locs hP hD hS => ?_)
  refine lv_if_eq (tgt := 19) hx hb dX2_areThere_5 (by decide) (fun c3 => ?_) (fun c3 => ?_)
  · replace h := it_t c3 h
    refine lv_iconst (v := (0 : Int32)) hx hb dX2_areThere_19 (by decide) ?_
    obtain rfl := re1 h
    exact zb_zret hx hb hr hlk rfl hP hS dX2_areThere_20
  · replace h := it_f c3 h
    refine lv_iload_n hx hb dX2_areThere_8 rfl (lv_at hl 2 rfl) ?_
    obtain ⟨r4, g5, h⟩ := bo1 h
    refine zb_callS (As := [.int v2]) (rest := []) ⟨hx, hb, hml, hown, hts⟩ (zc_X2_isNode l D cI v2 r4 g5) (va_cwS 1 hts gX2_areThere_X2_isNode rfl rfl rfl hd_X2_isNode.2 ⟨Nat.le_of_ble_eq_true rfl, Nat.le_of_ble_eq_true rfl⟩) hK hP hD hS hA (zb_none _) rfl hl.1 rfl (Nat.le_of_ble_eq_true rfl) dX2_areThere_9 ⟨Nat.le_refl _, Nat.le_refl _⟩ (fun H locs hP hD hS => ?_)
    refine lv_if_eq (tgt := 19) hx hb dX2_areThere_12 (by decide) (fun c6 => ?_) (fun c6 => ?_)
    · replace h := it_t c6 h
      refine lv_iconst (v := (0 : Int32)) hx hb dX2_areThere_19 (by decide) ?_
      obtain rfl := re1 h
      exact zb_zret hx hb hr hlk rfl hP hS dX2_areThere_20
    · replace h := it_f c6 h
      refine lv_iconst (v := (1 : Int32)) hx hb dX2_areThere_15 (by decide) ?_
      refine lv_goto (tgt := 20) hx hb dX2_areThere_16 (by decide) ?_
      obtain rfl := re1 h
      exact zb_zret hx hb hr hlk rfl hP hS dX2_areThere_20
abbrev rm_X2_stands : Room := { frames := 3, cells := 0, slots := 0, locals := 65 }
theorem hd_X2_stands : yX2_stands.cls = RX2 ∧ yX2_stands.cls ≠ "java/lang/invoke/MethodHandle" ∧ yX2_stands.cls ≠ "java/lang/invoke/VarHandle" ∧ (parseMethodDescriptor yX2_stands.desc).map (fun d => d.parameters.length) = some 2 := by decide +kernel
set_option maxHeartbeats 4000000 in
set_option maxRecDepth 100000 in
theorem zc_X2_stands (l : Launch) (D : va_G) (cI : ClassId) (ad : Nat → Nat) (m_s : (Nat → Int32)) (m_m : (Nat → Int32)) (m_image : (Nat → Int32)) (m_was : (Nat → Int32)) (m_hasImage : Int32) (m_letters : (Nat → Int32)) (m_row : (Nat → Int32)) (m_refused : (Nat → Int32)) (m_letterMany : Int32) (m_rowMany : Int32) (m_place : Int32) (m_numbers : (Nat → Int32)) (m_cost : (Nat → Int32)) (m_seed : Int32) (v1 : Int32) (v2 : Int32) (r0 : Int32) (w_m_s : (Nat → Int32)) (w_m_refused : (Nat → Int32)) (h : zf_X2_stands m_s m_refused v1 v2 = some (r0, w_m_s, w_m_refused)) : Cn l D cI yX2_stands wsX2_stands rm_X2_stands [.ref (ad 0), .int v1, .int v2] (zb_M cI ad m_s m_m m_image m_was m_hasImage m_letters m_row m_refused m_letterMany m_rowMany m_place m_numbers m_cost m_seed) (some (.int r0)) (zb_M cI ad w_m_s m_m m_image m_was m_hasImage m_letters m_row w_m_refused m_letterMany m_rowMany m_place m_numbers m_cost m_seed) := by
  refine zb_ofW (cc := cX2_stands) (maxL := 3) (ret := (some .int)) (by decide) rfl (Nat.le_of_ble_eq_true rfl) ?_
  intro p e s m args below meth c A ls hx hb hr hml hts hown hlk hK hP hD hA hl
  have hS : va_S A s.heap s.heap [] := va_S.rf
  have hl : lv_has ls 3 [(0, .ref (ad 0)), (1, .int v1), (2, .int v2)] := hl
  unfold zf_X2_stands at h
  refine lv_aload_n hx hb dX2_stands_0 rfl (lv_at hl 0 rfl) ?_
  refine lv_iload_n hx hb dX2_stands_1 rfl (lv_at hl 1 rfl) ?_
  refine lv_iload_n hx hb dX2_stands_2 rfl (lv_at hl 2 rfl) ?_
  obtain ⟨r1, g2, h⟩ := bo1 h
  refine zb_callV (As := [.int v1, .int v2]) (rest := []) ⟨hx, hb, hml, hown, hts⟩ (zc_X2_areThere l D cI ad m_s m_m m_image m_was m_hasImage m_letters m_row m_refused m_letterMany m_rowMany m_place m_numbers m_cost m_seed v1 v2 r1 g2) (cwV 2 hts gX2_stands_X2_areThere rfl rfl rfl hd_X2_areThere ⟨Nat.le_of_ble_eq_true rfl, Nat.le_of_ble_eq_true rfl⟩) hK hP hD hS hA (zb_sM) (q0 := 0) rfl rfl rfl hl.1 rfl (Nat.le_of_ble_eq_true rfl) dX2_stands_3 ⟨Nat.le_refl _, Nat.le_refl _⟩ (fun H locs hP hD hS => ?_)
  refine lv_if_eq (tgt := 22) hx hb dX2_stands_6 (by decide) (fun c3 => ?_) (fun c3 => ?_)
  · replace h := it_t c3 h
    refine lv_aload_n hx hb dX2_stands_22 rfl (lv_at hl 0 rfl) ?_
    refine lv_iconst (v := ((-1) : Int32)) hx hb dX2_stands_23 (by decide) ?_
    obtain ⟨r4, n5, g6, h⟩ := bo2 h
    refine zb_callV (As := [.int ((-1) : Int32)]) (rest := []) ⟨hx, hb, hml, hown, hts⟩ (zc_X2_no l D cI ad m_s m_m m_image m_was m_hasImage m_letters m_row m_refused m_letterMany m_rowMany m_place m_numbers m_cost m_seed ((-1) : Int32) r4 n5 g6) (cwV 1 hts gX2_stands_X2_no rfl rfl rfl hd_X2_no ⟨Nat.le_of_ble_eq_true rfl, Nat.le_of_ble_eq_true rfl⟩) hK hP hD hS hA (zb_sM) (q0 := 0) rfl rfl rfl hl.1 rfl (Nat.le_of_ble_eq_true rfl) dX2_stands_24 ⟨Nat.le_refl _, Nat.le_refl _⟩ (fun H locs hP hD hS => ?_)
    obtain ⟨rfl, rfl, rfl⟩ := re3 h
    exact zb_iret hx hb hr hlk hP hS dX2_stands_27
  · replace h := it_f c3 h
    refine lv_aload_n hx hb dX2_stands_9 rfl (lv_at hl 0 rfl) ?_
    refine lv_iload_n hx hb dX2_stands_10 rfl (lv_at hl 1 rfl) ?_
    refine lv_iconst (v := (0 : Int32)) hx hb dX2_stands_11 (by decide) ?_
    obtain ⟨r7, g8, h⟩ := bo1 h
    refine zb_callS (As := [.int v1, .int (0 : Int32)]) (rest := [.ref (ad 0)]) ⟨hx, hb, hml, hown, hts⟩ (zc_X2_of l D cI v1 (0 : Int32) r7 g8) (va_cwS 2 hts gX2_stands_X2_of rfl rfl rfl hd_X2_of.2 ⟨Nat.le_of_ble_eq_true rfl, Nat.le_of_ble_eq_true rfl⟩) hK hP hD hS hA (zb_none _) rfl hl.1 rfl (Nat.le_of_ble_eq_true rfl) dX2_stands_12 ⟨Nat.le_refl _, Nat.le_refl _⟩ (fun H locs hP hD hS => ?_)
    refine lv_iload_n hx hb dX2_stands_15 rfl (lv_at hl 2 rfl) ?_
    obtain ⟨r9, n10, g11, h⟩ := bo2 h
    refine zb_callV (As := [.int r7, .int v2]) (rest := []) ⟨hx, hb, hml, hown, hts⟩ (zc_X2_sets l D cI ad m_s m_m m_image m_was m_hasImage m_letters m_row m_refused m_letterMany m_rowMany m_place m_numbers m_cost m_seed r7 v2 r9 n10 g11) (cwV 2 hts gX2_stands_X2_sets rfl rfl rfl hd_X2_sets ⟨Nat.le_of_ble_eq_true rfl, Nat.le_of_ble_eq_true rfl⟩) hK hP hD hS hA (zb_sM) (q0 := 0) rfl rfl rfl hl.1 rfl (Nat.le_of_ble_eq_true rfl) dX2_stands_16 ⟨Nat.le_refl _, Nat.le_refl _⟩ (fun H locs hP hD hS => ?_)
    refine lv_goto (tgt := 27) hx hb dX2_stands_19 (by decide) ?_
    obtain ⟨rfl, rfl, rfl⟩ := re3 h
    exact zb_iret hx hb hr hlk hP hS dX2_stands_27
abbrev rm_X2_steps : Room := { frames := 5, cells := 0, slots := 0, locals := 113 }
theorem hd_X2_steps : yX2_steps.cls = RX2 ∧ yX2_steps.cls ≠ "java/lang/invoke/MethodHandle" ∧ yX2_steps.cls ≠ "java/lang/invoke/VarHandle" ∧ (parseMethodDescriptor yX2_steps.desc).map (fun d => d.parameters.length) = some 1 := by decide +kernel
theorem zi_X2_steps_X2 : ∀ w ∈ wsX20, w ∈ wsX2_steps := fun _ h => List.mem_cons_of_mem _ (List.mem_append_right _ h)
theorem zk_X2_steps_0 : Cond.fieldLink RX2 9 "GroutingIsFollowedModel" "s" "[I" ∈ wsX2_steps := by decide +kernel
set_option maxHeartbeats 4000000 in
set_option maxRecDepth 100000 in
theorem zc_X2_steps (l : Launch) (D : va_G) (cI : ClassId) (ad : Nat → Nat) (m_s : (Nat → Int32)) (m_m : (Nat → Int32)) (m_image : (Nat → Int32)) (m_was : (Nat → Int32)) (m_hasImage : Int32) (m_letters : (Nat → Int32)) (m_row : (Nat → Int32)) (m_refused : (Nat → Int32)) (m_letterMany : Int32) (m_rowMany : Int32) (m_place : Int32) (m_numbers : (Nat → Int32)) (m_cost : (Nat → Int32)) (m_seed : Int32) (v1 : Int32) (r0 : Int32) (w_m_s : (Nat → Int32)) (w_m_refused : (Nat → Int32)) (h : zf_X2_steps m_s m_refused v1 = some (r0, w_m_s, w_m_refused)) : Cn l D cI yX2_steps wsX2_steps rm_X2_steps [.ref (ad 0), .int v1] (zb_M cI ad m_s m_m m_image m_was m_hasImage m_letters m_row m_refused m_letterMany m_rowMany m_place m_numbers m_cost m_seed) (some (.int r0)) (zb_M cI ad w_m_s m_m m_image m_was m_hasImage m_letters m_row w_m_refused m_letterMany m_rowMany m_place m_numbers m_cost m_seed) := by
  refine zb_ofW (cc := cX2_steps) (maxL := 2) (ret := (some .int)) (by decide) rfl (Nat.le_of_ble_eq_true rfl) ?_
  intro p e s m args below meth c A ls hx hb hr hml hts hown hlk hK hP hD hA hl
  have hS : va_S A s.heap s.heap [] := va_S.rf
  have hl : lv_has ls 2 [(0, .ref (ad 0)), (1, .int v1)] := hl
  unfold zf_X2_steps at h
  refine lv_iload_n hx hb dX2_steps_0 rfl (lv_at hl 1 rfl) ?_
  refine lv_iconst (v := (1 : Int32)) hx hb dX2_steps_1 (by decide) ?_
  refine lv_icmp_ge (tgt := 12) hx hb dX2_steps_2 (by decide) (fun c1 => ?_) (fun c1 => ?_)
  · replace h := it_t c1 h
    refine lv_iload_n hx hb dX2_steps_12 rfl (lv_at hl 1 rfl) ?_
    refine lv_bipush (v := (60 : Int32)) hx hb dX2_steps_13 (by decide) ?_
    refine lv_icmp_gt (tgt := 32) hx hb dX2_steps_15 (by decide) (fun c2 => ?_) (fun c2 => ?_)
    · replace h := it_t c2 h
      refine lv_aload_n hx hb dX2_steps_32 rfl (lv_at hl 0 rfl) ?_
      refine lv_bipush (v := ((-6) : Int32)) hx hb dX2_steps_33 (by decide) ?_
      obtain ⟨r3, n4, g5, h⟩ := bo2 h
      refine zb_callV (As := [.int ((-6) : Int32)]) (rest := []) ⟨hx, hb, hml, hown, hts⟩ (zc_X2_no l D cI ad m_s m_m m_image m_was m_hasImage m_letters m_row m_refused m_letterMany m_rowMany m_place m_numbers m_cost m_seed ((-6) : Int32) r3 n4 g5) (cwV 1 hts gX2_steps_X2_no rfl rfl rfl hd_X2_no ⟨Nat.le_of_ble_eq_true rfl, Nat.le_of_ble_eq_true rfl⟩) hK hP hD hS hA (zb_sM) (q0 := 0) rfl rfl rfl hl.1 rfl (Nat.le_of_ble_eq_true rfl) dX2_steps_35 ⟨Nat.le_refl _, Nat.le_refl _⟩ (fun H locs hP hD hS => ?_)
      obtain ⟨rfl, rfl, rfl⟩ := re3 h
      exact zb_iret hx hb hr hlk hP hS dX2_steps_38
    · replace h := it_f c2 h
      refine lv_aload_n hx hb dX2_steps_18 rfl (lv_at hl 0 rfl) ?_
      refine va_get (D := D) (ci := 2) (v := .ref (ad 1)) (C := RX2) (T := TX2) (N := 14) hx hb hts zi_X2_steps_X2 hown hK.1 hP 0 rfl rfl 0 (by decide) (hts _ zk_X2_steps_0) (fun _ h9 => h9) rfl dX2_steps_19 ?_
      refine lv_iconst (v := (1 : Int32)) hx hb dX2_steps_22 (by decide) ?_
      refine va_iald hx hb hK.1 hP 1 0 rfl rfl (vl_in (by decide)) dX2_steps_23 ?_
      refine lv_iload_n hx hb dX2_steps_24 rfl (lv_at hl 1 rfl) ?_
      refine lv_iadd hx hb dX2_steps_25 ?_
      refine lv_sipush (v := (999 : Int32)) hx hb dX2_steps_26 (by decide) ?_
      refine lv_icmp_le (tgt := 39) hx hb dX2_steps_29 (by decide) (fun c6 => ?_) (fun c6 => ?_)
      · replace h := it_t c6 h
        refine lv_aload_n hx hb dX2_steps_39 rfl (lv_at hl 0 rfl) ?_
        refine va_get (D := D) (ci := 2) (v := .ref (ad 1)) (C := RX2) (T := TX2) (N := 14) hx hb hts zi_X2_steps_X2 hown hK.1 hP 0 rfl rfl 0 (by decide) (hts _ zk_X2_steps_0) (fun _ h9 => h9) rfl dX2_steps_40 ?_
        refine lv_iload_n hx hb dX2_steps_43 rfl (lv_at hl 1 rfl) ?_
        obtain ⟨n7, g8, h⟩ := bo1 h
        refine zb_callS (As := [.ref (ad 1), .int v1]) (rest := []) ⟨hx, hb, hml, hown, hts⟩ (zc_X2_stepsOn l D cI (ad 1) m_s v1 n7 g8) (va_cwS 2 hts gX2_steps_X2_stepsOn rfl rfl rfl hd_X2_stepsOn.2 ⟨Nat.le_of_ble_eq_true rfl, Nat.le_of_ble_eq_true rfl⟩) hK hP hD hS hA (zb_cM_s) rfl hl.1 rfl (Nat.le_of_ble_eq_true rfl) dX2_steps_44 ⟨Nat.le_refl _, Nat.le_refl _⟩ (fun H locs hP hD hS => ?_)
        refine lv_aload_n hx hb dX2_steps_47 rfl (lv_at hl 0 rfl) ?_
        refine va_get (D := D) (ci := 2) (v := .ref (ad 1)) (C := RX2) (T := TX2) (N := 14) hx hb hts zi_X2_steps_X2 hown hK.1 hP 0 rfl rfl 0 (by decide) (hts _ zk_X2_steps_0) (fun _ h9 => h9) rfl dX2_steps_48 ?_
        obtain ⟨r9, g10, h⟩ := bo1 h
        refine zb_callS (As := [.ref (ad 1)]) (rest := []) ⟨hx, hb, hml, hown, hts⟩ (zc_X2_allWet l D cI (ad 1) n7 r9 g10) (va_cwS 1 hts gX2_steps_X2_allWet rfl rfl rfl hd_X2_allWet.2 ⟨Nat.le_of_ble_eq_true rfl, Nat.le_of_ble_eq_true rfl⟩) hK hP hD hS hA (zb_cM_s) rfl hl.1 rfl (Nat.le_of_ble_eq_true rfl) dX2_steps_51 ⟨Nat.le_refl _, Nat.le_refl _⟩ (fun H locs hP hD hS => ?_)
        obtain ⟨rfl, rfl, rfl⟩ := re3 h
        exact zb_iret hx hb hr hlk hP hS dX2_steps_54
      · replace h := it_f c6 h
        refine lv_aload_n hx hb dX2_steps_32 rfl (lv_at hl 0 rfl) ?_
        refine lv_bipush (v := ((-6) : Int32)) hx hb dX2_steps_33 (by decide) ?_
        obtain ⟨r11, n12, g13, h⟩ := bo2 h
        refine zb_callV (As := [.int ((-6) : Int32)]) (rest := []) ⟨hx, hb, hml, hown, hts⟩ (zc_X2_no l D cI ad m_s m_m m_image m_was m_hasImage m_letters m_row m_refused m_letterMany m_rowMany m_place m_numbers m_cost m_seed ((-6) : Int32) r11 n12 g13) (cwV 1 hts gX2_steps_X2_no rfl rfl rfl hd_X2_no ⟨Nat.le_of_ble_eq_true rfl, Nat.le_of_ble_eq_true rfl⟩) hK hP hD hS hA (zb_sM) (q0 := 0) rfl rfl rfl hl.1 rfl (Nat.le_of_ble_eq_true rfl) dX2_steps_35 ⟨Nat.le_refl _, Nat.le_refl _⟩ (fun H locs hP hD hS => ?_)
        obtain ⟨rfl, rfl, rfl⟩ := re3 h
        exact zb_iret hx hb hr hlk hP hS dX2_steps_38
  · replace h := it_f c1 h
    refine lv_aload_n hx hb dX2_steps_5 rfl (lv_at hl 0 rfl) ?_
    refine lv_bipush (v := ((-4) : Int32)) hx hb dX2_steps_6 (by decide) ?_
    obtain ⟨r14, n15, g16, h⟩ := bo2 h
    refine zb_callV (As := [.int ((-4) : Int32)]) (rest := []) ⟨hx, hb, hml, hown, hts⟩ (zc_X2_no l D cI ad m_s m_m m_image m_was m_hasImage m_letters m_row m_refused m_letterMany m_rowMany m_place m_numbers m_cost m_seed ((-4) : Int32) r14 n15 g16) (cwV 1 hts gX2_steps_X2_no rfl rfl rfl hd_X2_no ⟨Nat.le_of_ble_eq_true rfl, Nat.le_of_ble_eq_true rfl⟩) hK hP hD hS hA (zb_sM) (q0 := 0) rfl rfl rfl hl.1 rfl (Nat.le_of_ble_eq_true rfl) dX2_steps_8 ⟨Nat.le_refl _, Nat.le_refl _⟩ (fun H locs hP hD hS => ?_)
    obtain ⟨rfl, rfl, rfl⟩ := re3 h
    exact zb_iret hx hb hr hlk hP hS dX2_steps_11
abbrev rm_X2_takes : Room := { frames := 5, cells := 0, slots := 0, locals := 113 }
theorem hd_X2_takes : yX2_takes.cls = RX2 ∧ yX2_takes.cls ≠ "java/lang/invoke/MethodHandle" ∧ yX2_takes.cls ≠ "java/lang/invoke/VarHandle" ∧ (parseMethodDescriptor yX2_takes.desc).map (fun d => d.parameters.length) = some 1 := by decide +kernel
theorem zi_X2_takes_X2 : ∀ w ∈ wsX20, w ∈ wsX2_takes := fun _ h => List.mem_cons_of_mem _ (List.mem_append_right _ h)
theorem zk_X2_takes_0 : Cond.fieldLink RX2 9 "GroutingIsFollowedModel" "s" "[I" ∈ wsX2_takes := by decide +kernel
theorem zk_X2_takes_1 : Cond.fieldLink RX2 13 "GroutingIsFollowedModel" "m" "[I" ∈ wsX2_takes := by decide +kernel
set_option maxHeartbeats 4000000 in
set_option maxRecDepth 100000 in
theorem zc_X2_takes (l : Launch) (D : va_G) (cI : ClassId) (ad : Nat → Nat) (m_s : (Nat → Int32)) (m_m : (Nat → Int32)) (m_image : (Nat → Int32)) (m_was : (Nat → Int32)) (m_hasImage : Int32) (m_letters : (Nat → Int32)) (m_row : (Nat → Int32)) (m_refused : (Nat → Int32)) (m_letterMany : Int32) (m_rowMany : Int32) (m_place : Int32) (m_numbers : (Nat → Int32)) (m_cost : (Nat → Int32)) (m_seed : Int32) (v1 : Int32) (w_m_m : (Nat → Int32)) (h : zf_X2_takes m_s m_m v1 = some w_m_m) : Cn l D cI yX2_takes wsX2_takes rm_X2_takes [.ref (ad 0), .int v1] (zb_M cI ad m_s m_m m_image m_was m_hasImage m_letters m_row m_refused m_letterMany m_rowMany m_place m_numbers m_cost m_seed) none (zb_M cI ad m_s w_m_m m_image m_was m_hasImage m_letters m_row m_refused m_letterMany m_rowMany m_place m_numbers m_cost m_seed) := by
  refine zb_ofW (cc := cX2_takes) (maxL := 2) (ret := none) (by decide) rfl (Nat.le_of_ble_eq_true rfl) ?_
  intro p e s m args below meth c A ls hx hb hr hml hts hown hlk hK hP hD hA hl
  have hS : va_S A s.heap s.heap [] := va_S.rf
  have hl : lv_has ls 2 [(0, .ref (ad 0)), (1, .int v1)] := hl
  unfold zf_X2_takes at h
  refine lv_aload_n hx hb dX2_takes_0 rfl (lv_at hl 0 rfl) ?_
  refine va_get (D := D) (ci := 2) (v := .ref (ad 1)) (C := RX2) (T := TX2) (N := 14) hx hb hts zi_X2_takes_X2 hown hK.1 hP 0 rfl rfl 0 (by decide) (hts _ zk_X2_takes_0) (fun _ h9 => h9) rfl dX2_takes_1 ?_
  refine lv_aload_n hx hb dX2_takes_4 rfl (lv_at hl 0 rfl) ?_
  refine va_get (D := D) (ci := 2) (v := .ref (ad 2)) (C := RX2) (T := TX2) (N := 14) hx hb hts zi_X2_takes_X2 hown hK.1 hP 0 rfl rfl 1 (by decide) (hts _ zk_X2_takes_1) (fun _ h9 => h9) rfl dX2_takes_5 ?_
  obtain ⟨n1, g2, h⟩ := bo1 h
  refine zb_callS (As := [.ref (ad 1), .ref (ad 2)]) (rest := []) ⟨hx, hb, hml, hown, hts⟩ (zc_X2_copies l D cI (ad 1) (ad 2) m_s m_m n1 g2) (va_cwS 2 hts gX2_takes_X2_copies rfl rfl rfl hd_X2_copies.2 ⟨Nat.le_of_ble_eq_true rfl, Nat.le_of_ble_eq_true rfl⟩) hK hP hD hS hA (zb_cM_s_m) rfl hl.1 rfl (Nat.le_of_ble_eq_true rfl) dX2_takes_8 ⟨Nat.le_refl _, Nat.le_refl _⟩ (fun H locs hP hD hS => ?_)
  refine lv_aload_n hx hb dX2_takes_11 rfl (lv_at hl 0 rfl) ?_
  refine va_get (D := D) (ci := 2) (v := .ref (ad 2)) (C := RX2) (T := TX2) (N := 14) hx hb hts zi_X2_takes_X2 hown hK.1 hP 0 rfl rfl 1 (by decide) (hts _ zk_X2_takes_1) (fun _ h9 => h9) rfl dX2_takes_12 ?_
  refine lv_iload_n hx hb dX2_takes_15 rfl (lv_at hl 1 rfl) ?_
  obtain ⟨n3, g4, h⟩ := bo1 h
  refine zb_callS (As := [.ref (ad 2), .int v1]) (rest := []) ⟨hx, hb, hml, hown, hts⟩ (zc_X2_stepsOn l D cI (ad 2) n1 v1 n3 g4) (va_cwS 2 hts gX2_takes_X2_stepsOn rfl rfl rfl hd_X2_stepsOn.2 ⟨Nat.le_of_ble_eq_true rfl, Nat.le_of_ble_eq_true rfl⟩) hK hP hD hS hA (zb_cM_m) rfl hl.1 rfl (Nat.le_of_ble_eq_true rfl) dX2_takes_16 ⟨Nat.le_refl _, Nat.le_refl _⟩ (fun H locs hP hD hS => ?_)
  obtain rfl := re1 h
  exact zb_vret hx hb hr hlk hP hS dX2_takes_19
abbrev rm_X2_personThen : Room := { frames := 6, cells := 0, slots := 0, locals := 134 }
theorem hd_X2_personThen : yX2_personThen.cls = RX2 ∧ yX2_personThen.cls ≠ "java/lang/invoke/MethodHandle" ∧ yX2_personThen.cls ≠ "java/lang/invoke/VarHandle" ∧ (parseMethodDescriptor yX2_personThen.desc).map (fun d => d.parameters.length) = some 3 := by decide +kernel
theorem zi_X2_personThen_X2 : ∀ w ∈ wsX20, w ∈ wsX2_personThen := fun _ h => List.mem_cons_of_mem _ (List.mem_append_right _ h)
theorem zk_X2_personThen_0 : Cond.fieldLink RX2 13 "GroutingIsFollowedModel" "m" "[I" ∈ wsX2_personThen := by decide +kernel
set_option maxHeartbeats 4000000 in
set_option maxRecDepth 100000 in
theorem zc_X2_personThen (l : Launch) (D : va_G) (cI : ClassId) (ad : Nat → Nat) (m_s : (Nat → Int32)) (m_m : (Nat → Int32)) (m_image : (Nat → Int32)) (m_was : (Nat → Int32)) (m_hasImage : Int32) (m_letters : (Nat → Int32)) (m_row : (Nat → Int32)) (m_refused : (Nat → Int32)) (m_letterMany : Int32) (m_rowMany : Int32) (m_place : Int32) (m_numbers : (Nat → Int32)) (m_cost : (Nat → Int32)) (m_seed : Int32) (v1 : Int32) (v2 : Int32) (v3 : Int32) (r0 : Int32) (w_m_m : (Nat → Int32)) (w_m_refused : (Nat → Int32)) (h : zf_X2_personThen m_s m_m m_refused v1 v2 v3 = some (r0, w_m_m, w_m_refused)) : Cn l D cI yX2_personThen wsX2_personThen rm_X2_personThen [.ref (ad 0), .int v1, .int v2, .int v3] (zb_M cI ad m_s m_m m_image m_was m_hasImage m_letters m_row m_refused m_letterMany m_rowMany m_place m_numbers m_cost m_seed) (some (.int r0)) (zb_M cI ad m_s w_m_m m_image m_was m_hasImage m_letters m_row w_m_refused m_letterMany m_rowMany m_place m_numbers m_cost m_seed) := by
  refine zb_ofW (cc := cX2_personThen) (maxL := 5) (ret := (some .int)) (by decide) rfl (Nat.le_of_ble_eq_true rfl) ?_
  intro p e s m args below meth c A ls hx hb hr hml hts hown hlk hK hP hD hA hl
  have hS : va_S A s.heap s.heap [] := va_S.rf
  have hl : lv_has ls 5 [(0, .ref (ad 0)), (1, .int v1), (2, .int v2), (3, .int v3)] := hl
  unfold zf_X2_personThen at h
  have j39 : ∀ (x1 : Int32) (x2 : (Nat → Int32)) (x3 : (Nat → Int32)) (H : Heap) (locs : List Loc) (hP : va_P D zb_cl (zb_M cI ad m_s x2 m_image m_was m_hasImage m_letters m_row x3 m_letterMany m_rowMany m_place m_numbers m_cost m_seed) H) (hD : va_D A (zb_M cI ad m_s x2 m_image m_was m_hasImage m_letters m_row x3 m_letterMany m_rowMany m_place m_numbers m_cost m_seed)) (hS : va_S A s.heap H locs) (ls : Array Slot) (hl : lv_has ls 5 [(0, .ref (ad 0)), (1, .int v1), (2, .int v2), (3, .int v3), (4, .int x1)]) (h : zf_X2_personThen_j39 v1 v2 v3 x1 m_s x2 x3 = some (r0, w_m_m, w_m_refused)), W p l e rm_X2_personThen s m args below meth c H locs 0 0 (zb_Q below D (some (.int r0)) (zb_M cI ad m_s w_m_m m_image m_was m_hasImage m_letters m_row w_m_refused m_letterMany m_rowMany m_place m_numbers m_cost m_seed) A args s) (F0 m 39 ls []) := by
    intro x1 x2 x3 H locs hP hD hS ls hl h
    unfold zf_X2_personThen_j39 at h
    refine lv_iload hx hb dX2_personThen_39 (lv_at hl 4 rfl) ?_
    refine lv_if_eq (tgt := 51) hx hb dX2_personThen_41 (by decide) (fun c4 => ?_) (fun c4 => ?_)
    · replace h := it_t c4 h
      refine lv_aload_n hx hb dX2_personThen_51 rfl (lv_at hl 0 rfl) ?_
      refine lv_iload_n hx hb dX2_personThen_52 rfl (lv_at hl 2 rfl) ?_
      obtain ⟨n5, g6, h⟩ := bo1 h
      refine zb_callV (As := [.int v2]) (rest := []) ⟨hx, hb, hml, hown, hts⟩ (zc_X2_takes l D cI ad m_s x2 m_image m_was m_hasImage m_letters m_row x3 m_letterMany m_rowMany m_place m_numbers m_cost m_seed v2 n5 g6) (cwV 1 hts gX2_personThen_X2_takes rfl rfl rfl hd_X2_takes ⟨Nat.le_of_ble_eq_true rfl, Nat.le_of_ble_eq_true rfl⟩) hK hP hD hS hA (zb_sM) (q0 := 0) rfl rfl rfl hl.1 rfl (Nat.le_of_ble_eq_true rfl) dX2_personThen_53 ⟨Nat.le_refl _, Nat.le_refl _⟩ (fun H locs hP hD hS => ?_)
      refine lv_aload_n hx hb dX2_personThen_56 rfl (lv_at hl 0 rfl) ?_
      refine va_get (D := D) (ci := 2) (v := .ref (ad 2)) (C := RX2) (T := TX2) (N := 14) hx hb hts zi_X2_personThen_X2 hown hK.1 hP 0 rfl rfl 1 (by decide) (hts _ zk_X2_personThen_0) (fun _ h9 => h9) rfl dX2_personThen_57 ?_
      refine lv_iload_n hx hb dX2_personThen_60 rfl (lv_at hl 1 rfl) ?_
      refine lv_iload_n hx hb dX2_personThen_61 rfl (lv_at hl 3 rfl) ?_
      obtain ⟨r7, g8, h⟩ := bo1 h
      refine zb_callS (As := [.int v1, .int v3]) (rest := [.ref (ad 2)]) ⟨hx, hb, hml, hown, hts⟩ (zc_X2_of l D cI v1 v3 r7 g8) (va_cwS 2 hts gX2_personThen_X2_of rfl rfl rfl hd_X2_of.2 ⟨Nat.le_of_ble_eq_true rfl, Nat.le_of_ble_eq_true rfl⟩) hK hP hD hS hA (zb_none _) rfl hl.1 rfl (Nat.le_of_ble_eq_true rfl) dX2_personThen_62 ⟨Nat.le_refl _, Nat.le_refl _⟩ (fun H locs hP hD hS => ?_)
      obtain ⟨h9, h⟩ := it_g h
      refine va_iald hx hb hK.1 hP 2 0 rfl rfl h9 dX2_personThen_65 ?_
      obtain ⟨rfl, rfl, rfl⟩ := re3 h
      exact zb_iret hx hb hr hlk hP hS dX2_personThen_66
    · replace h := it_f c4 h
      refine lv_aload_n hx hb dX2_personThen_44 rfl (lv_at hl 0 rfl) ?_
      refine lv_iload hx hb dX2_personThen_45 (lv_at hl 4 rfl) ?_
      obtain ⟨r10, n11, g12, h⟩ := bo2 h
      refine zb_callV (As := [.int x1]) (rest := []) ⟨hx, hb, hml, hown, hts⟩ (zc_X2_no l D cI ad m_s x2 m_image m_was m_hasImage m_letters m_row x3 m_letterMany m_rowMany m_place m_numbers m_cost m_seed x1 r10 n11 g12) (cwV 1 hts gX2_personThen_X2_no rfl rfl rfl hd_X2_no ⟨Nat.le_of_ble_eq_true rfl, Nat.le_of_ble_eq_true rfl⟩) hK hP hD hS hA (zb_sM) (q0 := 0) rfl rfl rfl hl.1 rfl (Nat.le_of_ble_eq_true rfl) dX2_personThen_47 ⟨Nat.le_refl _, Nat.le_refl _⟩ (fun H locs hP hD hS => ?_)
      obtain ⟨rfl, rfl, rfl⟩ := re3 h
      exact zb_iret hx hb hr hlk hP hS dX2_personThen_50
  refine lv_aload_n hx hb dX2_personThen_0 rfl (lv_at hl 0 rfl) ?_
  refine lv_iload_n hx hb dX2_personThen_1 rfl (lv_at hl 1 rfl) ?_
  obtain ⟨r13, g14, h⟩ := bo1 h
  refine zb_callV (As := [.int v1]) (rest := []) ⟨hx, hb, hml, hown, hts⟩ (zc_X2_isPerson l D cI ad m_s m_m m_image m_was m_hasImage m_letters m_row m_refused m_letterMany m_rowMany m_place m_numbers m_cost m_seed v1 r13 g14) (cwV 1 hts gX2_personThen_X2_isPerson rfl rfl rfl hd_X2_isPerson ⟨Nat.le_of_ble_eq_true rfl, Nat.le_of_ble_eq_true rfl⟩) hK hP hD hS hA (zb_sM) (q0 := 0) rfl rfl rfl hl.1 rfl (Nat.le_of_ble_eq_true rfl) dX2_personThen_2 ⟨Nat.le_refl _, Nat.le_refl _⟩ (fun H locs hP hD hS => ?_)
  refine lv_if_eq (tgt := 18) hx hb dX2_personThen_5 (by decide) (fun c15 => ?_) (fun c15 => ?_)
  · replace h := it_t c15 h
    refine lv_iconst (v := ((-1) : Int32)) hx hb dX2_personThen_18 (by decide) ?_
    refine lv_istore (lv' := [(4, .int ((-1) : Int32)), (0, .ref (ad 0)), (1, .int v1), (2, .int v2), (3, .int v3)]) hx hb dX2_personThen_19 hl (by decide) rfl (fun ls hl => ?_)
    refine lv_iload hx hb dX2_personThen_21 (lv_at hl 0 rfl) ?_
    refine lv_if_ne (tgt := 39) hx hb dX2_personThen_23 (by decide) (fun _ => ?_) (fun c16 => absurd c16 (by decide))
    exact j39 ((-1) : Int32) m_m m_refused _ _ hP hD hS ls (lv_sub hl [1, 2, 3, 4, 0] rfl) h
  · replace h := it_f c15 h
    refine lv_iload_n hx hb dX2_personThen_8 rfl (lv_at hl 2 rfl) ?_
    refine lv_iconst (v := (0 : Int32)) hx hb dX2_personThen_9 (by decide) ?_
    refine lv_bipush (v := (60 : Int32)) hx hb dX2_personThen_10 (by decide) ?_
    obtain ⟨r17, g18, h⟩ := bo1 h
    refine zb_callS (As := [.int v2, .int (0 : Int32), .int (60 : Int32)]) (rest := []) ⟨hx, hb, hml, hown, hts⟩ (zc_X2_wrongBy l D cI v2 (0 : Int32) (60 : Int32) r17 g18) (va_cwS 3 hts gX2_personThen_X2_wrongBy rfl rfl rfl hd_X2_wrongBy.2 ⟨Nat.le_of_ble_eq_true rfl, Nat.le_of_ble_eq_true rfl⟩) hK hP hD hS hA (zb_none _) rfl hl.1 rfl (Nat.le_of_ble_eq_true rfl) dX2_personThen_12 ⟨Nat.le_refl _, Nat.le_refl _⟩ (fun H locs hP hD hS => ?_)
    refine lv_goto (tgt := 19) hx hb dX2_personThen_15 (by decide) ?_
    refine lv_istore (lv' := [(4, .int r17), (0, .ref (ad 0)), (1, .int v1), (2, .int v2), (3, .int v3)]) hx hb dX2_personThen_19 hl (by decide) rfl (fun ls hl => ?_)
    refine lv_iload hx hb dX2_personThen_21 (lv_at hl 0 rfl) ?_
    refine lv_if_ne (tgt := 39) hx hb dX2_personThen_23 (by decide) (fun c19 => ?_) (fun c19 => ?_)
    · replace h := it_f c19 h
      exact j39 r17 m_m m_refused _ _ hP hD hS ls (lv_sub hl [1, 2, 3, 4, 0] rfl) h
    · replace h := it_t c19 h
      refine lv_iload_n hx hb dX2_personThen_26 rfl (lv_at hl 4 rfl) ?_
      refine lv_iconst (v := (0 : Int32)) hx hb dX2_personThen_27 (by decide) ?_
      refine lv_iconst (v := (2 : Int32)) hx hb dX2_personThen_28 (by decide) ?_
      obtain ⟨r20, g21, h⟩ := bo1 h
      refine zb_callS (As := [.int v3, .int (0 : Int32), .int (2 : Int32)]) (rest := []) ⟨hx, hb, hml, hown, hts⟩ (zc_X2_isIn l D cI v3 (0 : Int32) (2 : Int32) r20 g21) (va_cwS 3 hts gX2_personThen_X2_isIn rfl rfl rfl hd_X2_isIn.2 ⟨Nat.le_of_ble_eq_true rfl, Nat.le_of_ble_eq_true rfl⟩) hK hP hD hS hA (zb_none _) rfl hl.1 rfl (Nat.le_of_ble_eq_true rfl) dX2_personThen_29 ⟨Nat.le_refl _, Nat.le_refl _⟩ (fun H locs hP hD hS => ?_)
      refine lv_if_ne (tgt := 39) hx hb dX2_personThen_32 (by decide) (fun c22 => ?_) (fun c22 => ?_)
      · replace h := it_f c22 h
        exact j39 r17 m_m m_refused _ _ hP hD hS ls (lv_sub hl [1, 2, 3, 4, 0] rfl) h
      · replace h := it_t c22 h
        refine lv_bipush (v := ((-2) : Int32)) hx hb dX2_personThen_35 (by decide) ?_
        refine lv_istore (lv' := [(4, .int ((-2) : Int32)), (0, .ref (ad 0)), (1, .int v1), (2, .int v2), (3, .int v3)]) hx hb dX2_personThen_37 hl (by decide) rfl (fun ls hl => ?_)
        exact j39 ((-2) : Int32) m_m m_refused _ _ hP hD hS ls (lv_sub hl [1, 2, 3, 4, 0] rfl) h
abbrev rm_X2_wetThen : Room := { frames := 6, cells := 0, slots := 0, locals := 134 }
theorem hd_X2_wetThen : yX2_wetThen.cls = RX2 ∧ yX2_wetThen.cls ≠ "java/lang/invoke/MethodHandle" ∧ yX2_wetThen.cls ≠ "java/lang/invoke/VarHandle" ∧ (parseMethodDescriptor yX2_wetThen.desc).map (fun d => d.parameters.length) = some 2 := by decide +kernel
theorem zi_X2_wetThen_X2 : ∀ w ∈ wsX20, w ∈ wsX2_wetThen := fun _ h => List.mem_cons_of_mem _ (List.mem_append_right _ h)
theorem zk_X2_wetThen_0 : Cond.fieldLink RX2 13 "GroutingIsFollowedModel" "m" "[I" ∈ wsX2_wetThen := by decide +kernel
set_option maxHeartbeats 4000000 in
set_option maxRecDepth 100000 in
theorem zc_X2_wetThen (l : Launch) (D : va_G) (cI : ClassId) (ad : Nat → Nat) (m_s : (Nat → Int32)) (m_m : (Nat → Int32)) (m_image : (Nat → Int32)) (m_was : (Nat → Int32)) (m_hasImage : Int32) (m_letters : (Nat → Int32)) (m_row : (Nat → Int32)) (m_refused : (Nat → Int32)) (m_letterMany : Int32) (m_rowMany : Int32) (m_place : Int32) (m_numbers : (Nat → Int32)) (m_cost : (Nat → Int32)) (m_seed : Int32) (v1 : Int32) (v2 : Int32) (r0 : Int32) (w_m_m : (Nat → Int32)) (w_m_refused : (Nat → Int32)) (h : zf_X2_wetThen m_s m_m m_refused v1 v2 = some (r0, w_m_m, w_m_refused)) : Cn l D cI yX2_wetThen wsX2_wetThen rm_X2_wetThen [.ref (ad 0), .int v1, .int v2] (zb_M cI ad m_s m_m m_image m_was m_hasImage m_letters m_row m_refused m_letterMany m_rowMany m_place m_numbers m_cost m_seed) (some (.int r0)) (zb_M cI ad m_s w_m_m m_image m_was m_hasImage m_letters m_row w_m_refused m_letterMany m_rowMany m_place m_numbers m_cost m_seed) := by
  refine zb_ofW (cc := cX2_wetThen) (maxL := 4) (ret := (some .int)) (by decide) rfl (Nat.le_of_ble_eq_true rfl) ?_
  intro p e s m args below meth c A ls hx hb hr hml hts hown hlk hK hP hD hA hl
  have hS : va_S A s.heap s.heap [] := va_S.rf
  have hl : lv_has ls 4 [(0, .ref (ad 0)), (1, .int v1), (2, .int v2)] := hl
  unfold zf_X2_wetThen at h
  refine lv_iload_n hx hb dX2_wetThen_0 rfl (lv_at hl 1 rfl) ?_
  obtain ⟨r1, g2, h⟩ := bo1 h
  refine zb_callS (As := [.int v1]) (rest := []) ⟨hx, hb, hml, hown, hts⟩ (zc_X2_isNode l D cI v1 r1 g2) (va_cwS 1 hts gX2_wetThen_X2_isNode rfl rfl rfl hd_X2_isNode.2 ⟨Nat.le_of_ble_eq_true rfl, Nat.le_of_ble_eq_true rfl⟩) hK hP hD hS hA (zb_none _) rfl hl.1 rfl (Nat.le_of_ble_eq_true rfl) dX2_wetThen_1 ⟨Nat.le_refl _, Nat.le_refl _⟩ (fun H locs hP hD hS => ?_)
  refine lv_if_eq (tgt := 17) hx hb dX2_wetThen_4 (by decide) (fun c3 => ?_) (fun c3 => ?_)
  · replace h := it_t c3 h
    refine lv_iconst (v := ((-1) : Int32)) hx hb dX2_wetThen_17 (by decide) ?_
    refine lv_istore_n (lv' := [(3, .int ((-1) : Int32)), (0, .ref (ad 0)), (1, .int v1), (2, .int v2)]) hx hb dX2_wetThen_18 rfl hl (by decide) rfl (fun ls hl => ?_)
    refine lv_iload_n hx hb dX2_wetThen_19 rfl (lv_at hl 0 rfl) ?_
    refine lv_if_eq (tgt := 29) hx hb dX2_wetThen_20 (by decide) (fun c4 => absurd c4 (by decide)) (fun _ => ?_)
    refine lv_aload_n hx hb dX2_wetThen_23 rfl (lv_at hl 1 rfl) ?_
    refine lv_iload_n hx hb dX2_wetThen_24 rfl (lv_at hl 0 rfl) ?_
    obtain ⟨r5, n6, g7, h⟩ := bo2 h
    refine zb_callV (As := [.int ((-1) : Int32)]) (rest := []) ⟨hx, hb, hml, hown, hts⟩ (zc_X2_no l D cI ad m_s m_m m_image m_was m_hasImage m_letters m_row m_refused m_letterMany m_rowMany m_place m_numbers m_cost m_seed ((-1) : Int32) r5 n6 g7) (cwV 1 hts gX2_wetThen_X2_no rfl rfl rfl hd_X2_no ⟨Nat.le_of_ble_eq_true rfl, Nat.le_of_ble_eq_true rfl⟩) hK hP hD hS hA (zb_sM) (q0 := 0) rfl rfl rfl hl.1 rfl (Nat.le_of_ble_eq_true rfl) dX2_wetThen_25 ⟨Nat.le_refl _, Nat.le_refl _⟩ (fun H locs hP hD hS => ?_)
    obtain ⟨rfl, rfl, rfl⟩ := re3 h
    exact zb_iret hx hb hr hlk hP hS dX2_wetThen_28
  · replace h := it_f c3 h
    refine lv_iload_n hx hb dX2_wetThen_7 rfl (lv_at hl 2 rfl) ?_
    refine lv_iconst (v := (0 : Int32)) hx hb dX2_wetThen_8 (by decide) ?_
    refine lv_bipush (v := (60 : Int32)) hx hb dX2_wetThen_9 (by decide) ?_
    obtain ⟨r8, g9, h⟩ := bo1 h
    refine zb_callS (As := [.int v2, .int (0 : Int32), .int (60 : Int32)]) (rest := []) ⟨hx, hb, hml, hown, hts⟩ (zc_X2_wrongBy l D cI v2 (0 : Int32) (60 : Int32) r8 g9) (va_cwS 3 hts gX2_wetThen_X2_wrongBy rfl rfl rfl hd_X2_wrongBy.2 ⟨Nat.le_of_ble_eq_true rfl, Nat.le_of_ble_eq_true rfl⟩) hK hP hD hS hA (zb_none _) rfl hl.1 rfl (Nat.le_of_ble_eq_true rfl) dX2_wetThen_11 ⟨Nat.le_refl _, Nat.le_refl _⟩ (fun H locs hP hD hS => ?_)
    refine lv_goto (tgt := 18) hx hb dX2_wetThen_14 (by decide) ?_
    refine lv_istore_n (lv' := [(3, .int r8), (0, .ref (ad 0)), (1, .int v1), (2, .int v2)]) hx hb dX2_wetThen_18 rfl hl (by decide) rfl (fun ls hl => ?_)
    refine lv_iload_n hx hb dX2_wetThen_19 rfl (lv_at hl 0 rfl) ?_
    refine lv_if_eq (tgt := 29) hx hb dX2_wetThen_20 (by decide) (fun c10 => ?_) (fun c10 => ?_)
    · replace h := it_t c10 h
      refine lv_aload_n hx hb dX2_wetThen_29 rfl (lv_at hl 1 rfl) ?_
      refine lv_iload_n hx hb dX2_wetThen_30 rfl (lv_at hl 3 rfl) ?_
      obtain ⟨n11, g12, h⟩ := bo1 h
      refine zb_callV (As := [.int v2]) (rest := []) ⟨hx, hb, hml, hown, hts⟩ (zc_X2_takes l D cI ad m_s m_m m_image m_was m_hasImage m_letters m_row m_refused m_letterMany m_rowMany m_place m_numbers m_cost m_seed v2 n11 g12) (cwV 1 hts gX2_wetThen_X2_takes rfl rfl rfl hd_X2_takes ⟨Nat.le_of_ble_eq_true rfl, Nat.le_of_ble_eq_true rfl⟩) hK hP hD hS hA (zb_sM) (q0 := 0) rfl rfl rfl hl.1 rfl (Nat.le_of_ble_eq_true rfl) dX2_wetThen_31 ⟨Nat.le_refl _, Nat.le_refl _⟩ (fun H locs hP hD hS => ?_)
      refine lv_aload_n hx hb dX2_wetThen_34 rfl (lv_at hl 1 rfl) ?_
      refine va_get (D := D) (ci := 2) (v := .ref (ad 2)) (C := RX2) (T := TX2) (N := 14) hx hb hts zi_X2_wetThen_X2 hown hK.1 hP 0 rfl rfl 1 (by decide) (hts _ zk_X2_wetThen_0) (fun _ h9 => h9) rfl dX2_wetThen_35 ?_
      refine lv_bipush (v := (63 : Int32)) hx hb dX2_wetThen_38 (by decide) ?_
      refine lv_iload_n hx hb dX2_wetThen_40 rfl (lv_at hl 2 rfl) ?_
      refine lv_iadd hx hb dX2_wetThen_41 ?_
      obtain ⟨h13, h⟩ := it_g h
      refine va_iald hx hb hK.1 hP 2 0 rfl rfl h13 dX2_wetThen_42 ?_
      obtain ⟨rfl, rfl, rfl⟩ := re3 h
      exact zb_iret hx hb hr hlk hP hS dX2_wetThen_43
    · replace h := it_f c10 h
      refine lv_aload_n hx hb dX2_wetThen_23 rfl (lv_at hl 1 rfl) ?_
      refine lv_iload_n hx hb dX2_wetThen_24 rfl (lv_at hl 0 rfl) ?_
      obtain ⟨r14, n15, g16, h⟩ := bo2 h
      refine zb_callV (As := [.int r8]) (rest := []) ⟨hx, hb, hml, hown, hts⟩ (zc_X2_no l D cI ad m_s m_m m_image m_was m_hasImage m_letters m_row m_refused m_letterMany m_rowMany m_place m_numbers m_cost m_seed r8 r14 n15 g16) (cwV 1 hts gX2_wetThen_X2_no rfl rfl rfl hd_X2_no ⟨Nat.le_of_ble_eq_true rfl, Nat.le_of_ble_eq_true rfl⟩) hK hP hD hS hA (zb_sM) (q0 := 0) rfl rfl rfl hl.1 rfl (Nat.le_of_ble_eq_true rfl) dX2_wetThen_25 ⟨Nat.le_refl _, Nat.le_refl _⟩ (fun H locs hP hD hS => ?_)
      obtain ⟨rfl, rfl, rfl⟩ := re3 h
      exact zb_iret hx hb hr hlk hP hS dX2_wetThen_28
abbrev rm_X2_comesTo : Room := { frames := 4, cells := 0, slots := 0, locals := 91 }
theorem hd_X2_comesTo : yX2_comesTo.cls = RX2 ∧ yX2_comesTo.cls ≠ "java/lang/invoke/MethodHandle" ∧ yX2_comesTo.cls ≠ "java/lang/invoke/VarHandle" ∧ (parseMethodDescriptor yX2_comesTo.desc).map (fun d => d.parameters.length) = some 2 := by decide +kernel
theorem zi_X2_comesTo_X2 : ∀ w ∈ wsX20, w ∈ wsX2_comesTo := fun _ h => List.mem_cons_of_mem _ (List.mem_append_right _ h)
theorem zk_X2_comesTo_0 : Cond.fieldLink RX2 13 "GroutingIsFollowedModel" "m" "[I" ∈ wsX2_comesTo := by decide +kernel
set_option maxHeartbeats 4000000 in
set_option maxRecDepth 100000 in
theorem zc_X2_comesTo (l : Launch) (D : va_G) (cI : ClassId) (ad : Nat → Nat) (m_s : (Nat → Int32)) (m_m : (Nat → Int32)) (m_image : (Nat → Int32)) (m_was : (Nat → Int32)) (m_hasImage : Int32) (m_letters : (Nat → Int32)) (m_row : (Nat → Int32)) (m_refused : (Nat → Int32)) (m_letterMany : Int32) (m_rowMany : Int32) (m_place : Int32) (m_numbers : (Nat → Int32)) (m_cost : (Nat → Int32)) (m_seed : Int32) (v1 : Int32) (v2 : Int32) (r0 : Int32) (w_m_m : (Nat → Int32)) (h : zf_X2_comesTo m_m v1 v2 = some (r0, w_m_m)) : Cn l D cI yX2_comesTo wsX2_comesTo rm_X2_comesTo [.ref (ad 0), .int v1, .int v2] (zb_M cI ad m_s m_m m_image m_was m_hasImage m_letters m_row m_refused m_letterMany m_rowMany m_place m_numbers m_cost m_seed) (some (.int r0)) (zb_M cI ad m_s w_m_m m_image m_was m_hasImage m_letters m_row m_refused m_letterMany m_rowMany m_place m_numbers m_cost m_seed) := by
  refine zb_ofW (cc := cX2_comesTo) (maxL := 4) (ret := (some .int)) (by decide) rfl (Nat.le_of_ble_eq_true rfl) ?_
  intro p e s m args below meth c A ls hx hb hr hml hts hown hlk hK hP hD hA hl
  have hS : va_S A s.heap s.heap [] := va_S.rf
  have hl : lv_has ls 4 [(0, .ref (ad 0)), (1, .int v1), (2, .int v2)] := hl
  unfold zf_X2_comesTo at h
  refine lv_iconst (v := (0 : Int32)) hx hb dX2_comesTo_0 (by decide) ?_
  refine lv_istore_n (lv' := [(3, .int (0 : Int32)), (0, .ref (ad 0)), (1, .int v1), (2, .int v2)]) hx hb dX2_comesTo_1 rfl hl (by decide) rfl (fun ls hl => ?_)
  have lp3 : ∀ (fu3 : Nat) (x1 : Int32) (x2 : (Nat → Int32)) (H : Heap) (locs : List Loc) (hP : va_P D zb_cl (zb_M cI ad m_s x2 m_image m_was m_hasImage m_letters m_row m_refused m_letterMany m_rowMany m_place m_numbers m_cost m_seed) H) (hD : va_D A (zb_M cI ad m_s x2 m_image m_was m_hasImage m_letters m_row m_refused m_letterMany m_rowMany m_place m_numbers m_cost m_seed)) (hS : va_S A s.heap H locs) (ls : Array Slot) (hl : lv_has ls 4 [(0, .ref (ad 0)), (1, .int v1), (2, .int v2), (3, .int x1)]) (h : zl2 (zf_X2_comesTo_b2 v1 v2) fu3 x1 x2 = some (r0, w_m_m)), W p l e rm_X2_comesTo s m args below meth c H locs 0 0 (zb_Q below D (some (.int r0)) (zb_M cI ad m_s w_m_m m_image m_was m_hasImage m_letters m_row m_refused m_letterMany m_rowMany m_place m_numbers m_cost m_seed) A args s) (F0 m 2 ls []) := by
    intro fu3
    induction fu3 with
    | zero => intro x1 x2 H locs hP hD hS ls hl h; exact zb_no h
    | succ fu3 ih3 =>
      intro x1 x2 H locs hP hD hS ls hl h
      replace h : zf_X2_comesTo_b2 v1 v2 (zl2 (zf_X2_comesTo_b2 v1 v2) fu3) x1 x2 = some (r0, w_m_m) := h
      unfold zf_X2_comesTo_b2 at h
      refine lv_iload_n hx hb dX2_comesTo_2 rfl (lv_at hl 3 rfl) ?_
      refine lv_bipush (v := (60 : Int32)) hx hb dX2_comesTo_3 (by decide) ?_
      refine lv_icmp_gt (tgt := 37) hx hb dX2_comesTo_5 (by decide) (fun c4 => ?_) (fun c4 => ?_)
      · replace h := it_t c4 h
        refine lv_bipush (v := ((-9) : Int32)) hx hb dX2_comesTo_37 (by decide) ?_
        obtain ⟨rfl, rfl⟩ := re2 h
        exact zb_iret hx hb hr hlk hP hS dX2_comesTo_39
      · replace h := it_f c4 h
        refine lv_aload_n hx hb dX2_comesTo_8 rfl (lv_at hl 0 rfl) ?_
        refine va_get (D := D) (ci := 2) (v := .ref (ad 2)) (C := RX2) (T := TX2) (N := 14) hx hb hts zi_X2_comesTo_X2 hown hK.1 hP 0 rfl rfl 1 (by decide) (hts _ zk_X2_comesTo_0) (fun _ h9 => h9) rfl dX2_comesTo_9 ?_
        refine lv_iload_n hx hb dX2_comesTo_12 rfl (lv_at hl 1 rfl) ?_
        refine lv_iconst (v := (0 : Int32)) hx hb dX2_comesTo_13 (by decide) ?_
        obtain ⟨r5, g6, h⟩ := bo1 h
        refine zb_callS (As := [.int v1, .int (0 : Int32)]) (rest := [.ref (ad 2)]) ⟨hx, hb, hml, hown, hts⟩ (zc_X2_of l D cI v1 (0 : Int32) r5 g6) (va_cwS 2 hts gX2_comesTo_X2_of rfl rfl rfl hd_X2_of.2 ⟨Nat.le_of_ble_eq_true rfl, Nat.le_of_ble_eq_true rfl⟩) hK hP hD hS hA (zb_none _) rfl hl.1 rfl (Nat.le_of_ble_eq_true rfl) dX2_comesTo_14 ⟨Nat.le_refl _, Nat.le_refl _⟩ (fun H locs hP hD hS => ?_)
        obtain ⟨h7, h⟩ := it_g h
        refine va_iald hx hb hK.1 hP 2 0 rfl rfl h7 dX2_comesTo_17 ?_
        refine lv_iload_n hx hb dX2_comesTo_18 rfl (lv_at hl 2 rfl) ?_
        refine lv_icmp_ne (tgt := 24) hx hb dX2_comesTo_19 (by decide) (fun c8 => ?_) (fun c8 => ?_)
        · replace h := it_f c8 h
          refine lv_aload_n hx hb dX2_comesTo_24 rfl (lv_at hl 0 rfl) ?_
          refine va_get (D := D) (ci := 2) (v := .ref (ad 2)) (C := RX2) (T := TX2) (N := 14) hx hb hts zi_X2_comesTo_X2 hown hK.1 hP 0 rfl rfl 1 (by decide) (hts _ zk_X2_comesTo_0) (fun _ h9 => h9) rfl dX2_comesTo_25 ?_
          obtain ⟨n9, g10, h⟩ := bo1 h
          refine zb_callS (As := [.ref (ad 2)]) (rest := []) ⟨hx, hb, hml, hown, hts⟩ (zc_X2_step l D cI (ad 2) x2 n9 g10) (va_cwS 1 hts gX2_comesTo_X2_step rfl rfl rfl hd_X2_step.2 ⟨Nat.le_of_ble_eq_true rfl, Nat.le_of_ble_eq_true rfl⟩) hK hP hD hS hA (zb_cM_m) rfl hl.1 rfl (Nat.le_of_ble_eq_true rfl) dX2_comesTo_28 ⟨Nat.le_refl _, Nat.le_refl _⟩ (fun H locs hP hD hS => ?_)
          refine lv_iinc (v := (x1 + (1 : Int32))) (lv' := [(3, .int (x1 + (1 : Int32))), (0, .ref (ad 0)), (1, .int v1), (2, .int v2)]) hx hb dX2_comesTo_31 hl (k := 3) rfl (by first | rfl | decide) (by decide) rfl (fun ls hl => ?_)
          refine lv_goto (tgt := 2) hx hb dX2_comesTo_34 (by decide) ?_
          exact ih3 (x1 + (1 : Int32)) n9 _ _ hP hD hS ls (lv_sub hl [1, 2, 3, 0] rfl) h
        · replace h := it_t c8 h
          refine lv_iload_n hx hb dX2_comesTo_22 rfl (lv_at hl 3 rfl) ?_
          obtain ⟨rfl, rfl⟩ := re2 h
          exact zb_iret hx hb hr hlk hP hS dX2_comesTo_23
  exact lp3 zb_FU (0 : Int32) m_m _ _ hP hD hS ls (lv_sub hl [1, 2, 3, 0] rfl) h
abbrev rm_X2_comes : Room := { frames := 5, cells := 0, slots := 0, locals := 114 }
theorem hd_X2_comes : yX2_comes.cls = RX2 ∧ yX2_comes.cls ≠ "java/lang/invoke/MethodHandle" ∧ yX2_comes.cls ≠ "java/lang/invoke/VarHandle" ∧ (parseMethodDescriptor yX2_comes.desc).map (fun d => d.parameters.length) = some 2 := by decide +kernel
theorem zi_X2_comes_X2 : ∀ w ∈ wsX20, w ∈ wsX2_comes := fun _ h => List.mem_cons_of_mem _ (List.mem_append_right _ h)
theorem zk_X2_comes_0 : Cond.fieldLink RX2 9 "GroutingIsFollowedModel" "s" "[I" ∈ wsX2_comes := by decide +kernel
theorem zk_X2_comes_1 : Cond.fieldLink RX2 13 "GroutingIsFollowedModel" "m" "[I" ∈ wsX2_comes := by decide +kernel
set_option maxHeartbeats 4000000 in
set_option maxRecDepth 100000 in
theorem zc_X2_comes (l : Launch) (D : va_G) (cI : ClassId) (ad : Nat → Nat) (m_s : (Nat → Int32)) (m_m : (Nat → Int32)) (m_image : (Nat → Int32)) (m_was : (Nat → Int32)) (m_hasImage : Int32) (m_letters : (Nat → Int32)) (m_row : (Nat → Int32)) (m_refused : (Nat → Int32)) (m_letterMany : Int32) (m_rowMany : Int32) (m_place : Int32) (m_numbers : (Nat → Int32)) (m_cost : (Nat → Int32)) (m_seed : Int32) (v1 : Int32) (v2 : Int32) (r0 : Int32) (w_m_m : (Nat → Int32)) (w_m_refused : (Nat → Int32)) (h : zf_X2_comes m_s m_m m_refused v1 v2 = some (r0, w_m_m, w_m_refused)) : Cn l D cI yX2_comes wsX2_comes rm_X2_comes [.ref (ad 0), .int v1, .int v2] (zb_M cI ad m_s m_m m_image m_was m_hasImage m_letters m_row m_refused m_letterMany m_rowMany m_place m_numbers m_cost m_seed) (some (.int r0)) (zb_M cI ad m_s w_m_m m_image m_was m_hasImage m_letters m_row w_m_refused m_letterMany m_rowMany m_place m_numbers m_cost m_seed) := by
  refine zb_ofW (cc := cX2_comes) (maxL := 3) (ret := (some .int)) (by decide) rfl (Nat.le_of_ble_eq_true rfl) ?_
  intro p e s m args below meth c A ls hx hb hr hml hts hown hlk hK hP hD hA hl
  have hS : va_S A s.heap s.heap [] := va_S.rf
  have hl : lv_has ls 3 [(0, .ref (ad 0)), (1, .int v1), (2, .int v2)] := hl
  unfold zf_X2_comes at h
  refine lv_aload_n hx hb dX2_comes_0 rfl (lv_at hl 0 rfl) ?_
  refine lv_iload_n hx hb dX2_comes_1 rfl (lv_at hl 1 rfl) ?_
  refine lv_iload_n hx hb dX2_comes_2 rfl (lv_at hl 2 rfl) ?_
  obtain ⟨r1, g2, h⟩ := bo1 h
  refine zb_callV (As := [.int v1, .int v2]) (rest := []) ⟨hx, hb, hml, hown, hts⟩ (zc_X2_areThere l D cI ad m_s m_m m_image m_was m_hasImage m_letters m_row m_refused m_letterMany m_rowMany m_place m_numbers m_cost m_seed v1 v2 r1 g2) (cwV 2 hts gX2_comes_X2_areThere rfl rfl rfl hd_X2_areThere ⟨Nat.le_of_ble_eq_true rfl, Nat.le_of_ble_eq_true rfl⟩) hK hP hD hS hA (zb_sM) (q0 := 0) rfl rfl rfl hl.1 rfl (Nat.le_of_ble_eq_true rfl) dX2_comes_3 ⟨Nat.le_refl _, Nat.le_refl _⟩ (fun H locs hP hD hS => ?_)
  refine lv_if_ne (tgt := 15) hx hb dX2_comes_6 (by decide) (fun c3 => ?_) (fun c3 => ?_)
  · replace h := it_f c3 h
    refine lv_aload_n hx hb dX2_comes_15 rfl (lv_at hl 0 rfl) ?_
    refine va_get (D := D) (ci := 2) (v := .ref (ad 1)) (C := RX2) (T := TX2) (N := 14) hx hb hts zi_X2_comes_X2 hown hK.1 hP 0 rfl rfl 0 (by decide) (hts _ zk_X2_comes_0) (fun _ h9 => h9) rfl dX2_comes_16 ?_
    refine lv_aload_n hx hb dX2_comes_19 rfl (lv_at hl 0 rfl) ?_
    refine va_get (D := D) (ci := 2) (v := .ref (ad 2)) (C := RX2) (T := TX2) (N := 14) hx hb hts zi_X2_comes_X2 hown hK.1 hP 0 rfl rfl 1 (by decide) (hts _ zk_X2_comes_1) (fun _ h9 => h9) rfl dX2_comes_20 ?_
    obtain ⟨n4, g5, h⟩ := bo1 h
    refine zb_callS (As := [.ref (ad 1), .ref (ad 2)]) (rest := []) ⟨hx, hb, hml, hown, hts⟩ (zc_X2_copies l D cI (ad 1) (ad 2) m_s m_m n4 g5) (va_cwS 2 hts gX2_comes_X2_copies rfl rfl rfl hd_X2_copies.2 ⟨Nat.le_of_ble_eq_true rfl, Nat.le_of_ble_eq_true rfl⟩) hK hP hD hS hA (zb_cM_s_m) rfl hl.1 rfl (Nat.le_of_ble_eq_true rfl) dX2_comes_23 ⟨Nat.le_refl _, Nat.le_refl _⟩ (fun H locs hP hD hS => ?_)
    refine lv_aload_n hx hb dX2_comes_26 rfl (lv_at hl 0 rfl) ?_
    refine lv_iload_n hx hb dX2_comes_27 rfl (lv_at hl 1 rfl) ?_
    refine lv_iload_n hx hb dX2_comes_28 rfl (lv_at hl 2 rfl) ?_
    obtain ⟨r6, n7, g8, h⟩ := bo2 h
    refine zb_callV (As := [.int v1, .int v2]) (rest := []) ⟨hx, hb, hml, hown, hts⟩ (zc_X2_comesTo l D cI ad m_s n4 m_image m_was m_hasImage m_letters m_row m_refused m_letterMany m_rowMany m_place m_numbers m_cost m_seed v1 v2 r6 n7 g8) (cwV 2 hts gX2_comes_X2_comesTo rfl rfl rfl hd_X2_comesTo ⟨Nat.le_of_ble_eq_true rfl, Nat.le_of_ble_eq_true rfl⟩) hK hP hD hS hA (zb_sM) (q0 := 0) rfl rfl rfl hl.1 rfl (Nat.le_of_ble_eq_true rfl) dX2_comes_29 ⟨Nat.le_refl _, Nat.le_refl _⟩ (fun H locs hP hD hS => ?_)
    obtain ⟨rfl, rfl, rfl⟩ := re3 h
    exact zb_iret hx hb hr hlk hP hS dX2_comes_32
  · replace h := it_t c3 h
    refine lv_aload_n hx hb dX2_comes_9 rfl (lv_at hl 0 rfl) ?_
    refine lv_iconst (v := ((-1) : Int32)) hx hb dX2_comes_10 (by decide) ?_
    obtain ⟨r9, n10, g11, h⟩ := bo2 h
    refine zb_callV (As := [.int ((-1) : Int32)]) (rest := []) ⟨hx, hb, hml, hown, hts⟩ (zc_X2_no l D cI ad m_s m_m m_image m_was m_hasImage m_letters m_row m_refused m_letterMany m_rowMany m_place m_numbers m_cost m_seed ((-1) : Int32) r9 n10 g11) (cwV 1 hts gX2_comes_X2_no rfl rfl rfl hd_X2_no ⟨Nat.le_of_ble_eq_true rfl, Nat.le_of_ble_eq_true rfl⟩) hK hP hD hS hA (zb_sM) (q0 := 0) rfl rfl rfl hl.1 rfl (Nat.le_of_ble_eq_true rfl) dX2_comes_11 ⟨Nat.le_refl _, Nat.le_refl _⟩ (fun H locs hP hD hS => ?_)
    obtain ⟨rfl, rfl, rfl⟩ := re3 h
    exact zb_iret hx hb hr hlk hP hS dX2_comes_14
abbrev rm_X2_visitsIn : Room := { frames := 4, cells := 0, slots := 0, locals := 91 }
theorem hd_X2_visitsIn : yX2_visitsIn.cls = RX2 ∧ yX2_visitsIn.cls ≠ "java/lang/invoke/MethodHandle" ∧ yX2_visitsIn.cls ≠ "java/lang/invoke/VarHandle" ∧ (parseMethodDescriptor yX2_visitsIn.desc).map (fun d => d.parameters.length) = some 2 := by decide +kernel
theorem zi_X2_visitsIn_X2 : ∀ w ∈ wsX20, w ∈ wsX2_visitsIn := fun _ h => List.mem_cons_of_mem _ (List.mem_append_right _ h)
theorem zk_X2_visitsIn_0 : Cond.fieldLink RX2 13 "GroutingIsFollowedModel" "m" "[I" ∈ wsX2_visitsIn := by decide +kernel
set_option maxHeartbeats 4000000 in
set_option maxRecDepth 100000 in
theorem zc_X2_visitsIn (l : Launch) (D : va_G) (cI : ClassId) (ad : Nat → Nat) (m_s : (Nat → Int32)) (m_m : (Nat → Int32)) (m_image : (Nat → Int32)) (m_was : (Nat → Int32)) (m_hasImage : Int32) (m_letters : (Nat → Int32)) (m_row : (Nat → Int32)) (m_refused : (Nat → Int32)) (m_letterMany : Int32) (m_rowMany : Int32) (m_place : Int32) (m_numbers : (Nat → Int32)) (m_cost : (Nat → Int32)) (m_seed : Int32) (v1 : Int32) (v2 : Int32) (r0 : Int32) (w_m_m : (Nat → Int32)) (h : zf_X2_visitsIn m_m v1 v2 = some (r0, w_m_m)) : Cn l D cI yX2_visitsIn wsX2_visitsIn rm_X2_visitsIn [.ref (ad 0), .int v1, .int v2] (zb_M cI ad m_s m_m m_image m_was m_hasImage m_letters m_row m_refused m_letterMany m_rowMany m_place m_numbers m_cost m_seed) (some (.int r0)) (zb_M cI ad m_s w_m_m m_image m_was m_hasImage m_letters m_row m_refused m_letterMany m_rowMany m_place m_numbers m_cost m_seed) := by
  refine zb_ofW (cc := cX2_visitsIn) (maxL := 5) (ret := (some .int)) (by decide) rfl (Nat.le_of_ble_eq_true rfl) ?_
  intro p e s m args below meth c A ls hx hb hr hml hts hown hlk hK hP hD hA hl
  have hS : va_S A s.heap s.heap [] := va_S.rf
  have hl : lv_has ls 5 [(0, .ref (ad 0)), (1, .int v1), (2, .int v2)] := hl
  unfold zf_X2_visitsIn at h
  refine lv_iconst (v := (1 : Int32)) hx hb dX2_visitsIn_0 (by decide) ?_
  refine lv_aload_n hx hb dX2_visitsIn_1 rfl (lv_at hl 0 rfl) ?_
  refine va_get (D := D) (ci := 2) (v := .ref (ad 2)) (C := RX2) (T := TX2) (N := 14) hx hb hts zi_X2_visitsIn_X2 hown hK.1 hP 0 rfl rfl 1 (by decide) (hts _ zk_X2_visitsIn_0) (fun _ h9 => h9) rfl dX2_visitsIn_2 ?_
  refine lv_iload_n hx hb dX2_visitsIn_5 rfl (lv_at hl 1 rfl) ?_
  refine lv_iconst (v := (0 : Int32)) hx hb dX2_visitsIn_6 (by decide) ?_
  obtain ⟨r1, g2, h⟩ := bo1 h
  refine zb_callS (As := [.int v1, .int (0 : Int32)]) (rest := [.ref (ad 2), .int (1 : Int32)]) ⟨hx, hb, hml, hown, hts⟩ (zc_X2_of l D cI v1 (0 : Int32) r1 g2) (va_cwS 2 hts gX2_visitsIn_X2_of rfl rfl rfl hd_X2_of.2 ⟨Nat.le_of_ble_eq_true rfl, Nat.le_of_ble_eq_true rfl⟩) hK hP hD hS hA (zb_none _) rfl hl.1 rfl (Nat.le_of_ble_eq_true rfl) dX2_visitsIn_7 ⟨Nat.le_refl _, Nat.le_refl _⟩ (fun H locs hP hD hS => ?_)
  obtain ⟨h3, h⟩ := it_g h
  refine va_iald hx hb hK.1 hP 2 0 rfl rfl h3 dX2_visitsIn_10 ?_
  refine lv_ishl hx hb dX2_visitsIn_11 ?_
  refine lv_istore_n (lv' := [(3, .int ((1 : Int32) <<< ((m_m r1.toNatClampNeg) &&& 31))), (0, .ref (ad 0)), (1, .int v1), (2, .int v2)]) hx hb dX2_visitsIn_12 rfl hl (by decide) rfl (fun ls hl => ?_)
  refine lv_iconst (v := (0 : Int32)) hx hb dX2_visitsIn_13 (by decide) ?_
  refine lv_istore (lv' := [(4, .int (0 : Int32)), (3, .int ((1 : Int32) <<< ((m_m r1.toNatClampNeg) &&& 31))), (0, .ref (ad 0)), (1, .int v1), (2, .int v2)]) hx hb dX2_visitsIn_14 hl (by decide) rfl (fun ls hl => ?_)
  have lp7 : ∀ (fu7 : Nat) (x4 : Int32) (x5 : Int32) (x6 : (Nat → Int32)) (H : Heap) (locs : List Loc) (hP : va_P D zb_cl (zb_M cI ad m_s x6 m_image m_was m_hasImage m_letters m_row m_refused m_letterMany m_rowMany m_place m_numbers m_cost m_seed) H) (hD : va_D A (zb_M cI ad m_s x6 m_image m_was m_hasImage m_letters m_row m_refused m_letterMany m_rowMany m_place m_numbers m_cost m_seed)) (hS : va_S A s.heap H locs) (ls : Array Slot) (hl : lv_has ls 5 [(0, .ref (ad 0)), (1, .int v1), (2, .int v2), (3, .int x4), (4, .int x5)]) (h : zl3 (zf_X2_visitsIn_b16 v1 v2) fu7 x4 x5 x6 = some (r0, w_m_m)), W p l e rm_X2_visitsIn s m args below meth c H locs 0 0 (zb_Q below D (some (.int r0)) (zb_M cI ad m_s w_m_m m_image m_was m_hasImage m_letters m_row m_refused m_letterMany m_rowMany m_place m_numbers m_cost m_seed) A args s) (F0 m 16 ls []) := by
    intro fu7
    induction fu7 with
    | zero => intro x4 x5 x6 H locs hP hD hS ls hl h; exact zb_no h
    | succ fu7 ih7 =>
      intro x4 x5 x6 H locs hP hD hS ls hl h
      replace h : zf_X2_visitsIn_b16 v1 v2 (zl3 (zf_X2_visitsIn_b16 v1 v2) fu7) x4 x5 x6 = some (r0, w_m_m) := h
      unfold zf_X2_visitsIn_b16 at h
      refine lv_iload hx hb dX2_visitsIn_16 (lv_at hl 4 rfl) ?_
      refine lv_iload_n hx hb dX2_visitsIn_18 rfl (lv_at hl 2 rfl) ?_
      refine lv_icmp_ge (tgt := 50) hx hb dX2_visitsIn_19 (by decide) (fun c8 => ?_) (fun c8 => ?_)
      · replace h := it_t c8 h
        refine lv_iload_n hx hb dX2_visitsIn_50 rfl (lv_at hl 3 rfl) ?_
        obtain ⟨r9, g10, h⟩ := bo1 h
        refine zb_callS (As := [.int x4]) (rest := []) ⟨hx, hb, hml, hown, hts⟩ (zc_X2_bits l D cI x4 r9 g10) (va_cwS 1 hts gX2_visitsIn_X2_bits rfl rfl rfl hd_X2_bits.2 ⟨Nat.le_of_ble_eq_true rfl, Nat.le_of_ble_eq_true rfl⟩) hK hP hD hS hA (zb_none _) rfl hl.1 rfl (Nat.le_of_ble_eq_true rfl) dX2_visitsIn_51 ⟨Nat.le_refl _, Nat.le_refl _⟩ (fun H locs hP hD hS => ?_)
        obtain ⟨rfl, rfl⟩ := re2 h
        exact zb_iret hx hb hr hlk hP hS dX2_visitsIn_54
      · replace h := it_f c8 h
        refine lv_aload_n hx hb dX2_visitsIn_22 rfl (lv_at hl 0 rfl) ?_
        refine va_get (D := D) (ci := 2) (v := .ref (ad 2)) (C := RX2) (T := TX2) (N := 14) hx hb hts zi_X2_visitsIn_X2 hown hK.1 hP 0 rfl rfl 1 (by decide) (hts _ zk_X2_visitsIn_0) (fun _ h9 => h9) rfl dX2_visitsIn_23 ?_
        obtain ⟨n11, g12, h⟩ := bo1 h
        refine zb_callS (As := [.ref (ad 2)]) (rest := []) ⟨hx, hb, hml, hown, hts⟩ (zc_X2_step l D cI (ad 2) x6 n11 g12) (va_cwS 1 hts gX2_visitsIn_X2_step rfl rfl rfl hd_X2_step.2 ⟨Nat.le_of_ble_eq_true rfl, Nat.le_of_ble_eq_true rfl⟩) hK hP hD hS hA (zb_cM_m) rfl hl.1 rfl (Nat.le_of_ble_eq_true rfl) dX2_visitsIn_26 ⟨Nat.le_refl _, Nat.le_refl _⟩ (fun H locs hP hD hS => ?_)
        refine lv_iload_n hx hb dX2_visitsIn_29 rfl (lv_at hl 3 rfl) ?_
        refine lv_iconst (v := (1 : Int32)) hx hb dX2_visitsIn_30 (by decide) ?_
        refine lv_aload_n hx hb dX2_visitsIn_31 rfl (lv_at hl 0 rfl) ?_
        refine va_get (D := D) (ci := 2) (v := .ref (ad 2)) (C := RX2) (T := TX2) (N := 14) hx hb hts zi_X2_visitsIn_X2 hown hK.1 hP 0 rfl rfl 1 (by decide) (hts _ zk_X2_visitsIn_0) (fun _ h9 => h9) rfl dX2_visitsIn_32 ?_
        refine lv_iload_n hx hb dX2_visitsIn_35 rfl (lv_at hl 1 rfl) ?_
        refine lv_iconst (v := (0 : Int32)) hx hb dX2_visitsIn_36 (by decide) ?_
        obtain ⟨r13, g14, h⟩ := bo1 h
        refine zb_callS (As := [.int v1, .int (0 : Int32)]) (rest := [.ref (ad 2), .int (1 : Int32), .int x4]) ⟨hx, hb, hml, hown, hts⟩ (zc_X2_of l D cI v1 (0 : Int32) r13 g14) (va_cwS 2 hts gX2_visitsIn_X2_of rfl rfl rfl hd_X2_of.2 ⟨Nat.le_of_ble_eq_true rfl, Nat.le_of_ble_eq_true rfl⟩) hK hP hD hS hA (zb_none _) rfl hl.1 rfl (Nat.le_of_ble_eq_true rfl) dX2_visitsIn_37 ⟨Nat.le_refl _, Nat.le_refl _⟩ (fun H locs hP hD hS => ?_)
        obtain ⟨h15, h⟩ := it_g h
        refine va_iald hx hb hK.1 hP 2 0 rfl rfl h15 dX2_visitsIn_40 ?_
        refine lv_ishl hx hb dX2_visitsIn_41 ?_
        refine lv_ior hx hb dX2_visitsIn_42 ?_
        refine lv_istore_n (lv' := [(3, .int (x4 ||| ((1 : Int32) <<< ((n11 r13.toNatClampNeg) &&& 31)))), (0, .ref (ad 0)), (1, .int v1), (2, .int v2), (4, .int x5)]) hx hb dX2_visitsIn_43 rfl hl (by decide) rfl (fun ls hl => ?_)
        refine lv_iinc (v := (x5 + (1 : Int32))) (lv' := [(4, .int (x5 + (1 : Int32))), (3, .int (x4 ||| ((1 : Int32) <<< ((n11 r13.toNatClampNeg) &&& 31)))), (0, .ref (ad 0)), (1, .int v1), (2, .int v2)]) hx hb dX2_visitsIn_44 hl (k := 4) rfl (by first | rfl | decide) (by decide) rfl (fun ls hl => ?_)
        refine lv_goto (tgt := 16) hx hb dX2_visitsIn_47 (by decide) ?_
        exact ih7 (x4 ||| ((1 : Int32) <<< ((n11 r13.toNatClampNeg) &&& 31))) (x5 + (1 : Int32)) n11 _ _ hP hD hS ls (lv_sub hl [2, 3, 4, 1, 0] rfl) h
  exact lp7 zb_FU ((1 : Int32) <<< ((m_m r1.toNatClampNeg) &&& 31)) (0 : Int32) m_m _ _ hP hD hS ls (lv_sub hl [2, 3, 4, 1, 0] rfl) h
abbrev rm_X2_visitsNow : Room := { frames := 5, cells := 0, slots := 0, locals := 115 }
theorem hd_X2_visitsNow : yX2_visitsNow.cls = RX2 ∧ yX2_visitsNow.cls ≠ "java/lang/invoke/MethodHandle" ∧ yX2_visitsNow.cls ≠ "java/lang/invoke/VarHandle" ∧ (parseMethodDescriptor yX2_visitsNow.desc).map (fun d => d.parameters.length) = some 2 := by decide +kernel
theorem zi_X2_visitsNow_X2 : ∀ w ∈ wsX20, w ∈ wsX2_visitsNow := fun _ h => List.mem_cons_of_mem _ (List.mem_append_right _ h)
theorem zk_X2_visitsNow_0 : Cond.fieldLink RX2 9 "GroutingIsFollowedModel" "s" "[I" ∈ wsX2_visitsNow := by decide +kernel
theorem zk_X2_visitsNow_1 : Cond.fieldLink RX2 13 "GroutingIsFollowedModel" "m" "[I" ∈ wsX2_visitsNow := by decide +kernel
set_option maxHeartbeats 4000000 in
set_option maxRecDepth 100000 in
theorem zc_X2_visitsNow (l : Launch) (D : va_G) (cI : ClassId) (ad : Nat → Nat) (m_s : (Nat → Int32)) (m_m : (Nat → Int32)) (m_image : (Nat → Int32)) (m_was : (Nat → Int32)) (m_hasImage : Int32) (m_letters : (Nat → Int32)) (m_row : (Nat → Int32)) (m_refused : (Nat → Int32)) (m_letterMany : Int32) (m_rowMany : Int32) (m_place : Int32) (m_numbers : (Nat → Int32)) (m_cost : (Nat → Int32)) (m_seed : Int32) (v1 : Int32) (v2 : Int32) (r0 : Int32) (w_m_m : (Nat → Int32)) (h : zf_X2_visitsNow m_s m_m v1 v2 = some (r0, w_m_m)) : Cn l D cI yX2_visitsNow wsX2_visitsNow rm_X2_visitsNow [.ref (ad 0), .int v1, .int v2] (zb_M cI ad m_s m_m m_image m_was m_hasImage m_letters m_row m_refused m_letterMany m_rowMany m_place m_numbers m_cost m_seed) (some (.int r0)) (zb_M cI ad m_s w_m_m m_image m_was m_hasImage m_letters m_row m_refused m_letterMany m_rowMany m_place m_numbers m_cost m_seed) := by
  refine zb_ofW (cc := cX2_visitsNow) (maxL := 3) (ret := (some .int)) (by decide) rfl (Nat.le_of_ble_eq_true rfl) ?_
  intro p e s m args below meth c A ls hx hb hr hml hts hown hlk hK hP hD hA hl
  have hS : va_S A s.heap s.heap [] := va_S.rf
  have hl : lv_has ls 3 [(0, .ref (ad 0)), (1, .int v1), (2, .int v2)] := hl
  unfold zf_X2_visitsNow at h
  refine lv_aload_n hx hb dX2_visitsNow_0 rfl (lv_at hl 0 rfl) ?_
  refine va_get (D := D) (ci := 2) (v := .ref (ad 1)) (C := RX2) (T := TX2) (N := 14) hx hb hts zi_X2_visitsNow_X2 hown hK.1 hP 0 rfl rfl 0 (by decide) (hts _ zk_X2_visitsNow_0) (fun _ h9 => h9) rfl dX2_visitsNow_1 ?_
  refine lv_aload_n hx hb dX2_visitsNow_4 rfl (lv_at hl 0 rfl) ?_
  refine va_get (D := D) (ci := 2) (v := .ref (ad 2)) (C := RX2) (T := TX2) (N := 14) hx hb hts zi_X2_visitsNow_X2 hown hK.1 hP 0 rfl rfl 1 (by decide) (hts _ zk_X2_visitsNow_1) (fun _ h9 => h9) rfl dX2_visitsNow_5 ?_
  obtain ⟨n1, g2, h⟩ := bo1 h
  refine zb_callS (As := [.ref (ad 1), .ref (ad 2)]) (rest := []) ⟨hx, hb, hml, hown, hts⟩ (zc_X2_copies l D cI (ad 1) (ad 2) m_s m_m n1 g2) (va_cwS 2 hts gX2_visitsNow_X2_copies rfl rfl rfl hd_X2_copies.2 ⟨Nat.le_of_ble_eq_true rfl, Nat.le_of_ble_eq_true rfl⟩) hK hP hD hS hA (zb_cM_s_m) rfl hl.1 rfl (Nat.le_of_ble_eq_true rfl) dX2_visitsNow_8 ⟨Nat.le_refl _, Nat.le_refl _⟩ (fun H locs hP hD hS => ?_)
  refine lv_aload_n hx hb dX2_visitsNow_11 rfl (lv_at hl 0 rfl) ?_
  refine lv_iload_n hx hb dX2_visitsNow_12 rfl (lv_at hl 1 rfl) ?_
  refine lv_iload_n hx hb dX2_visitsNow_13 rfl (lv_at hl 2 rfl) ?_
  obtain ⟨r3, n4, g5, h⟩ := bo2 h
  refine zb_callV (As := [.int v1, .int v2]) (rest := []) ⟨hx, hb, hml, hown, hts⟩ (zc_X2_visitsIn l D cI ad m_s n1 m_image m_was m_hasImage m_letters m_row m_refused m_letterMany m_rowMany m_place m_numbers m_cost m_seed v1 v2 r3 n4 g5) (cwV 2 hts gX2_visitsNow_X2_visitsIn rfl rfl rfl hd_X2_visitsIn ⟨Nat.le_of_ble_eq_true rfl, Nat.le_of_ble_eq_true rfl⟩) hK hP hD hS hA (zb_sM) (q0 := 0) rfl rfl rfl hl.1 rfl (Nat.le_of_ble_eq_true rfl) dX2_visitsNow_14 ⟨Nat.le_refl _, Nat.le_refl _⟩ (fun H locs hP hD hS => ?_)
  obtain ⟨rfl, rfl⟩ := re2 h
  exact zb_iret hx hb hr hlk hP hS dX2_visitsNow_17
abbrev rm_X2_visits : Room := { frames := 6, cells := 0, slots := 0, locals := 137 }
theorem hd_X2_visits : yX2_visits.cls = RX2 ∧ yX2_visits.cls ≠ "java/lang/invoke/MethodHandle" ∧ yX2_visits.cls ≠ "java/lang/invoke/VarHandle" ∧ (parseMethodDescriptor yX2_visits.desc).map (fun d => d.parameters.length) = some 2 := by decide +kernel
set_option maxHeartbeats 4000000 in
set_option maxRecDepth 100000 in
theorem zc_X2_visits (l : Launch) (D : va_G) (cI : ClassId) (ad : Nat → Nat) (m_s : (Nat → Int32)) (m_m : (Nat → Int32)) (m_image : (Nat → Int32)) (m_was : (Nat → Int32)) (m_hasImage : Int32) (m_letters : (Nat → Int32)) (m_row : (Nat → Int32)) (m_refused : (Nat → Int32)) (m_letterMany : Int32) (m_rowMany : Int32) (m_place : Int32) (m_numbers : (Nat → Int32)) (m_cost : (Nat → Int32)) (m_seed : Int32) (v1 : Int32) (v2 : Int32) (r0 : Int32) (w_m_m : (Nat → Int32)) (w_m_refused : (Nat → Int32)) (h : zf_X2_visits m_s m_m m_refused v1 v2 = some (r0, w_m_m, w_m_refused)) : Cn l D cI yX2_visits wsX2_visits rm_X2_visits [.ref (ad 0), .int v1, .int v2] (zb_M cI ad m_s m_m m_image m_was m_hasImage m_letters m_row m_refused m_letterMany m_rowMany m_place m_numbers m_cost m_seed) (some (.int r0)) (zb_M cI ad m_s w_m_m m_image m_was m_hasImage m_letters m_row w_m_refused m_letterMany m_rowMany m_place m_numbers m_cost m_seed) := by
  refine zb_ofW (cc := cX2_visits) (maxL := 4) (ret := (some .int)) (by decide) rfl (Nat.le_of_ble_eq_true rfl) ?_
  intro p e s m args below meth c A ls hx hb hr hml hts hown hlk hK hP hD hA hl
  have hS : va_S A s.heap s.heap [] := va_S.rf
  have hl : lv_has ls 4 [(0, .ref (ad 0)), (1, .int v1), (2, .int v2)] := hl
  unfold zf_X2_visits at h
  refine lv_aload_n hx hb dX2_visits_0 rfl (lv_at hl 0 rfl) ?_
  refine lv_iload_n hx hb dX2_visits_1 rfl (lv_at hl 1 rfl) ?_
  obtain ⟨r1, g2, h⟩ := bo1 h
  refine zb_callV (As := [.int v1]) (rest := []) ⟨hx, hb, hml, hown, hts⟩ (zc_X2_isPerson l D cI ad m_s m_m m_image m_was m_hasImage m_letters m_row m_refused m_letterMany m_rowMany m_place m_numbers m_cost m_seed v1 r1 g2) (cwV 1 hts gX2_visits_X2_isPerson rfl rfl rfl hd_X2_isPerson ⟨Nat.le_of_ble_eq_true rfl, Nat.le_of_ble_eq_true rfl⟩) hK hP hD hS hA (zb_sM) (q0 := 0) rfl rfl rfl hl.1 rfl (Nat.le_of_ble_eq_true rfl) dX2_visits_2 ⟨Nat.le_refl _, Nat.le_refl _⟩ (fun H locs hP hD hS => ?_)
  refine lv_if_eq (tgt := 18) hx hb dX2_visits_5 (by decide) (fun c3 => ?_) (fun c3 => ?_)
  · replace h := it_t c3 h
    refine lv_iconst (v := ((-1) : Int32)) hx hb dX2_visits_18 (by decide) ?_
    refine lv_istore_n (lv' := [(3, .int ((-1) : Int32)), (0, .ref (ad 0)), (1, .int v1), (2, .int v2)]) hx hb dX2_visits_19 rfl hl (by decide) rfl (fun ls hl => ?_)
    refine lv_iload_n hx hb dX2_visits_20 rfl (lv_at hl 0 rfl) ?_
    refine lv_if_eq (tgt := 32) hx hb dX2_visits_21 (by decide) (fun c4 => absurd c4 (by decide)) (fun _ => ?_)
    refine lv_aload_n hx hb dX2_visits_24 rfl (lv_at hl 1 rfl) ?_
    refine lv_iload_n hx hb dX2_visits_25 rfl (lv_at hl 0 rfl) ?_
    obtain ⟨r5, n6, g7, h⟩ := bo2 h
    refine zb_callV (As := [.int ((-1) : Int32)]) (rest := []) ⟨hx, hb, hml, hown, hts⟩ (zc_X2_no l D cI ad m_s m_m m_image m_was m_hasImage m_letters m_row m_refused m_letterMany m_rowMany m_place m_numbers m_cost m_seed ((-1) : Int32) r5 n6 g7) (cwV 1 hts gX2_visits_X2_no rfl rfl rfl hd_X2_no ⟨Nat.le_of_ble_eq_true rfl, Nat.le_of_ble_eq_true rfl⟩) hK hP hD hS hA (zb_sM) (q0 := 0) rfl rfl rfl hl.1 rfl (Nat.le_of_ble_eq_true rfl) dX2_visits_26 ⟨Nat.le_refl _, Nat.le_refl _⟩ (fun H locs hP hD hS => ?_)
    refine lv_goto (tgt := 38) hx hb dX2_visits_29 (by decide) ?_
    obtain ⟨rfl, rfl, rfl⟩ := re3 h
    exact zb_iret hx hb hr hlk hP hS dX2_visits_38
  · replace h := it_f c3 h
    refine lv_iload_n hx hb dX2_visits_8 rfl (lv_at hl 2 rfl) ?_
    refine lv_iconst (v := (0 : Int32)) hx hb dX2_visits_9 (by decide) ?_
    refine lv_bipush (v := (60 : Int32)) hx hb dX2_visits_10 (by decide) ?_
    obtain ⟨r8, g9, h⟩ := bo1 h
    refine zb_callS (As := [.int v2, .int (0 : Int32), .int (60 : Int32)]) (rest := []) ⟨hx, hb, hml, hown, hts⟩ (zc_X2_wrongBy l D cI v2 (0 : Int32) (60 : Int32) r8 g9) (va_cwS 3 hts gX2_visits_X2_wrongBy rfl rfl rfl hd_X2_wrongBy.2 ⟨Nat.le_of_ble_eq_true rfl, Nat.le_of_ble_eq_true rfl⟩) hK hP hD hS hA (zb_none _) rfl hl.1 rfl (Nat.le_of_ble_eq_true rfl) dX2_visits_12 ⟨Nat.le_refl _, Nat.le_refl _⟩ (fun H locs hP hD hS => ?_)
    refine lv_goto (tgt := 19) hx hb dX2_visits_15 (by decide) ?_
    refine lv_istore_n (lv' := [(3, .int r8), (0, .ref (ad 0)), (1, .int v1), (2, .int v2)]) hx hb dX2_visits_19 rfl hl (by decide) rfl (fun ls hl => ?_)
    refine lv_iload_n hx hb dX2_visits_20 rfl (lv_at hl 0 rfl) ?_
    refine lv_if_eq (tgt := 32) hx hb dX2_visits_21 (by decide) (fun c10 => ?_) (fun c10 => ?_)
    · replace h := it_t c10 h
      refine lv_aload_n hx hb dX2_visits_32 rfl (lv_at hl 1 rfl) ?_
      refine lv_iload_n hx hb dX2_visits_33 rfl (lv_at hl 2 rfl) ?_
      refine lv_iload_n hx hb dX2_visits_34 rfl (lv_at hl 3 rfl) ?_
      obtain ⟨r11, n12, g13, h⟩ := bo2 h
      refine zb_callV (As := [.int v1, .int v2]) (rest := []) ⟨hx, hb, hml, hown, hts⟩ (zc_X2_visitsNow l D cI ad m_s m_m m_image m_was m_hasImage m_letters m_row m_refused m_letterMany m_rowMany m_place m_numbers m_cost m_seed v1 v2 r11 n12 g13) (cwV 2 hts gX2_visits_X2_visitsNow rfl rfl rfl hd_X2_visitsNow ⟨Nat.le_of_ble_eq_true rfl, Nat.le_of_ble_eq_true rfl⟩) hK hP hD hS hA (zb_sM) (q0 := 0) rfl rfl rfl hl.1 rfl (Nat.le_of_ble_eq_true rfl) dX2_visits_35 ⟨Nat.le_refl _, Nat.le_refl _⟩ (fun H locs hP hD hS => ?_)
      obtain ⟨rfl, rfl, rfl⟩ := re3 h
      exact zb_iret hx hb hr hlk hP hS dX2_visits_38
    · replace h := it_f c10 h
      refine lv_aload_n hx hb dX2_visits_24 rfl (lv_at hl 1 rfl) ?_
      refine lv_iload_n hx hb dX2_visits_25 rfl (lv_at hl 0 rfl) ?_
      obtain ⟨r14, n15, g16, h⟩ := bo2 h
      refine zb_callV (As := [.int r8]) (rest := []) ⟨hx, hb, hml, hown, hts⟩ (zc_X2_no l D cI ad m_s m_m m_image m_was m_hasImage m_letters m_row m_refused m_letterMany m_rowMany m_place m_numbers m_cost m_seed r8 r14 n15 g16) (cwV 1 hts gX2_visits_X2_no rfl rfl rfl hd_X2_no ⟨Nat.le_of_ble_eq_true rfl, Nat.le_of_ble_eq_true rfl⟩) hK hP hD hS hA (zb_sM) (q0 := 0) rfl rfl rfl hl.1 rfl (Nat.le_of_ble_eq_true rfl) dX2_visits_26 ⟨Nat.le_refl _, Nat.le_refl _⟩ (fun H locs hP hD hS => ?_)
      refine lv_goto (tgt := 38) hx hb dX2_visits_29 (by decide) ?_
      obtain ⟨rfl, rfl, rfl⟩ := re3 h
      exact zb_iret hx hb hr hlk hP hS dX2_visits_38
abbrev rm_X2_stops : Room := { frames := 4, cells := 0, slots := 0, locals := 91 }
theorem hd_X2_stops : yX2_stops.cls = RX2 ∧ yX2_stops.cls ≠ "java/lang/invoke/MethodHandle" ∧ yX2_stops.cls ≠ "java/lang/invoke/VarHandle" ∧ (parseMethodDescriptor yX2_stops.desc).map (fun d => d.parameters.length) = some 1 := by decide +kernel
theorem zi_X2_stops_X2 : ∀ w ∈ wsX20, w ∈ wsX2_stops := fun _ h => List.mem_cons_of_mem _ (List.mem_append_right _ h)
theorem zk_X2_stops_0 : Cond.fieldLink RX2 9 "GroutingIsFollowedModel" "s" "[I" ∈ wsX2_stops := by decide +kernel
theorem zk_X2_stops_1 : Cond.fieldLink RX2 13 "GroutingIsFollowedModel" "m" "[I" ∈ wsX2_stops := by decide +kernel
set_option maxHeartbeats 4000000 in
set_option maxRecDepth 100000 in
theorem zc_X2_stops (l : Launch) (D : va_G) (cI : ClassId) (ad : Nat → Nat) (m_s : (Nat → Int32)) (m_m : (Nat → Int32)) (m_image : (Nat → Int32)) (m_was : (Nat → Int32)) (m_hasImage : Int32) (m_letters : (Nat → Int32)) (m_row : (Nat → Int32)) (m_refused : (Nat → Int32)) (m_letterMany : Int32) (m_rowMany : Int32) (m_place : Int32) (m_numbers : (Nat → Int32)) (m_cost : (Nat → Int32)) (m_seed : Int32) (v1 : Int32) (r0 : Int32) (w_m_m : (Nat → Int32)) (w_m_refused : (Nat → Int32)) (h : zf_X2_stops m_s m_m m_refused v1 = some (r0, w_m_m, w_m_refused)) : Cn l D cI yX2_stops wsX2_stops rm_X2_stops [.ref (ad 0), .int v1] (zb_M cI ad m_s m_m m_image m_was m_hasImage m_letters m_row m_refused m_letterMany m_rowMany m_place m_numbers m_cost m_seed) (some (.int r0)) (zb_M cI ad m_s w_m_m m_image m_was m_hasImage m_letters m_row w_m_refused m_letterMany m_rowMany m_place m_numbers m_cost m_seed) := by
  refine zb_ofW (cc := cX2_stops) (maxL := 3) (ret := (some .int)) (by decide) rfl (Nat.le_of_ble_eq_true rfl) ?_
  intro p e s m args below meth c A ls hx hb hr hml hts hown hlk hK hP hD hA hl
  have hS : va_S A s.heap s.heap [] := va_S.rf
  have hl : lv_has ls 3 [(0, .ref (ad 0)), (1, .int v1)] := hl
  unfold zf_X2_stops at h
  refine lv_aload_n hx hb dX2_stops_0 rfl (lv_at hl 0 rfl) ?_
  refine lv_iload_n hx hb dX2_stops_1 rfl (lv_at hl 1 rfl) ?_
  obtain ⟨r1, g2, h⟩ := bo1 h
  refine zb_callV (As := [.int v1]) (rest := []) ⟨hx, hb, hml, hown, hts⟩ (zc_X2_isPerson l D cI ad m_s m_m m_image m_was m_hasImage m_letters m_row m_refused m_letterMany m_rowMany m_place m_numbers m_cost m_seed v1 r1 g2) (cwV 1 hts gX2_stops_X2_isPerson rfl rfl rfl hd_X2_isPerson ⟨Nat.le_of_ble_eq_true rfl, Nat.le_of_ble_eq_true rfl⟩) hK hP hD hS hA (zb_sM) (q0 := 0) rfl rfl rfl hl.1 rfl (Nat.le_of_ble_eq_true rfl) dX2_stops_2 ⟨Nat.le_refl _, Nat.le_refl _⟩ (fun H locs hP hD hS => ?_)
  refine lv_if_ne (tgt := 14) hx hb dX2_stops_5 (by decide) (fun c3 => ?_) (fun c3 => ?_)
  · replace h := it_f c3 h
    refine lv_aload_n hx hb dX2_stops_14 rfl (lv_at hl 0 rfl) ?_
    refine va_get (D := D) (ci := 2) (v := .ref (ad 1)) (C := RX2) (T := TX2) (N := 14) hx hb hts zi_X2_stops_X2 hown hK.1 hP 0 rfl rfl 0 (by decide) (hts _ zk_X2_stops_0) (fun _ h9 => h9) rfl dX2_stops_15 ?_
    refine lv_aload_n hx hb dX2_stops_18 rfl (lv_at hl 0 rfl) ?_
    refine va_get (D := D) (ci := 2) (v := .ref (ad 2)) (C := RX2) (T := TX2) (N := 14) hx hb hts zi_X2_stops_X2 hown hK.1 hP 0 rfl rfl 1 (by decide) (hts _ zk_X2_stops_1) (fun _ h9 => h9) rfl dX2_stops_19 ?_
    obtain ⟨n4, g5, h⟩ := bo1 h
    refine zb_callS (As := [.ref (ad 1), .ref (ad 2)]) (rest := []) ⟨hx, hb, hml, hown, hts⟩ (zc_X2_copies l D cI (ad 1) (ad 2) m_s m_m n4 g5) (va_cwS 2 hts gX2_stops_X2_copies rfl rfl rfl hd_X2_copies.2 ⟨Nat.le_of_ble_eq_true rfl, Nat.le_of_ble_eq_true rfl⟩) hK hP hD hS hA (zb_cM_s_m) rfl hl.1 rfl (Nat.le_of_ble_eq_true rfl) dX2_stops_22 ⟨Nat.le_refl _, Nat.le_refl _⟩ (fun H locs hP hD hS => ?_)
    refine lv_iconst (v := (0 : Int32)) hx hb dX2_stops_25 (by decide) ?_
    refine lv_istore_n (lv' := [(2, .int (0 : Int32)), (0, .ref (ad 0)), (1, .int v1)]) hx hb dX2_stops_26 rfl hl (by decide) rfl (fun ls hl => ?_)
    have lp8 : ∀ (fu8 : Nat) (x6 : Int32) (x7 : (Nat → Int32)) (H : Heap) (locs : List Loc) (hP : va_P D zb_cl (zb_M cI ad m_s x7 m_image m_was m_hasImage m_letters m_row m_refused m_letterMany m_rowMany m_place m_numbers m_cost m_seed) H) (hD : va_D A (zb_M cI ad m_s x7 m_image m_was m_hasImage m_letters m_row m_refused m_letterMany m_rowMany m_place m_numbers m_cost m_seed)) (hS : va_S A s.heap H locs) (ls : Array Slot) (hl : lv_has ls 3 [(0, .ref (ad 0)), (1, .int v1), (2, .int x6)]) (h : zl2 (zf_X2_stops_b27 v1 m_refused) fu8 x6 x7 = some (r0, w_m_m, w_m_refused)), W p l e rm_X2_stops s m args below meth c H locs 0 0 (zb_Q below D (some (.int r0)) (zb_M cI ad m_s w_m_m m_image m_was m_hasImage m_letters m_row w_m_refused m_letterMany m_rowMany m_place m_numbers m_cost m_seed) A args s) (F0 m 27 ls []) := by
      intro fu8
      induction fu8 with
      | zero => intro x6 x7 H locs hP hD hS ls hl h; exact zb_no h
      | succ fu8 ih8 =>
        intro x6 x7 H locs hP hD hS ls hl h
        replace h : zf_X2_stops_b27 v1 m_refused (zl2 (zf_X2_stops_b27 v1 m_refused) fu8) x6 x7 = some (r0, w_m_m, w_m_refused) := h
        unfold zf_X2_stops_b27 at h
        refine lv_iload_n hx hb dX2_stops_27 rfl (lv_at hl 2 rfl) ?_
        refine lv_bipush (v := (60 : Int32)) hx hb dX2_stops_28 (by decide) ?_
        refine lv_icmp_gt (tgt := 68) hx hb dX2_stops_30 (by decide) (fun c9 => ?_) (fun c9 => ?_)
        · replace h := it_t c9 h
          refine lv_bipush (v := ((-9) : Int32)) hx hb dX2_stops_68 (by decide) ?_
          obtain ⟨rfl, rfl, rfl⟩ := re3 h
          exact zb_iret hx hb hr hlk hP hS dX2_stops_70
        · replace h := it_f c9 h
          refine lv_aload_n hx hb dX2_stops_33 rfl (lv_at hl 0 rfl) ?_
          refine va_get (D := D) (ci := 2) (v := .ref (ad 2)) (C := RX2) (T := TX2) (N := 14) hx hb hts zi_X2_stops_X2 hown hK.1 hP 0 rfl rfl 1 (by decide) (hts _ zk_X2_stops_1) (fun _ h9 => h9) rfl dX2_stops_34 ?_
          refine lv_aload_n hx hb dX2_stops_37 rfl (lv_at hl 0 rfl) ?_
          refine va_get (D := D) (ci := 2) (v := .ref (ad 2)) (C := RX2) (T := TX2) (N := 14) hx hb hts zi_X2_stops_X2 hown hK.1 hP 0 rfl rfl 1 (by decide) (hts _ zk_X2_stops_1) (fun _ h9 => h9) rfl dX2_stops_38 ?_
          refine lv_iload_n hx hb dX2_stops_41 rfl (lv_at hl 1 rfl) ?_
          refine lv_iconst (v := (0 : Int32)) hx hb dX2_stops_42 (by decide) ?_
          obtain ⟨r10, g11, h⟩ := bo1 h
          refine zb_callS (As := [.int v1, .int (0 : Int32)]) (rest := [.ref (ad 2), .ref (ad 2)]) ⟨hx, hb, hml, hown, hts⟩ (zc_X2_of l D cI v1 (0 : Int32) r10 g11) (va_cwS 2 hts gX2_stops_X2_of rfl rfl rfl hd_X2_of.2 ⟨Nat.le_of_ble_eq_true rfl, Nat.le_of_ble_eq_true rfl⟩) hK hP hD hS hA (zb_none _) rfl hl.1 rfl (Nat.le_of_ble_eq_true rfl) dX2_stops_43 ⟨Nat.le_refl _, Nat.le_refl _⟩ (fun H locs hP hD hS => ?_)
          obtain ⟨h12, h⟩ := it_g h
          refine va_iald hx hb hK.1 hP 2 0 rfl rfl h12 dX2_stops_46 ?_
          obtain ⟨r13, g14, h⟩ := bo1 h
          refine zb_callS (As := [.ref (ad 2), .int (x7 r10.toNatClampNeg)]) (rest := []) ⟨hx, hb, hml, hown, hts⟩ (zc_X2_isDry l D cI (ad 2) x7 (x7 r10.toNatClampNeg) r13 g14) (va_cwS 2 hts gX2_stops_X2_isDry rfl rfl rfl hd_X2_isDry.2 ⟨Nat.le_of_ble_eq_true rfl, Nat.le_of_ble_eq_true rfl⟩) hK hP hD hS hA (zb_cM_m) rfl hl.1 rfl (Nat.le_of_ble_eq_true rfl) dX2_stops_47 ⟨Nat.le_refl _, Nat.le_refl _⟩ (fun H locs hP hD hS => ?_)
          refine lv_if_eq (tgt := 55) hx hb dX2_stops_50 (by decide) (fun c15 => ?_) (fun c15 => ?_)
          · replace h := it_t c15 h
            refine lv_aload_n hx hb dX2_stops_55 rfl (lv_at hl 0 rfl) ?_
            refine va_get (D := D) (ci := 2) (v := .ref (ad 2)) (C := RX2) (T := TX2) (N := 14) hx hb hts zi_X2_stops_X2 hown hK.1 hP 0 rfl rfl 1 (by decide) (hts _ zk_X2_stops_1) (fun _ h9 => h9) rfl dX2_stops_56 ?_
            obtain ⟨n16, g17, h⟩ := bo1 h
            refine zb_callS (As := [.ref (ad 2)]) (rest := []) ⟨hx, hb, hml, hown, hts⟩ (zc_X2_step l D cI (ad 2) x7 n16 g17) (va_cwS 1 hts gX2_stops_X2_step rfl rfl rfl hd_X2_step.2 ⟨Nat.le_of_ble_eq_true rfl, Nat.le_of_ble_eq_true rfl⟩) hK hP hD hS hA (zb_cM_m) rfl hl.1 rfl (Nat.le_of_ble_eq_true rfl) dX2_stops_59 ⟨Nat.le_refl _, Nat.le_refl _⟩ (fun H locs hP hD hS => ?_)
            refine lv_iinc (v := (x6 + (1 : Int32))) (lv' := [(2, .int (x6 + (1 : Int32))), (0, .ref (ad 0)), (1, .int v1)]) hx hb dX2_stops_62 hl (k := 2) rfl (by first | rfl | decide) (by decide) rfl (fun ls hl => ?_)
            refine lv_goto (tgt := 27) hx hb dX2_stops_65 (by decide) ?_
            exact ih8 (x6 + (1 : Int32)) n16 _ _ hP hD hS ls (lv_sub hl [1, 2, 0] rfl) h
          · replace h := it_f c15 h
            refine lv_iload_n hx hb dX2_stops_53 rfl (lv_at hl 2 rfl) ?_
            obtain ⟨rfl, rfl, rfl⟩ := re3 h
            exact zb_iret hx hb hr hlk hP hS dX2_stops_54
    exact lp8 zb_FU (0 : Int32) n4 _ _ hP hD hS ls (lv_sub hl [1, 2, 0] rfl) h
  · replace h := it_t c3 h
    refine lv_aload_n hx hb dX2_stops_8 rfl (lv_at hl 0 rfl) ?_
    refine lv_iconst (v := ((-1) : Int32)) hx hb dX2_stops_9 (by decide) ?_
    obtain ⟨r18, n19, g20, h⟩ := bo2 h
    refine zb_callV (As := [.int ((-1) : Int32)]) (rest := []) ⟨hx, hb, hml, hown, hts⟩ (zc_X2_no l D cI ad m_s m_m m_image m_was m_hasImage m_letters m_row m_refused m_letterMany m_rowMany m_place m_numbers m_cost m_seed ((-1) : Int32) r18 n19 g20) (cwV 1 hts gX2_stops_X2_no rfl rfl rfl hd_X2_no ⟨Nat.le_of_ble_eq_true rfl, Nat.le_of_ble_eq_true rfl⟩) hK hP hD hS hA (zb_sM) (q0 := 0) rfl rfl rfl hl.1 rfl (Nat.le_of_ble_eq_true rfl) dX2_stops_10 ⟨Nat.le_refl _, Nat.le_refl _⟩ (fun H locs hP hD hS => ?_)
    obtain ⟨rfl, rfl, rfl⟩ := re3 h
    exact zb_iret hx hb hr hlk hP hS dX2_stops_13
abbrev rm_X2_areTwo : Room := { frames := 2, cells := 0, slots := 0, locals := 43 }
theorem hd_X2_areTwo : yX2_areTwo.cls = RX2 ∧ yX2_areTwo.cls ≠ "java/lang/invoke/MethodHandle" ∧ yX2_areTwo.cls ≠ "java/lang/invoke/VarHandle" ∧ (parseMethodDescriptor yX2_areTwo.desc).map (fun d => d.parameters.length) = some 2 := by decide +kernel
set_option maxHeartbeats 4000000 in
set_option maxRecDepth 100000 in
theorem zc_X2_areTwo (l : Launch) (D : va_G) (cI : ClassId) (ad : Nat → Nat) (m_s : (Nat → Int32)) (m_m : (Nat → Int32)) (m_image : (Nat → Int32)) (m_was : (Nat → Int32)) (m_hasImage : Int32) (m_letters : (Nat → Int32)) (m_row : (Nat → Int32)) (m_refused : (Nat → Int32)) (m_letterMany : Int32) (m_rowMany : Int32) (m_place : Int32) (m_numbers : (Nat → Int32)) (m_cost : (Nat → Int32)) (m_seed : Int32) (v1 : Int32) (v2 : Int32) (r0 : Int32) (h : zf_X2_areTwo m_s v1 v2 = some r0) : Cn l D cI yX2_areTwo wsX2_areTwo rm_X2_areTwo [.ref (ad 0), .int v1, .int v2] (zb_M cI ad m_s m_m m_image m_was m_hasImage m_letters m_row m_refused m_letterMany m_rowMany m_place m_numbers m_cost m_seed) (some (.int r0)) (zb_M cI ad m_s m_m m_image m_was m_hasImage m_letters m_row m_refused m_letterMany m_rowMany m_place m_numbers m_cost m_seed) := by
  refine zb_ofW (cc := cX2_areTwo) (maxL := 3) (ret := (some .boolean)) (by decide) rfl (Nat.le_of_ble_eq_true rfl) ?_
  intro p e s m args below meth c A ls hx hb hr hml hts hown hlk hK hP hD hA hl
  have hS : va_S A s.heap s.heap [] := va_S.rf
  have hl : lv_has ls 3 [(0, .ref (ad 0)), (1, .int v1), (2, .int v2)] := hl
  unfold zf_X2_areTwo at h
  refine lv_aload_n hx hb dX2_areTwo_0 rfl (lv_at hl 0 rfl) ?_
  refine lv_iload_n hx hb dX2_areTwo_1 rfl (lv_at hl 1 rfl) ?_
  obtain ⟨r1, g2, h⟩ := bo1 h
  refine zb_callV (As := [.int v1]) (rest := []) ⟨hx, hb, hml, hown, hts⟩ (zc_X2_isPerson l D cI ad m_s m_m m_image m_was m_hasImage m_letters m_row m_refused m_letterMany m_rowMany m_place m_numbers m_cost m_seed v1 r1 g2) (cwV 1 hts gX2_areTwo_X2_isPerson rfl rfl rfl hd_X2_isPerson ⟨Nat.le_of_ble_eq_true rfl, Nat.le_of_ble_eq_true rfl⟩) hK hP hD hS hA (zb_sM) (q0 := 0) rfl rfl rfl hl.1 rfl (Nat.le_of_ble_eq_true rfl) dX2_areTwo_2 ⟨Nat.le_refl _, Nat.le_refl _⟩ (fun H locs hP hD hS => ?_)
  refine lv_if_eq (tgt := 25) hx hb dX2_areTwo_5 (by decide) (fun c3 => ?_) (fun c3 => ?_)
  · replace h := it_t c3 h
    refine lv_iconst (v := (0 : Int32)) hx hb dX2_areTwo_25 (by decide) ?_
    obtain rfl := re1 h
    exact zb_zret hx hb hr hlk rfl hP hS dX2_areTwo_26
  · replace h := it_f c3 h
    refine lv_aload_n hx hb dX2_areTwo_8 rfl (lv_at hl 0 rfl) ?_
    refine lv_iload_n hx hb dX2_areTwo_9 rfl (lv_at hl 2 rfl) ?_
    obtain ⟨r4, g5, h⟩ := bo1 h
    refine zb_callV (As := [.int v2]) (rest := []) ⟨hx, hb, hml, hown, hts⟩ (zc_X2_isPerson l D cI ad m_s m_m m_image m_was m_hasImage m_letters m_row m_refused m_letterMany m_rowMany m_place m_numbers m_cost m_seed v2 r4 g5) (cwV 1 hts gX2_areTwo_X2_isPerson rfl rfl rfl hd_X2_isPerson ⟨Nat.le_of_ble_eq_true rfl, Nat.le_of_ble_eq_true rfl⟩) hK hP hD hS hA (zb_sM) (q0 := 0) rfl rfl rfl hl.1 rfl (Nat.le_of_ble_eq_true rfl) dX2_areTwo_10 ⟨Nat.le_refl _, Nat.le_refl _⟩ (fun H locs hP hD hS => ?_)
    refine lv_if_eq (tgt := 25) hx hb dX2_areTwo_13 (by decide) (fun c6 => ?_) (fun c6 => ?_)
    · replace h := it_t c6 h
      refine lv_iconst (v := (0 : Int32)) hx hb dX2_areTwo_25 (by decide) ?_
      obtain rfl := re1 h
      exact zb_zret hx hb hr hlk rfl hP hS dX2_areTwo_26
    · replace h := it_f c6 h
      refine lv_iload_n hx hb dX2_areTwo_16 rfl (lv_at hl 1 rfl) ?_
      refine lv_iload_n hx hb dX2_areTwo_17 rfl (lv_at hl 2 rfl) ?_
      refine lv_icmp_eq (tgt := 25) hx hb dX2_areTwo_18 (by decide) (fun c7 => ?_) (fun c7 => ?_)
      · replace h := it_t c7 h
        refine lv_iconst (v := (0 : Int32)) hx hb dX2_areTwo_25 (by decide) ?_
        obtain rfl := re1 h
        exact zb_zret hx hb hr hlk rfl hP hS dX2_areTwo_26
      · replace h := it_f c7 h
        refine lv_iconst (v := (1 : Int32)) hx hb dX2_areTwo_21 (by decide) ?_
        refine lv_goto (tgt := 26) hx hb dX2_areTwo_22 (by decide) ?_
        obtain rfl := re1 h
        exact zb_zret hx hb hr hlk rfl hP hS dX2_areTwo_26
abbrev rm_X2_meets : Room := { frames := 4, cells := 0, slots := 0, locals := 91 }
theorem hd_X2_meets : yX2_meets.cls = RX2 ∧ yX2_meets.cls ≠ "java/lang/invoke/MethodHandle" ∧ yX2_meets.cls ≠ "java/lang/invoke/VarHandle" ∧ (parseMethodDescriptor yX2_meets.desc).map (fun d => d.parameters.length) = some 2 := by decide +kernel
theorem zi_X2_meets_X2 : ∀ w ∈ wsX20, w ∈ wsX2_meets := fun _ h => List.mem_cons_of_mem _ (List.mem_append_right _ h)
theorem zk_X2_meets_0 : Cond.fieldLink RX2 9 "GroutingIsFollowedModel" "s" "[I" ∈ wsX2_meets := by decide +kernel
theorem zk_X2_meets_1 : Cond.fieldLink RX2 13 "GroutingIsFollowedModel" "m" "[I" ∈ wsX2_meets := by decide +kernel
set_option maxHeartbeats 4000000 in
set_option maxRecDepth 100000 in
theorem zc_X2_meets (l : Launch) (D : va_G) (cI : ClassId) (ad : Nat → Nat) (m_s : (Nat → Int32)) (m_m : (Nat → Int32)) (m_image : (Nat → Int32)) (m_was : (Nat → Int32)) (m_hasImage : Int32) (m_letters : (Nat → Int32)) (m_row : (Nat → Int32)) (m_refused : (Nat → Int32)) (m_letterMany : Int32) (m_rowMany : Int32) (m_place : Int32) (m_numbers : (Nat → Int32)) (m_cost : (Nat → Int32)) (m_seed : Int32) (v1 : Int32) (v2 : Int32) (r0 : Int32) (w_m_m : (Nat → Int32)) (w_m_refused : (Nat → Int32)) (h : zf_X2_meets m_s m_m m_refused v1 v2 = some (r0, w_m_m, w_m_refused)) : Cn l D cI yX2_meets wsX2_meets rm_X2_meets [.ref (ad 0), .int v1, .int v2] (zb_M cI ad m_s m_m m_image m_was m_hasImage m_letters m_row m_refused m_letterMany m_rowMany m_place m_numbers m_cost m_seed) (some (.int r0)) (zb_M cI ad m_s w_m_m m_image m_was m_hasImage m_letters m_row w_m_refused m_letterMany m_rowMany m_place m_numbers m_cost m_seed) := by
  refine zb_ofW (cc := cX2_meets) (maxL := 4) (ret := (some .int)) (by decide) rfl (Nat.le_of_ble_eq_true rfl) ?_
  intro p e s m args below meth c A ls hx hb hr hml hts hown hlk hK hP hD hA hl
  have hS : va_S A s.heap s.heap [] := va_S.rf
  have hl : lv_has ls 4 [(0, .ref (ad 0)), (1, .int v1), (2, .int v2)] := hl
  unfold zf_X2_meets at h
  refine lv_aload_n hx hb dX2_meets_0 rfl (lv_at hl 0 rfl) ?_
  refine lv_iload_n hx hb dX2_meets_1 rfl (lv_at hl 1 rfl) ?_
  refine lv_iload_n hx hb dX2_meets_2 rfl (lv_at hl 2 rfl) ?_
  obtain ⟨r1, g2, h⟩ := bo1 h
  refine zb_callV (As := [.int v1, .int v2]) (rest := []) ⟨hx, hb, hml, hown, hts⟩ (zc_X2_areTwo l D cI ad m_s m_m m_image m_was m_hasImage m_letters m_row m_refused m_letterMany m_rowMany m_place m_numbers m_cost m_seed v1 v2 r1 g2) (cwV 2 hts gX2_meets_X2_areTwo rfl rfl rfl hd_X2_areTwo ⟨Nat.le_of_ble_eq_true rfl, Nat.le_of_ble_eq_true rfl⟩) hK hP hD hS hA (zb_sM) (q0 := 0) rfl rfl rfl hl.1 rfl (Nat.le_of_ble_eq_true rfl) dX2_meets_3 ⟨Nat.le_refl _, Nat.le_refl _⟩ (fun H locs hP hD hS => ?_)
  refine lv_if_ne (tgt := 15) hx hb dX2_meets_6 (by decide) (fun c3 => ?_) (fun c3 => ?_)
  · replace h := it_f c3 h
    refine lv_aload_n hx hb dX2_meets_15 rfl (lv_at hl 0 rfl) ?_
    refine va_get (D := D) (ci := 2) (v := .ref (ad 1)) (C := RX2) (T := TX2) (N := 14) hx hb hts zi_X2_meets_X2 hown hK.1 hP 0 rfl rfl 0 (by decide) (hts _ zk_X2_meets_0) (fun _ h9 => h9) rfl dX2_meets_16 ?_
    refine lv_aload_n hx hb dX2_meets_19 rfl (lv_at hl 0 rfl) ?_
    refine va_get (D := D) (ci := 2) (v := .ref (ad 2)) (C := RX2) (T := TX2) (N := 14) hx hb hts zi_X2_meets_X2 hown hK.1 hP 0 rfl rfl 1 (by decide) (hts _ zk_X2_meets_1) (fun _ h9 => h9) rfl dX2_meets_20 ?_
    obtain ⟨n4, g5, h⟩ := bo1 h
    refine zb_callS (As := [.ref (ad 1), .ref (ad 2)]) (rest := []) ⟨hx, hb, hml, hown, hts⟩ (zc_X2_copies l D cI (ad 1) (ad 2) m_s m_m n4 g5) (va_cwS 2 hts gX2_meets_X2_copies rfl rfl rfl hd_X2_copies.2 ⟨Nat.le_of_ble_eq_true rfl, Nat.le_of_ble_eq_true rfl⟩) hK hP hD hS hA (zb_cM_s_m) rfl hl.1 rfl (Nat.le_of_ble_eq_true rfl) dX2_meets_23 ⟨Nat.le_refl _, Nat.le_refl _⟩ (fun H locs hP hD hS => ?_)
    refine lv_iconst (v := (0 : Int32)) hx hb dX2_meets_26 (by decide) ?_
    refine lv_istore_n (lv' := [(3, .int (0 : Int32)), (0, .ref (ad 0)), (1, .int v1), (2, .int v2)]) hx hb dX2_meets_27 rfl hl (by decide) rfl (fun ls hl => ?_)
    have lp8 : ∀ (fu8 : Nat) (x6 : Int32) (x7 : (Nat → Int32)) (H : Heap) (locs : List Loc) (hP : va_P D zb_cl (zb_M cI ad m_s x7 m_image m_was m_hasImage m_letters m_row m_refused m_letterMany m_rowMany m_place m_numbers m_cost m_seed) H) (hD : va_D A (zb_M cI ad m_s x7 m_image m_was m_hasImage m_letters m_row m_refused m_letterMany m_rowMany m_place m_numbers m_cost m_seed)) (hS : va_S A s.heap H locs) (ls : Array Slot) (hl : lv_has ls 4 [(0, .ref (ad 0)), (1, .int v1), (2, .int v2), (3, .int x6)]) (h : zl2 (zf_X2_meets_b28 v1 v2 m_refused) fu8 x6 x7 = some (r0, w_m_m, w_m_refused)), W p l e rm_X2_meets s m args below meth c H locs 0 0 (zb_Q below D (some (.int r0)) (zb_M cI ad m_s w_m_m m_image m_was m_hasImage m_letters m_row w_m_refused m_letterMany m_rowMany m_place m_numbers m_cost m_seed) A args s) (F0 m 28 ls []) := by
      intro fu8
      induction fu8 with
      | zero => intro x6 x7 H locs hP hD hS ls hl h; exact zb_no h
      | succ fu8 ih8 =>
        intro x6 x7 H locs hP hD hS ls hl h
        replace h : zf_X2_meets_b28 v1 v2 m_refused (zl2 (zf_X2_meets_b28 v1 v2 m_refused) fu8) x6 x7 = some (r0, w_m_m, w_m_refused) := h
        unfold zf_X2_meets_b28 at h
        refine lv_iload_n hx hb dX2_meets_28 rfl (lv_at hl 3 rfl) ?_
        refine lv_bipush (v := (60 : Int32)) hx hb dX2_meets_29 (by decide) ?_
        refine lv_icmp_gt (tgt := 72) hx hb dX2_meets_31 (by decide) (fun c9 => ?_) (fun c9 => ?_)
        · replace h := it_t c9 h
          refine lv_bipush (v := ((-9) : Int32)) hx hb dX2_meets_72 (by decide) ?_
          obtain ⟨rfl, rfl, rfl⟩ := re3 h
          exact zb_iret hx hb hr hlk hP hS dX2_meets_74
        · replace h := it_f c9 h
          refine lv_aload_n hx hb dX2_meets_34 rfl (lv_at hl 0 rfl) ?_
          refine va_get (D := D) (ci := 2) (v := .ref (ad 2)) (C := RX2) (T := TX2) (N := 14) hx hb hts zi_X2_meets_X2 hown hK.1 hP 0 rfl rfl 1 (by decide) (hts _ zk_X2_meets_1) (fun _ h9 => h9) rfl dX2_meets_35 ?_
          refine lv_iload_n hx hb dX2_meets_38 rfl (lv_at hl 1 rfl) ?_
          refine lv_iconst (v := (0 : Int32)) hx hb dX2_meets_39 (by decide) ?_
          obtain ⟨r10, g11, h⟩ := bo1 h
          refine zb_callS (As := [.int v1, .int (0 : Int32)]) (rest := [.ref (ad 2)]) ⟨hx, hb, hml, hown, hts⟩ (zc_X2_of l D cI v1 (0 : Int32) r10 g11) (va_cwS 2 hts gX2_meets_X2_of rfl rfl rfl hd_X2_of.2 ⟨Nat.le_of_ble_eq_true rfl, Nat.le_of_ble_eq_true rfl⟩) hK hP hD hS hA (zb_none _) rfl hl.1 rfl (Nat.le_of_ble_eq_true rfl) dX2_meets_40 ⟨Nat.le_refl _, Nat.le_refl _⟩ (fun H locs hP hD hS => ?_)
          obtain ⟨h12, h⟩ := it_g h
          refine va_iald hx hb hK.1 hP 2 0 rfl rfl h12 dX2_meets_43 ?_
          refine lv_aload_n hx hb dX2_meets_44 rfl (lv_at hl 0 rfl) ?_
          refine va_get (D := D) (ci := 2) (v := .ref (ad 2)) (C := RX2) (T := TX2) (N := 14) hx hb hts zi_X2_meets_X2 hown hK.1 hP 0 rfl rfl 1 (by decide) (hts _ zk_X2_meets_1) (fun _ h9 => h9) rfl dX2_meets_45 ?_
          refine lv_iload_n hx hb dX2_meets_48 rfl (lv_at hl 2 rfl) ?_
          refine lv_iconst (v := (0 : Int32)) hx hb dX2_meets_49 (by decide) ?_
          obtain ⟨r13, g14, h⟩ := bo1 h
          refine zb_callS (As := [.int v2, .int (0 : Int32)]) (rest := [.ref (ad 2), .int (x7 r10.toNatClampNeg)]) ⟨hx, hb, hml, hown, hts⟩ (zc_X2_of l D cI v2 (0 : Int32) r13 g14) (va_cwS 2 hts gX2_meets_X2_of rfl rfl rfl hd_X2_of.2 ⟨Nat.le_of_ble_eq_true rfl, Nat.le_of_ble_eq_true rfl⟩) hK hP hD hS hA (zb_none _) rfl hl.1 rfl (Nat.le_of_ble_eq_true rfl) dX2_meets_50 ⟨Nat.le_refl _, Nat.le_refl _⟩ (fun H locs hP hD hS => ?_)
          obtain ⟨h15, h⟩ := it_g h
          refine va_iald hx hb hK.1 hP 2 0 rfl rfl h15 dX2_meets_53 ?_
          refine lv_icmp_ne (tgt := 59) hx hb dX2_meets_54 (by decide) (fun c16 => ?_) (fun c16 => ?_)
          · replace h := it_f c16 h
            refine lv_aload_n hx hb dX2_meets_59 rfl (lv_at hl 0 rfl) ?_
            refine va_get (D := D) (ci := 2) (v := .ref (ad 2)) (C := RX2) (T := TX2) (N := 14) hx hb hts zi_X2_meets_X2 hown hK.1 hP 0 rfl rfl 1 (by decide) (hts _ zk_X2_meets_1) (fun _ h9 => h9) rfl dX2_meets_60 ?_
            obtain ⟨n17, g18, h⟩ := bo1 h
            refine zb_callS (As := [.ref (ad 2)]) (rest := []) ⟨hx, hb, hml, hown, hts⟩ (zc_X2_step l D cI (ad 2) x7 n17 g18) (va_cwS 1 hts gX2_meets_X2_step rfl rfl rfl hd_X2_step.2 ⟨Nat.le_of_ble_eq_true rfl, Nat.le_of_ble_eq_true rfl⟩) hK hP hD hS hA (zb_cM_m) rfl hl.1 rfl (Nat.le_of_ble_eq_true rfl) dX2_meets_63 ⟨Nat.le_refl _, Nat.le_refl _⟩ (fun H locs hP hD hS => ?_)
            refine lv_iinc (v := (x6 + (1 : Int32))) (lv' := [(3, .int (x6 + (1 : Int32))), (0, .ref (ad 0)), (1, .int v1), (2, .int v2)]) hx hb dX2_meets_66 hl (k := 3) rfl (by first | rfl | decide) (by decide) rfl (fun ls hl => ?_)
            refine lv_goto (tgt := 28) hx hb dX2_meets_69 (by decide) ?_
            exact ih8 (x6 + (1 : Int32)) n17 _ _ hP hD hS ls (lv_sub hl [1, 2, 3, 0] rfl) h
          · replace h := it_t c16 h
            refine lv_iload_n hx hb dX2_meets_57 rfl (lv_at hl 3 rfl) ?_
            obtain ⟨rfl, rfl, rfl⟩ := re3 h
            exact zb_iret hx hb hr hlk hP hS dX2_meets_58
    exact lp8 zb_FU (0 : Int32) n4 _ _ hP hD hS ls (lv_sub hl [1, 2, 3, 0] rfl) h
  · replace h := it_t c3 h
    refine lv_aload_n hx hb dX2_meets_9 rfl (lv_at hl 0 rfl) ?_
    refine lv_iconst (v := ((-1) : Int32)) hx hb dX2_meets_10 (by decide) ?_
    obtain ⟨r19, n20, g21, h⟩ := bo2 h
    refine zb_callV (As := [.int ((-1) : Int32)]) (rest := []) ⟨hx, hb, hml, hown, hts⟩ (zc_X2_no l D cI ad m_s m_m m_image m_was m_hasImage m_letters m_row m_refused m_letterMany m_rowMany m_place m_numbers m_cost m_seed ((-1) : Int32) r19 n20 g21) (cwV 1 hts gX2_meets_X2_no rfl rfl rfl hd_X2_no ⟨Nat.le_of_ble_eq_true rfl, Nat.le_of_ble_eq_true rfl⟩) hK hP hD hS hA (zb_sM) (q0 := 0) rfl rfl rfl hl.1 rfl (Nat.le_of_ble_eq_true rfl) dX2_meets_11 ⟨Nat.le_refl _, Nat.le_refl _⟩ (fun H locs hP hD hS => ?_)
    obtain ⟨rfl, rfl, rfl⟩ := re3 h
    exact zb_iret hx hb hr hlk hP hS dX2_meets_14
abbrev rm_X2_round : Room := { frames := 4, cells := 0, slots := 0, locals := 91 }
theorem hd_X2_round : yX2_round.cls = RX2 ∧ yX2_round.cls ≠ "java/lang/invoke/MethodHandle" ∧ yX2_round.cls ≠ "java/lang/invoke/VarHandle" ∧ (parseMethodDescriptor yX2_round.desc).map (fun d => d.parameters.length) = some 1 := by decide +kernel
theorem zi_X2_round_X2 : ∀ w ∈ wsX20, w ∈ wsX2_round := fun _ h => List.mem_cons_of_mem _ (List.mem_append_right _ h)
theorem zk_X2_round_0 : Cond.fieldLink RX2 9 "GroutingIsFollowedModel" "s" "[I" ∈ wsX2_round := by decide +kernel
theorem zk_X2_round_1 : Cond.fieldLink RX2 13 "GroutingIsFollowedModel" "m" "[I" ∈ wsX2_round := by decide +kernel
set_option maxHeartbeats 4000000 in
set_option maxRecDepth 100000 in
theorem zc_X2_round (l : Launch) (D : va_G) (cI : ClassId) (ad : Nat → Nat) (m_s : (Nat → Int32)) (m_m : (Nat → Int32)) (m_image : (Nat → Int32)) (m_was : (Nat → Int32)) (m_hasImage : Int32) (m_letters : (Nat → Int32)) (m_row : (Nat → Int32)) (m_refused : (Nat → Int32)) (m_letterMany : Int32) (m_rowMany : Int32) (m_place : Int32) (m_numbers : (Nat → Int32)) (m_cost : (Nat → Int32)) (m_seed : Int32) (v1 : Int32) (r0 : Int32) (w_m_m : (Nat → Int32)) (w_m_refused : (Nat → Int32)) (h : zf_X2_round m_s m_m m_refused v1 = some (r0, w_m_m, w_m_refused)) : Cn l D cI yX2_round wsX2_round rm_X2_round [.ref (ad 0), .int v1] (zb_M cI ad m_s m_m m_image m_was m_hasImage m_letters m_row m_refused m_letterMany m_rowMany m_place m_numbers m_cost m_seed) (some (.int r0)) (zb_M cI ad m_s w_m_m m_image m_was m_hasImage m_letters m_row w_m_refused m_letterMany m_rowMany m_place m_numbers m_cost m_seed) := by
  refine zb_ofW (cc := cX2_round) (maxL := 3) (ret := (some .int)) (by decide) rfl (Nat.le_of_ble_eq_true rfl) ?_
  intro p e s m args below meth c A ls hx hb hr hml hts hown hlk hK hP hD hA hl
  have hS : va_S A s.heap s.heap [] := va_S.rf
  have hl : lv_has ls 3 [(0, .ref (ad 0)), (1, .int v1)] := hl
  unfold zf_X2_round at h
  refine lv_aload_n hx hb dX2_round_0 rfl (lv_at hl 0 rfl) ?_
  refine lv_iload_n hx hb dX2_round_1 rfl (lv_at hl 1 rfl) ?_
  obtain ⟨r1, g2, h⟩ := bo1 h
  refine zb_callV (As := [.int v1]) (rest := []) ⟨hx, hb, hml, hown, hts⟩ (zc_X2_isPerson l D cI ad m_s m_m m_image m_was m_hasImage m_letters m_row m_refused m_letterMany m_rowMany m_place m_numbers m_cost m_seed v1 r1 g2) (cwV 1 hts gX2_round_X2_isPerson rfl rfl rfl hd_X2_isPerson ⟨Nat.le_of_ble_eq_true rfl, Nat.le_of_ble_eq_true rfl⟩) hK hP hD hS hA (zb_sM) (q0 := 0) rfl rfl rfl hl.1 rfl (Nat.le_of_ble_eq_true rfl) dX2_round_2 ⟨Nat.le_refl _, Nat.le_refl _⟩ (fun H locs hP hD hS => ?_)
  refine lv_if_ne (tgt := 14) hx hb dX2_round_5 (by decide) (fun c3 => ?_) (fun c3 => ?_)
  · replace h := it_f c3 h
    refine lv_aload_n hx hb dX2_round_14 rfl (lv_at hl 0 rfl) ?_
    refine va_get (D := D) (ci := 2) (v := .ref (ad 1)) (C := RX2) (T := TX2) (N := 14) hx hb hts zi_X2_round_X2 hown hK.1 hP 0 rfl rfl 0 (by decide) (hts _ zk_X2_round_0) (fun _ h9 => h9) rfl dX2_round_15 ?_
    refine lv_aload_n hx hb dX2_round_18 rfl (lv_at hl 0 rfl) ?_
    refine va_get (D := D) (ci := 2) (v := .ref (ad 2)) (C := RX2) (T := TX2) (N := 14) hx hb hts zi_X2_round_X2 hown hK.1 hP 0 rfl rfl 1 (by decide) (hts _ zk_X2_round_1) (fun _ h9 => h9) rfl dX2_round_19 ?_
    obtain ⟨n4, g5, h⟩ := bo1 h
    refine zb_callS (As := [.ref (ad 1), .ref (ad 2)]) (rest := []) ⟨hx, hb, hml, hown, hts⟩ (zc_X2_copies l D cI (ad 1) (ad 2) m_s m_m n4 g5) (va_cwS 2 hts gX2_round_X2_copies rfl rfl rfl hd_X2_copies.2 ⟨Nat.le_of_ble_eq_true rfl, Nat.le_of_ble_eq_true rfl⟩) hK hP hD hS hA (zb_cM_s_m) rfl hl.1 rfl (Nat.le_of_ble_eq_true rfl) dX2_round_22 ⟨Nat.le_refl _, Nat.le_refl _⟩ (fun H locs hP hD hS => ?_)
    refine lv_iconst (v := (1 : Int32)) hx hb dX2_round_25 (by decide) ?_
    refine lv_istore_n (lv' := [(2, .int (1 : Int32)), (0, .ref (ad 0)), (1, .int v1)]) hx hb dX2_round_26 rfl hl (by decide) rfl (fun ls hl => ?_)
    have lp8 : ∀ (fu8 : Nat) (x6 : Int32) (x7 : (Nat → Int32)) (H : Heap) (locs : List Loc) (hP : va_P D zb_cl (zb_M cI ad m_s x7 m_image m_was m_hasImage m_letters m_row m_refused m_letterMany m_rowMany m_place m_numbers m_cost m_seed) H) (hD : va_D A (zb_M cI ad m_s x7 m_image m_was m_hasImage m_letters m_row m_refused m_letterMany m_rowMany m_place m_numbers m_cost m_seed)) (hS : va_S A s.heap H locs) (ls : Array Slot) (hl : lv_has ls 3 [(0, .ref (ad 0)), (1, .int v1), (2, .int x6)]) (h : zl2 (zf_X2_round_b27 v1 m_s m_refused) fu8 x6 x7 = some (r0, w_m_m, w_m_refused)), W p l e rm_X2_round s m args below meth c H locs 0 0 (zb_Q below D (some (.int r0)) (zb_M cI ad m_s w_m_m m_image m_was m_hasImage m_letters m_row w_m_refused m_letterMany m_rowMany m_place m_numbers m_cost m_seed) A args s) (F0 m 27 ls []) := by
      intro fu8
      induction fu8 with
      | zero => intro x6 x7 H locs hP hD hS ls hl h; exact zb_no h
      | succ fu8 ih8 =>
        intro x6 x7 H locs hP hD hS ls hl h
        replace h : zf_X2_round_b27 v1 m_s m_refused (zl2 (zf_X2_round_b27 v1 m_s m_refused) fu8) x6 x7 = some (r0, w_m_m, w_m_refused) := h
        unfold zf_X2_round_b27 at h
        refine lv_iload_n hx hb dX2_round_27 rfl (lv_at hl 2 rfl) ?_
        refine lv_bipush (v := (60 : Int32)) hx hb dX2_round_28 (by decide) ?_
        refine lv_icmp_gt (tgt := 94) hx hb dX2_round_30 (by decide) (fun c9 => ?_) (fun c9 => ?_)
        · replace h := it_t c9 h
          refine lv_bipush (v := ((-9) : Int32)) hx hb dX2_round_94 (by decide) ?_
          obtain ⟨rfl, rfl, rfl⟩ := re3 h
          exact zb_iret hx hb hr hlk hP hS dX2_round_96
        · replace h := it_f c9 h
          refine lv_aload_n hx hb dX2_round_33 rfl (lv_at hl 0 rfl) ?_
          refine va_get (D := D) (ci := 2) (v := .ref (ad 2)) (C := RX2) (T := TX2) (N := 14) hx hb hts zi_X2_round_X2 hown hK.1 hP 0 rfl rfl 1 (by decide) (hts _ zk_X2_round_1) (fun _ h9 => h9) rfl dX2_round_34 ?_
          obtain ⟨n10, g11, h⟩ := bo1 h
          refine zb_callS (As := [.ref (ad 2)]) (rest := []) ⟨hx, hb, hml, hown, hts⟩ (zc_X2_step l D cI (ad 2) x7 n10 g11) (va_cwS 1 hts gX2_round_X2_step rfl rfl rfl hd_X2_step.2 ⟨Nat.le_of_ble_eq_true rfl, Nat.le_of_ble_eq_true rfl⟩) hK hP hD hS hA (zb_cM_m) rfl hl.1 rfl (Nat.le_of_ble_eq_true rfl) dX2_round_37 ⟨Nat.le_refl _, Nat.le_refl _⟩ (fun H locs hP hD hS => ?_)
          refine lv_aload_n hx hb dX2_round_40 rfl (lv_at hl 0 rfl) ?_
          refine va_get (D := D) (ci := 2) (v := .ref (ad 2)) (C := RX2) (T := TX2) (N := 14) hx hb hts zi_X2_round_X2 hown hK.1 hP 0 rfl rfl 1 (by decide) (hts _ zk_X2_round_1) (fun _ h9 => h9) rfl dX2_round_41 ?_
          refine lv_iload_n hx hb dX2_round_44 rfl (lv_at hl 1 rfl) ?_
          refine lv_iconst (v := (0 : Int32)) hx hb dX2_round_45 (by decide) ?_
          obtain ⟨r12, g13, h⟩ := bo1 h
          refine zb_callS (As := [.int v1, .int (0 : Int32)]) (rest := [.ref (ad 2)]) ⟨hx, hb, hml, hown, hts⟩ (zc_X2_of l D cI v1 (0 : Int32) r12 g13) (va_cwS 2 hts gX2_round_X2_of rfl rfl rfl hd_X2_of.2 ⟨Nat.le_of_ble_eq_true rfl, Nat.le_of_ble_eq_true rfl⟩) hK hP hD hS hA (zb_none _) rfl hl.1 rfl (Nat.le_of_ble_eq_true rfl) dX2_round_46 ⟨Nat.le_refl _, Nat.le_refl _⟩ (fun H locs hP hD hS => ?_)
          obtain ⟨h14, h⟩ := it_g h
          refine va_iald hx hb hK.1 hP 2 0 rfl rfl h14 dX2_round_49 ?_
          refine lv_aload_n hx hb dX2_round_50 rfl (lv_at hl 0 rfl) ?_
          refine va_get (D := D) (ci := 2) (v := .ref (ad 1)) (C := RX2) (T := TX2) (N := 14) hx hb hts zi_X2_round_X2 hown hK.1 hP 0 rfl rfl 0 (by decide) (hts _ zk_X2_round_0) (fun _ h9 => h9) rfl dX2_round_51 ?_
          refine lv_iload_n hx hb dX2_round_54 rfl (lv_at hl 1 rfl) ?_
          refine lv_iconst (v := (0 : Int32)) hx hb dX2_round_55 (by decide) ?_
          obtain ⟨r15, g16, h⟩ := bo1 h
          refine zb_callS (As := [.int v1, .int (0 : Int32)]) (rest := [.ref (ad 1), .int (n10 r12.toNatClampNeg)]) ⟨hx, hb, hml, hown, hts⟩ (zc_X2_of l D cI v1 (0 : Int32) r15 g16) (va_cwS 2 hts gX2_round_X2_of rfl rfl rfl hd_X2_of.2 ⟨Nat.le_of_ble_eq_true rfl, Nat.le_of_ble_eq_true rfl⟩) hK hP hD hS hA (zb_none _) rfl hl.1 rfl (Nat.le_of_ble_eq_true rfl) dX2_round_56 ⟨Nat.le_refl _, Nat.le_refl _⟩ (fun H locs hP hD hS => ?_)
          obtain ⟨h17, h⟩ := it_g h
          refine va_iald hx hb hK.1 hP 1 0 rfl rfl h17 dX2_round_59 ?_
          refine lv_icmp_ne (tgt := 88) hx hb dX2_round_60 (by decide) (fun c18 => ?_) (fun c18 => ?_)
          · replace h := it_f c18 h
            refine lv_iinc (v := (x6 + (1 : Int32))) (lv' := [(2, .int (x6 + (1 : Int32))), (0, .ref (ad 0)), (1, .int v1)]) hx hb dX2_round_88 hl (k := 2) rfl (by first | rfl | decide) (by decide) rfl (fun ls hl => ?_)
            refine lv_goto (tgt := 27) hx hb dX2_round_91 (by decide) ?_
            exact ih8 (x6 + (1 : Int32)) n10 _ _ hP hD hS ls (lv_sub hl [1, 2, 0] rfl) h
          · replace h := it_t c18 h
            refine lv_aload_n hx hb dX2_round_63 rfl (lv_at hl 0 rfl) ?_
            refine va_get (D := D) (ci := 2) (v := .ref (ad 2)) (C := RX2) (T := TX2) (N := 14) hx hb hts zi_X2_round_X2 hown hK.1 hP 0 rfl rfl 1 (by decide) (hts _ zk_X2_round_1) (fun _ h9 => h9) rfl dX2_round_64 ?_
            refine lv_iload_n hx hb dX2_round_67 rfl (lv_at hl 1 rfl) ?_
            refine lv_iconst (v := (1 : Int32)) hx hb dX2_round_68 (by decide) ?_
            obtain ⟨r19, g20, h⟩ := bo1 h
            refine zb_callS (As := [.int v1, .int (1 : Int32)]) (rest := [.ref (ad 2)]) ⟨hx, hb, hml, hown, hts⟩ (zc_X2_of l D cI v1 (1 : Int32) r19 g20) (va_cwS 2 hts gX2_round_X2_of rfl rfl rfl hd_X2_of.2 ⟨Nat.le_of_ble_eq_true rfl, Nat.le_of_ble_eq_true rfl⟩) hK hP hD hS hA (zb_none _) rfl hl.1 rfl (Nat.le_of_ble_eq_true rfl) dX2_round_69 ⟨Nat.le_refl _, Nat.le_refl _⟩ (fun H locs hP hD hS => ?_)
            obtain ⟨h21, h⟩ := it_g h
            refine va_iald hx hb hK.1 hP 2 0 rfl rfl h21 dX2_round_72 ?_
            refine lv_aload_n hx hb dX2_round_73 rfl (lv_at hl 0 rfl) ?_
            refine va_get (D := D) (ci := 2) (v := .ref (ad 1)) (C := RX2) (T := TX2) (N := 14) hx hb hts zi_X2_round_X2 hown hK.1 hP 0 rfl rfl 0 (by decide) (hts _ zk_X2_round_0) (fun _ h9 => h9) rfl dX2_round_74 ?_
            refine lv_iload_n hx hb dX2_round_77 rfl (lv_at hl 1 rfl) ?_
            refine lv_iconst (v := (1 : Int32)) hx hb dX2_round_78 (by decide) ?_
            obtain ⟨r22, g23, h⟩ := bo1 h
            refine zb_callS (As := [.int v1, .int (1 : Int32)]) (rest := [.ref (ad 1), .int (n10 r19.toNatClampNeg)]) ⟨hx, hb, hml, hown, hts⟩ (zc_X2_of l D cI v1 (1 : Int32) r22 g23) (va_cwS 2 hts gX2_round_X2_of rfl rfl rfl hd_X2_of.2 ⟨Nat.le_of_ble_eq_true rfl, Nat.le_of_ble_eq_true rfl⟩) hK hP hD hS hA (zb_none _) rfl hl.1 rfl (Nat.le_of_ble_eq_true rfl) dX2_round_79 ⟨Nat.le_refl _, Nat.le_refl _⟩ (fun H locs hP hD hS => ?_)
            obtain ⟨h24, h⟩ := it_g h
            refine va_iald hx hb hK.1 hP 1 0 rfl rfl h24 dX2_round_82 ?_
            refine lv_icmp_ne (tgt := 88) hx hb dX2_round_83 (by decide) (fun c25 => ?_) (fun c25 => ?_)
            · replace h := it_f c25 h
              refine lv_iinc (v := (x6 + (1 : Int32))) (lv' := [(2, .int (x6 + (1 : Int32))), (0, .ref (ad 0)), (1, .int v1)]) hx hb dX2_round_88 hl (k := 2) rfl (by first | rfl | decide) (by decide) rfl (fun ls hl => ?_)
              refine lv_goto (tgt := 27) hx hb dX2_round_91 (by decide) ?_
              exact ih8 (x6 + (1 : Int32)) n10 _ _ hP hD hS ls (lv_sub hl [1, 2, 0] rfl) h
            · replace h := it_t c25 h
              refine lv_iload_n hx hb dX2_round_86 rfl (lv_at hl 2 rfl) ?_
              obtain ⟨rfl, rfl, rfl⟩ := re3 h
              exact zb_iret hx hb hr hlk hP hS dX2_round_87
    exact lp8 zb_FU (1 : Int32) n4 _ _ hP hD hS ls (lv_sub hl [1, 2, 0] rfl) h
  · replace h := it_t c3 h
    refine lv_aload_n hx hb dX2_round_8 rfl (lv_at hl 0 rfl) ?_
    refine lv_iconst (v := ((-1) : Int32)) hx hb dX2_round_9 (by decide) ?_
    obtain ⟨r26, n27, g28, h⟩ := bo2 h
    refine zb_callV (As := [.int ((-1) : Int32)]) (rest := []) ⟨hx, hb, hml, hown, hts⟩ (zc_X2_no l D cI ad m_s m_m m_image m_was m_hasImage m_letters m_row m_refused m_letterMany m_rowMany m_place m_numbers m_cost m_seed ((-1) : Int32) r26 n27 g28) (cwV 1 hts gX2_round_X2_no rfl rfl rfl hd_X2_no ⟨Nat.le_of_ble_eq_true rfl, Nat.le_of_ble_eq_true rfl⟩) hK hP hD hS hA (zb_sM) (q0 := 0) rfl rfl rfl hl.1 rfl (Nat.le_of_ble_eq_true rfl) dX2_round_10 ⟨Nat.le_refl _, Nat.le_refl _⟩ (fun H locs hP hD hS => ?_)
    obtain ⟨rfl, rfl, rfl⟩ := re3 h
    exact zb_iret hx hb hr hlk hP hS dX2_round_13
