abbrev rm_X1_tellComing : Room := { frames := 1, cells := 0, slots := 0, locals := 23 }
theorem hd_X1_tellComing : yX1_tellComing.cls = RX1 ∧ yX1_tellComing.cls ≠ "java/lang/invoke/MethodHandle" ∧ yX1_tellComing.cls ≠ "java/lang/invoke/VarHandle" ∧ (parseMethodDescriptor yX1_tellComing.desc).map (fun d => d.parameters.length) = some 2 := by decide +kernel
theorem zi_X1_tellComing_X1 : ∀ w ∈ wsX10, w ∈ wsX1_tellComing := fun _ h => List.mem_cons_of_mem _ (List.mem_append_left _ (List.mem_append_right _ h))
theorem zk_X1_tellComing_0 : Cond.fieldLink RX1 16 "GroutingIsFollowed" "mind" "LGroutingIsFollowed$Bath;" ∈ wsX1_tellComing := by decide +kernel
set_option maxHeartbeats 4000000 in
set_option maxRecDepth 100000 in
theorem zc_X1_tellComing (l : Launch) (D : va_G) (cI : ClassId) (ad : Nat → Nat) (g_now : BT) (g_mind : BT) (g_taken : BT) (g_isTaken : Int32) (g_letters : (Nat → Int32)) (g_letterCount : Int32) (g_told : (Nat → Int32)) (g_toldCount : Int32) (g_refusals : (Nat → Int32)) (g_costs : (Nat → Int32)) (g_gains : (Nat → Int32)) (g_seed : Int32) (v1 : Int32) (v2 : Int32) (r0 : Int32) (w_g_mind : BT) (h : zf_X1_tellComing g_mind v1 v2 = some (r0, w_g_mind)) : Cn l D cI yX1_tellComing wsX1_tellComing rm_X1_tellComing [.ref (ad 0), .int v1, .int v2] (zb_G cI ad g_now g_mind g_taken g_isTaken g_letters g_letterCount g_told g_toldCount g_refusals g_costs g_gains g_seed) (some (.int r0)) (zb_G cI ad g_now w_g_mind g_taken g_isTaken g_letters g_letterCount g_told g_toldCount g_refusals g_costs g_gains g_seed) := by
  refine zb_ofW (cc := cX1_tellComing) (maxL := 3) (ret := (some .boolean)) (by decide) rfl (Nat.le_of_ble_eq_true rfl) ?_
  intro p e s m args below meth c A ls hx hb hr hml hts hown hlk hK hP hD hA hl
  have hS : va_S A s.heap s.heap [] := va_S.rf
  have hl : lv_has ls 3 [(0, .ref (ad 0)), (1, .int v1), (2, .int v2)] := hl
  unfold zf_X1_tellComing at h
  refine lv_iload_n hx hb dX1_tellComing_0 rfl (lv_at hl 1 rfl) ?_
  obtain ⟨r1, g2, h⟩ := bo1 h
  refine zb_callS (As := [.int v1]) (rest := []) ⟨hx, hb, hml, hown, hts⟩ (zc_X1_isNode l D cI v1 r1 g2) (va_cwS 1 hts gX1_tellComing_X1_isNode rfl rfl rfl hd_X1_isNode.2 ⟨Nat.le_of_ble_eq_true rfl, Nat.le_of_ble_eq_true rfl⟩) hK hP hD hS hA (zb_none _) rfl hl.1 rfl (Nat.le_of_ble_eq_true rfl) dX1_tellComing_1 ⟨Nat.le_refl _, Nat.le_refl _⟩ (fun H locs hP hD hS => ?_)
  refine lv_if_eq (tgt := 24) hx hb dX1_tellComing_4 (by decide) (fun c3 => ?_) (fun c3 => ?_)
  · replace h := it_t c3 h
    refine lv_iconst (v := (0 : Int32)) hx hb dX1_tellComing_24 (by decide) ?_
    obtain ⟨rfl, rfl⟩ := re2 h
    exact zb_zret hx hb hr hlk rfl hP hS dX1_tellComing_25
  · replace h := it_f c3 h
    refine lv_iload_n hx hb dX1_tellComing_7 rfl (lv_at hl 2 rfl) ?_
    obtain ⟨r4, g5, h⟩ := bo1 h
    refine zb_callS (As := [.int v2]) (rest := []) ⟨hx, hb, hml, hown, hts⟩ (zc_X1_isWay l D cI v2 r4 g5) (va_cwS 1 hts gX1_tellComing_X1_isWay rfl rfl rfl hd_X1_isWay.2 ⟨Nat.le_of_ble_eq_true rfl, Nat.le_of_ble_eq_true rfl⟩) hK hP hD hS hA (zb_none _) rfl hl.1 rfl (Nat.le_of_ble_eq_true rfl) dX1_tellComing_8 ⟨Nat.le_refl _, Nat.le_refl _⟩ (fun H locs hP hD hS => ?_)
    refine lv_if_eq (tgt := 24) hx hb dX1_tellComing_11 (by decide) (fun c6 => ?_) (fun c6 => ?_)
    · replace h := it_t c6 h
      refine lv_iconst (v := (0 : Int32)) hx hb dX1_tellComing_24 (by decide) ?_
      obtain ⟨rfl, rfl⟩ := re2 h
      exact zb_zret hx hb hr hlk rfl hP hS dX1_tellComing_25
    · replace h := it_f c6 h
      refine lv_aload_n hx hb dX1_tellComing_14 rfl (lv_at hl 0 rfl) ?_
      refine va_get (D := D) (ci := 1) (v := .ref (ad 8)) (C := RX1) (T := TX1) (N := 12) hx hb hts zi_X1_tellComing_X1 hown hK.1 hP 0 rfl rfl 1 (by decide) (hts _ zk_X1_tellComing_0) (fun _ h9 => h9) rfl dX1_tellComing_15 ?_
      obtain ⟨r7, g8, h⟩ := bo1 h
      refine zb_callV (As := []) (rest := []) ⟨hx, hb, hml, hown, hts⟩ (zc_X0_isFull l D cI (ad 8) (ad 9) (ad 10) (ad 11) (ad 12) (ad 13) (ad 14) g_mind r7 g8) (cwV 0 hts gX1_tellComing_X0_isFull rfl rfl rfl hd_X0_isFull ⟨Nat.le_of_ble_eq_true rfl, Nat.le_of_ble_eq_true rfl⟩) hK hP hD hS hA (zb_cGm) (q0 := 0) rfl rfl rfl hl.1 rfl (Nat.le_of_ble_eq_true rfl) dX1_tellComing_18 ⟨Nat.le_refl _, Nat.le_refl _⟩ (fun H locs hP hD hS => ?_)
      refine lv_if_eq (tgt := 26) hx hb dX1_tellComing_21 (by decide) (fun c9 => ?_) (fun c9 => ?_)
      · replace h := it_t c9 h
        refine lv_aload_n hx hb dX1_tellComing_26 rfl (lv_at hl 0 rfl) ?_
        refine va_get (D := D) (ci := 1) (v := .ref (ad 8)) (C := RX1) (T := TX1) (N := 12) hx hb hts zi_X1_tellComing_X1 hown hK.1 hP 0 rfl rfl 1 (by decide) (hts _ zk_X1_tellComing_0) (fun _ h9 => h9) rfl dX1_tellComing_27 ?_
        refine lv_iload_n hx hb dX1_tellComing_30 rfl (lv_at hl 1 rfl) ?_
        refine lv_iload_n hx hb dX1_tellComing_31 rfl (lv_at hl 2 rfl) ?_
        obtain ⟨r10, n11, g12, h⟩ := bo2 h
        refine zb_callV (As := [.int v1, .int v2]) (rest := []) ⟨hx, hb, hml, hown, hts⟩ (zc_X0_add l D cI (ad 8) (ad 9) (ad 10) (ad 11) (ad 12) (ad 13) (ad 14) g_mind v1 v2 r10 n11 g12) (cwV 2 hts gX1_tellComing_X0_add rfl rfl rfl hd_X0_add ⟨Nat.le_of_ble_eq_true rfl, Nat.le_of_ble_eq_true rfl⟩) hK hP hD hS hA (zb_cGm) (q0 := 0) rfl rfl rfl hl.1 rfl (Nat.le_of_ble_eq_true rfl) dX1_tellComing_32 ⟨Nat.le_refl _, Nat.le_refl _⟩ (fun H locs hP hD hS => ?_)
        refine lv_pop hx hb dX1_tellComing_35 rfl ?_
        refine lv_iconst (v := (1 : Int32)) hx hb dX1_tellComing_36 (by decide) ?_
        obtain ⟨rfl, rfl⟩ := re2 h
        exact zb_zret hx hb hr hlk rfl hP hS dX1_tellComing_37
      · replace h := it_f c9 h
        refine lv_iconst (v := (0 : Int32)) hx hb dX1_tellComing_24 (by decide) ?_
        obtain ⟨rfl, rfl⟩ := re2 h
        exact zb_zret hx hb hr hlk rfl hP hS dX1_tellComing_25
abbrev rm_X1_tellHeading : Room := { frames := 2, cells := 0, slots := 0, locals := 43 }
theorem hd_X1_tellHeading : yX1_tellHeading.cls = RX1 ∧ yX1_tellHeading.cls ≠ "java/lang/invoke/MethodHandle" ∧ yX1_tellHeading.cls ≠ "java/lang/invoke/VarHandle" ∧ (parseMethodDescriptor yX1_tellHeading.desc).map (fun d => d.parameters.length) = some 2 := by decide +kernel
theorem zi_X1_tellHeading_X1 : ∀ w ∈ wsX10, w ∈ wsX1_tellHeading := fun _ h => List.mem_cons_of_mem _ (List.mem_append_left _ (List.mem_append_right _ h))
theorem zk_X1_tellHeading_0 : Cond.fieldLink RX1 16 "GroutingIsFollowed" "mind" "LGroutingIsFollowed$Bath;" ∈ wsX1_tellHeading := by decide +kernel
set_option maxHeartbeats 4000000 in
set_option maxRecDepth 100000 in
theorem zc_X1_tellHeading (l : Launch) (D : va_G) (cI : ClassId) (ad : Nat → Nat) (g_now : BT) (g_mind : BT) (g_taken : BT) (g_isTaken : Int32) (g_letters : (Nat → Int32)) (g_letterCount : Int32) (g_told : (Nat → Int32)) (g_toldCount : Int32) (g_refusals : (Nat → Int32)) (g_costs : (Nat → Int32)) (g_gains : (Nat → Int32)) (g_seed : Int32) (v1 : Int32) (v2 : Int32) (r0 : Int32) (w_g_mind : BT) (h : zf_X1_tellHeading g_mind v1 v2 = some (r0, w_g_mind)) : Cn l D cI yX1_tellHeading wsX1_tellHeading rm_X1_tellHeading [.ref (ad 0), .int v1, .int v2] (zb_G cI ad g_now g_mind g_taken g_isTaken g_letters g_letterCount g_told g_toldCount g_refusals g_costs g_gains g_seed) (some (.int r0)) (zb_G cI ad g_now w_g_mind g_taken g_isTaken g_letters g_letterCount g_told g_toldCount g_refusals g_costs g_gains g_seed) := by
  refine zb_ofW (cc := cX1_tellHeading) (maxL := 3) (ret := (some .boolean)) (by decide) rfl (Nat.le_of_ble_eq_true rfl) ?_
  intro p e s m args below meth c A ls hx hb hr hml hts hown hlk hK hP hD hA hl
  have hS : va_S A s.heap s.heap [] := va_S.rf
  have hl : lv_has ls 3 [(0, .ref (ad 0)), (1, .int v1), (2, .int v2)] := hl
  unfold zf_X1_tellHeading at h
  refine lv_aload_n hx hb dX1_tellHeading_0 rfl (lv_at hl 0 rfl) ?_
  refine va_get (D := D) (ci := 1) (v := .ref (ad 8)) (C := RX1) (T := TX1) (N := 12) hx hb hts zi_X1_tellHeading_X1 hown hK.1 hP 0 rfl rfl 1 (by decide) (hts _ zk_X1_tellHeading_0) (fun _ h9 => h9) rfl dX1_tellHeading_1 ?_
  refine lv_iload_n hx hb dX1_tellHeading_4 rfl (lv_at hl 1 rfl) ?_
  obtain ⟨r1, g2, h⟩ := bo1 h
  refine zb_callV (As := [.int v1]) (rest := []) ⟨hx, hb, hml, hown, hts⟩ (zc_X0_has l D cI (ad 8) (ad 9) (ad 10) (ad 11) (ad 12) (ad 13) (ad 14) g_mind v1 r1 g2) (cwV 1 hts gX1_tellHeading_X0_has rfl rfl rfl hd_X0_has ⟨Nat.le_of_ble_eq_true rfl, Nat.le_of_ble_eq_true rfl⟩) hK hP hD hS hA (zb_cGm) (q0 := 0) rfl rfl rfl hl.1 rfl (Nat.le_of_ble_eq_true rfl) dX1_tellHeading_5 ⟨Nat.le_refl _, Nat.le_refl _⟩ (fun H locs hP hD hS => ?_)
  refine lv_if_eq (tgt := 18) hx hb dX1_tellHeading_8 (by decide) (fun c3 => ?_) (fun c3 => ?_)
  · replace h := it_t c3 h
    refine lv_iconst (v := (0 : Int32)) hx hb dX1_tellHeading_18 (by decide) ?_
    obtain ⟨rfl, rfl⟩ := re2 h
    exact zb_zret hx hb hr hlk rfl hP hS dX1_tellHeading_19
  · replace h := it_f c3 h
    refine lv_iload_n hx hb dX1_tellHeading_11 rfl (lv_at hl 2 rfl) ?_
    obtain ⟨r4, g5, h⟩ := bo1 h
    refine zb_callS (As := [.int v2]) (rest := []) ⟨hx, hb, hml, hown, hts⟩ (zc_X1_isWay l D cI v2 r4 g5) (va_cwS 1 hts gX1_tellHeading_X1_isWay rfl rfl rfl hd_X1_isWay.2 ⟨Nat.le_of_ble_eq_true rfl, Nat.le_of_ble_eq_true rfl⟩) hK hP hD hS hA (zb_none _) rfl hl.1 rfl (Nat.le_of_ble_eq_true rfl) dX1_tellHeading_12 ⟨Nat.le_refl _, Nat.le_refl _⟩ (fun H locs hP hD hS => ?_)
    refine lv_if_ne (tgt := 20) hx hb dX1_tellHeading_15 (by decide) (fun c6 => ?_) (fun c6 => ?_)
    · replace h := it_f c6 h
      refine lv_aload_n hx hb dX1_tellHeading_20 rfl (lv_at hl 0 rfl) ?_
      refine va_get (D := D) (ci := 1) (v := .ref (ad 8)) (C := RX1) (T := TX1) (N := 12) hx hb hts zi_X1_tellHeading_X1 hown hK.1 hP 0 rfl rfl 1 (by decide) (hts _ zk_X1_tellHeading_0) (fun _ h9 => h9) rfl dX1_tellHeading_21 ?_
      refine lv_iload_n hx hb dX1_tellHeading_24 rfl (lv_at hl 1 rfl) ?_
      refine lv_iload_n hx hb dX1_tellHeading_25 rfl (lv_at hl 2 rfl) ?_
      obtain ⟨n7, g8, h⟩ := bo1 h
      refine zb_callV (As := [.int v1, .int v2]) (rest := []) ⟨hx, hb, hml, hown, hts⟩ (zc_X0_putHeading l D cI (ad 8) (ad 9) (ad 10) (ad 11) (ad 12) (ad 13) (ad 14) g_mind v1 v2 n7 g8) (cwV 2 hts gX1_tellHeading_X0_putHeading rfl rfl rfl hd_X0_putHeading ⟨Nat.le_of_ble_eq_true rfl, Nat.le_of_ble_eq_true rfl⟩) hK hP hD hS hA (zb_cGm) (q0 := 0) rfl rfl rfl hl.1 rfl (Nat.le_of_ble_eq_true rfl) dX1_tellHeading_26 ⟨Nat.le_refl _, Nat.le_refl _⟩ (fun H locs hP hD hS => ?_)
      refine lv_iconst (v := (1 : Int32)) hx hb dX1_tellHeading_29 (by decide) ?_
      obtain ⟨rfl, rfl⟩ := re2 h
      exact zb_zret hx hb hr hlk rfl hP hS dX1_tellHeading_30
    · replace h := it_t c6 h
      refine lv_iconst (v := (0 : Int32)) hx hb dX1_tellHeading_18 (by decide) ?_
      obtain ⟨rfl, rfl⟩ := re2 h
      exact zb_zret hx hb hr hlk rfl hP hS dX1_tellHeading_19
abbrev rm_X1_tellPlace : Room := { frames := 2, cells := 0, slots := 0, locals := 43 }
theorem hd_X1_tellPlace : yX1_tellPlace.cls = RX1 ∧ yX1_tellPlace.cls ≠ "java/lang/invoke/MethodHandle" ∧ yX1_tellPlace.cls ≠ "java/lang/invoke/VarHandle" ∧ (parseMethodDescriptor yX1_tellPlace.desc).map (fun d => d.parameters.length) = some 2 := by decide +kernel
theorem zi_X1_tellPlace_X1 : ∀ w ∈ wsX10, w ∈ wsX1_tellPlace := fun _ h => List.mem_cons_of_mem _ (List.mem_append_left _ (List.mem_append_right _ h))
theorem zk_X1_tellPlace_0 : Cond.fieldLink RX1 16 "GroutingIsFollowed" "mind" "LGroutingIsFollowed$Bath;" ∈ wsX1_tellPlace := by decide +kernel
set_option maxHeartbeats 4000000 in
set_option maxRecDepth 100000 in
theorem zc_X1_tellPlace (l : Launch) (D : va_G) (cI : ClassId) (ad : Nat → Nat) (g_now : BT) (g_mind : BT) (g_taken : BT) (g_isTaken : Int32) (g_letters : (Nat → Int32)) (g_letterCount : Int32) (g_told : (Nat → Int32)) (g_toldCount : Int32) (g_refusals : (Nat → Int32)) (g_costs : (Nat → Int32)) (g_gains : (Nat → Int32)) (g_seed : Int32) (v1 : Int32) (v2 : Int32) (r0 : Int32) (w_g_mind : BT) (h : zf_X1_tellPlace g_mind v1 v2 = some (r0, w_g_mind)) : Cn l D cI yX1_tellPlace wsX1_tellPlace rm_X1_tellPlace [.ref (ad 0), .int v1, .int v2] (zb_G cI ad g_now g_mind g_taken g_isTaken g_letters g_letterCount g_told g_toldCount g_refusals g_costs g_gains g_seed) (some (.int r0)) (zb_G cI ad g_now w_g_mind g_taken g_isTaken g_letters g_letterCount g_told g_toldCount g_refusals g_costs g_gains g_seed) := by
  refine zb_ofW (cc := cX1_tellPlace) (maxL := 3) (ret := (some .boolean)) (by decide) rfl (Nat.le_of_ble_eq_true rfl) ?_
  intro p e s m args below meth c A ls hx hb hr hml hts hown hlk hK hP hD hA hl
  have hS : va_S A s.heap s.heap [] := va_S.rf
  have hl : lv_has ls 3 [(0, .ref (ad 0)), (1, .int v1), (2, .int v2)] := hl
  unfold zf_X1_tellPlace at h
  refine lv_aload_n hx hb dX1_tellPlace_0 rfl (lv_at hl 0 rfl) ?_
  refine va_get (D := D) (ci := 1) (v := .ref (ad 8)) (C := RX1) (T := TX1) (N := 12) hx hb hts zi_X1_tellPlace_X1 hown hK.1 hP 0 rfl rfl 1 (by decide) (hts _ zk_X1_tellPlace_0) (fun _ h9 => h9) rfl dX1_tellPlace_1 ?_
  refine lv_iload_n hx hb dX1_tellPlace_4 rfl (lv_at hl 1 rfl) ?_
  obtain ⟨r1, g2, h⟩ := bo1 h
  refine zb_callV (As := [.int v1]) (rest := []) ⟨hx, hb, hml, hown, hts⟩ (zc_X0_has l D cI (ad 8) (ad 9) (ad 10) (ad 11) (ad 12) (ad 13) (ad 14) g_mind v1 r1 g2) (cwV 1 hts gX1_tellPlace_X0_has rfl rfl rfl hd_X0_has ⟨Nat.le_of_ble_eq_true rfl, Nat.le_of_ble_eq_true rfl⟩) hK hP hD hS hA (zb_cGm) (q0 := 0) rfl rfl rfl hl.1 rfl (Nat.le_of_ble_eq_true rfl) dX1_tellPlace_5 ⟨Nat.le_refl _, Nat.le_refl _⟩ (fun H locs hP hD hS => ?_)
  refine lv_if_eq (tgt := 18) hx hb dX1_tellPlace_8 (by decide) (fun c3 => ?_) (fun c3 => ?_)
  · replace h := it_t c3 h
    refine lv_iconst (v := (0 : Int32)) hx hb dX1_tellPlace_18 (by decide) ?_
    obtain ⟨rfl, rfl⟩ := re2 h
    exact zb_zret hx hb hr hlk rfl hP hS dX1_tellPlace_19
  · replace h := it_f c3 h
    refine lv_iload_n hx hb dX1_tellPlace_11 rfl (lv_at hl 2 rfl) ?_
    obtain ⟨r4, g5, h⟩ := bo1 h
    refine zb_callS (As := [.int v2]) (rest := []) ⟨hx, hb, hml, hown, hts⟩ (zc_X1_isNode l D cI v2 r4 g5) (va_cwS 1 hts gX1_tellPlace_X1_isNode rfl rfl rfl hd_X1_isNode.2 ⟨Nat.le_of_ble_eq_true rfl, Nat.le_of_ble_eq_true rfl⟩) hK hP hD hS hA (zb_none _) rfl hl.1 rfl (Nat.le_of_ble_eq_true rfl) dX1_tellPlace_12 ⟨Nat.le_refl _, Nat.le_refl _⟩ (fun H locs hP hD hS => ?_)
    refine lv_if_ne (tgt := 20) hx hb dX1_tellPlace_15 (by decide) (fun c6 => ?_) (fun c6 => ?_)
    · replace h := it_f c6 h
      refine lv_aload_n hx hb dX1_tellPlace_20 rfl (lv_at hl 0 rfl) ?_
      refine va_get (D := D) (ci := 1) (v := .ref (ad 8)) (C := RX1) (T := TX1) (N := 12) hx hb hts zi_X1_tellPlace_X1 hown hK.1 hP 0 rfl rfl 1 (by decide) (hts _ zk_X1_tellPlace_0) (fun _ h9 => h9) rfl dX1_tellPlace_21 ?_
      refine lv_iload_n hx hb dX1_tellPlace_24 rfl (lv_at hl 1 rfl) ?_
      refine lv_iload_n hx hb dX1_tellPlace_25 rfl (lv_at hl 2 rfl) ?_
      obtain ⟨n7, g8, h⟩ := bo1 h
      refine zb_callV (As := [.int v1, .int v2]) (rest := []) ⟨hx, hb, hml, hown, hts⟩ (zc_X0_putPlace l D cI (ad 8) (ad 9) (ad 10) (ad 11) (ad 12) (ad 13) (ad 14) g_mind v1 v2 n7 g8) (cwV 2 hts gX1_tellPlace_X0_putPlace rfl rfl rfl hd_X0_putPlace ⟨Nat.le_of_ble_eq_true rfl, Nat.le_of_ble_eq_true rfl⟩) hK hP hD hS hA (zb_cGm) (q0 := 0) rfl rfl rfl hl.1 rfl (Nat.le_of_ble_eq_true rfl) dX1_tellPlace_26 ⟨Nat.le_refl _, Nat.le_refl _⟩ (fun H locs hP hD hS => ?_)
      refine lv_iconst (v := (1 : Int32)) hx hb dX1_tellPlace_29 (by decide) ?_
      obtain ⟨rfl, rfl⟩ := re2 h
      exact zb_zret hx hb hr hlk rfl hP hS dX1_tellPlace_30
    · replace h := it_t c6 h
      refine lv_iconst (v := (0 : Int32)) hx hb dX1_tellPlace_18 (by decide) ?_
      obtain ⟨rfl, rfl⟩ := re2 h
      exact zb_zret hx hb hr hlk rfl hP hS dX1_tellPlace_19
abbrev rm_X1_tellSteps : Room := { frames := 4, cells := 0, slots := 0, locals := 90 }
theorem hd_X1_tellSteps : yX1_tellSteps.cls = RX1 ∧ yX1_tellSteps.cls ≠ "java/lang/invoke/MethodHandle" ∧ yX1_tellSteps.cls ≠ "java/lang/invoke/VarHandle" ∧ (parseMethodDescriptor yX1_tellSteps.desc).map (fun d => d.parameters.length) = some 1 := by decide +kernel
theorem zi_X1_tellSteps_X1 : ∀ w ∈ wsX10, w ∈ wsX1_tellSteps := fun _ h => List.mem_cons_of_mem _ (List.mem_append_left _ (List.mem_append_right _ h))
theorem zk_X1_tellSteps_0 : Cond.fieldLink RX1 16 "GroutingIsFollowed" "mind" "LGroutingIsFollowed$Bath;" ∈ wsX1_tellSteps := by decide +kernel
set_option maxHeartbeats 4000000 in
set_option maxRecDepth 100000 in
theorem zc_X1_tellSteps (l : Launch) (D : va_G) (cI : ClassId) (ad : Nat → Nat) (g_now : BT) (g_mind : BT) (g_taken : BT) (g_isTaken : Int32) (g_letters : (Nat → Int32)) (g_letterCount : Int32) (g_told : (Nat → Int32)) (g_toldCount : Int32) (g_refusals : (Nat → Int32)) (g_costs : (Nat → Int32)) (g_gains : (Nat → Int32)) (g_seed : Int32) (v1 : Int32) (r0 : Int32) (w_g_mind : BT) (h : zf_X1_tellSteps g_mind v1 = some (r0, w_g_mind)) : Cn l D cI yX1_tellSteps wsX1_tellSteps rm_X1_tellSteps [.ref (ad 0), .int v1] (zb_G cI ad g_now g_mind g_taken g_isTaken g_letters g_letterCount g_told g_toldCount g_refusals g_costs g_gains g_seed) (some (.int r0)) (zb_G cI ad g_now w_g_mind g_taken g_isTaken g_letters g_letterCount g_told g_toldCount g_refusals g_costs g_gains g_seed) := by
  refine zb_ofW (cc := cX1_tellSteps) (maxL := 2) (ret := (some .boolean)) (by decide) rfl (Nat.le_of_ble_eq_true rfl) ?_
  intro p e s m args below meth c A ls hx hb hr hml hts hown hlk hK hP hD hA hl
  have hS : va_S A s.heap s.heap [] := va_S.rf
  have hl : lv_has ls 2 [(0, .ref (ad 0)), (1, .int v1)] := hl
  unfold zf_X1_tellSteps at h
  refine lv_iload_n hx hb dX1_tellSteps_0 rfl (lv_at hl 1 rfl) ?_
  refine lv_iconst (v := (1 : Int32)) hx hb dX1_tellSteps_1 (by decide) ?_
  refine lv_bipush (v := (60 : Int32)) hx hb dX1_tellSteps_2 (by decide) ?_
  obtain ⟨r1, g2, h⟩ := bo1 h
  refine zb_callS (As := [.int v1, .int (1 : Int32), .int (60 : Int32)]) (rest := []) ⟨hx, hb, hml, hown, hts⟩ (zc_X1_outside l D cI v1 (1 : Int32) (60 : Int32) r1 g2) (va_cwS 3 hts gX1_tellSteps_X1_outside rfl rfl rfl hd_X1_outside.2 ⟨Nat.le_of_ble_eq_true rfl, Nat.le_of_ble_eq_true rfl⟩) hK hP hD hS hA (zb_none _) rfl hl.1 rfl (Nat.le_of_ble_eq_true rfl) dX1_tellSteps_4 ⟨Nat.le_refl _, Nat.le_refl _⟩ (fun H locs hP hD hS => ?_)
  refine lv_if_ne (tgt := 25) hx hb dX1_tellSteps_7 (by decide) (fun c3 => ?_) (fun c3 => ?_)
  · replace h := it_f c3 h
    refine lv_iconst (v := (0 : Int32)) hx hb dX1_tellSteps_25 (by decide) ?_
    obtain ⟨rfl, rfl⟩ := re2 h
    exact zb_zret hx hb hr hlk rfl hP hS dX1_tellSteps_26
  · replace h := it_t c3 h
    refine lv_aload_n hx hb dX1_tellSteps_10 rfl (lv_at hl 0 rfl) ?_
    refine va_get (D := D) (ci := 1) (v := .ref (ad 8)) (C := RX1) (T := TX1) (N := 12) hx hb hts zi_X1_tellSteps_X1 hown hK.1 hP 0 rfl rfl 1 (by decide) (hts _ zk_X1_tellSteps_0) (fun _ h9 => h9) rfl dX1_tellSteps_11 ?_
    obtain ⟨r4, g5, h⟩ := bo1 h
    refine zb_callV (As := []) (rest := []) ⟨hx, hb, hml, hown, hts⟩ (zc_X0_stepCount l D cI (ad 8) (ad 9) (ad 10) (ad 11) (ad 12) (ad 13) (ad 14) g_mind r4 g5) (cwV 0 hts gX1_tellSteps_X0_stepCount rfl rfl rfl hd_X0_stepCount ⟨Nat.le_of_ble_eq_true rfl, Nat.le_of_ble_eq_true rfl⟩) hK hP hD hS hA (zb_cGm) (q0 := 0) rfl rfl rfl hl.1 rfl (Nat.le_of_ble_eq_true rfl) dX1_tellSteps_14 ⟨Nat.le_refl _, Nat.le_refl _⟩ (fun H locs hP hD hS => ?_)
    refine lv_iload_n hx hb dX1_tellSteps_17 rfl (lv_at hl 1 rfl) ?_
    refine lv_iadd hx hb dX1_tellSteps_18 ?_
    refine lv_sipush (v := (999 : Int32)) hx hb dX1_tellSteps_19 (by decide) ?_
    refine lv_icmp_le (tgt := 27) hx hb dX1_tellSteps_22 (by decide) (fun c6 => ?_) (fun c6 => ?_)
    · replace h := it_t c6 h
      refine lv_aload_n hx hb dX1_tellSteps_27 rfl (lv_at hl 0 rfl) ?_
      refine va_get (D := D) (ci := 1) (v := .ref (ad 8)) (C := RX1) (T := TX1) (N := 12) hx hb hts zi_X1_tellSteps_X1 hown hK.1 hP 0 rfl rfl 1 (by decide) (hts _ zk_X1_tellSteps_0) (fun _ h9 => h9) rfl dX1_tellSteps_28 ?_
      refine lv_iload_n hx hb dX1_tellSteps_31 rfl (lv_at hl 1 rfl) ?_
      refine lv_iconst (v := (0 : Int32)) hx hb dX1_tellSteps_32 (by decide) ?_
      obtain ⟨n7, g8, h⟩ := bo1 h
      refine zb_callV (As := [.int v1, .int (0 : Int32)]) (rest := []) ⟨hx, hb, hml, hown, hts⟩ (zc_X0_goOn l D cI (ad 8) (ad 9) (ad 10) (ad 11) (ad 12) (ad 13) (ad 14) g_mind v1 (0 : Int32) n7 g8) (cwV 2 hts gX1_tellSteps_X0_goOn rfl rfl rfl hd_X0_goOn ⟨Nat.le_of_ble_eq_true rfl, Nat.le_of_ble_eq_true rfl⟩) hK hP hD hS hA (zb_cGm) (q0 := 0) rfl rfl rfl hl.1 rfl (Nat.le_of_ble_eq_true rfl) dX1_tellSteps_33 ⟨Nat.le_refl _, Nat.le_refl _⟩ (fun H locs hP hD hS => ?_)
      refine lv_iconst (v := (1 : Int32)) hx hb dX1_tellSteps_36 (by decide) ?_
      obtain ⟨rfl, rfl⟩ := re2 h
      exact zb_zret hx hb hr hlk rfl hP hS dX1_tellSteps_37
    · replace h := it_f c6 h
      refine lv_iconst (v := (0 : Int32)) hx hb dX1_tellSteps_25 (by decide) ?_
      obtain ⟨rfl, rfl⟩ := re2 h
      exact zb_zret hx hb hr hlk rfl hP hS dX1_tellSteps_26
