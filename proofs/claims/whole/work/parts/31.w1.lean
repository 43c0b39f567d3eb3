abbrev rm_X1_personThen : Room := { frames := 3, cells := 0, slots := 0, locals := 72 }
theorem hd_X1_personThen : yX1_personThen.cls = RX1 ∧ yX1_personThen.cls ≠ "java/lang/invoke/MethodHandle" ∧ yX1_personThen.cls ≠ "java/lang/invoke/VarHandle" ∧ (parseMethodDescriptor yX1_personThen.desc).map (fun d => d.parameters.length) = some 3 := by decide +kernel
theorem zi_X1_personThen_X1 : ∀ w ∈ wsX10, w ∈ wsX1_personThen := fun _ h => List.mem_cons_of_mem _ (List.mem_append_left _ (List.mem_append_right _ h))
theorem zk_X1_personThen_0 : Cond.fieldLink RX1 10 "GroutingIsFollowed" "now" "LGroutingIsFollowed$Bath;" ∈ wsX1_personThen := by decide +kernel
theorem zk_X1_personThen_1 : Cond.fieldLink RX1 16 "GroutingIsFollowed" "mind" "LGroutingIsFollowed$Bath;" ∈ wsX1_personThen := by decide +kernel
set_option maxHeartbeats 4000000 in
set_option maxRecDepth 100000 in
theorem zc_X1_personThen (l : Launch) (D : va_G) (cI : ClassId) (ad : Nat → Nat) (g_now : BT) (g_mind : BT) (g_taken : BT) (g_isTaken : Int32) (g_letters : (Nat → Int32)) (g_letterCount : Int32) (g_told : (Nat → Int32)) (g_toldCount : Int32) (g_refusals : (Nat → Int32)) (g_costs : (Nat → Int32)) (g_gains : (Nat → Int32)) (g_seed : Int32) (v1 : Int32) (v2 : Int32) (v3 : Int32) (r0 : Int32) (w_g_mind : BT) (w_g_refusals : (Nat → Int32)) (h : zf_X1_personThen g_now g_mind g_refusals v1 v2 v3 = some (r0, w_g_mind, w_g_refusals)) : Cn l D cI yX1_personThen wsX1_personThen rm_X1_personThen [.ref (ad 0), .int v1, .int v2, .int v3] (zb_G cI ad g_now g_mind g_taken g_isTaken g_letters g_letterCount g_told g_toldCount g_refusals g_costs g_gains g_seed) (some (.int r0)) (zb_G cI ad g_now w_g_mind g_taken g_isTaken g_letters g_letterCount g_told g_toldCount w_g_refusals g_costs g_gains g_seed) := by
  refine zb_ofW (cc := cX1_personThen) (maxL := 5) (ret := (some .int)) (by decide) rfl (Nat.le_of_ble_eq_true rfl) ?_
  intro p e s m args below meth c A ls hx hb hr hml hts hown hlk hK hP hD hA hl
  have hS : va_S A s.heap s.heap [] := va_S.rf
  have hl : lv_has ls 5 [(0, .ref (ad 0)), (1, .int v1), (2, .int v2), (3, .int v3)] := hl
  unfold zf_X1_personThen at h
  refine lv_aload_n hx hb dX1_personThen_0 rfl (lv_at hl 0 rfl) ?_
  refine va_get (D := D) (ci := 1) (v := .ref (ad 1)) (C := RX1) (T := TX1) (N := 12) hx hb hts zi_X1_personThen_X1 hown hK.1 hP 0 rfl rfl 0 (by decide) (hts _ zk_X1_personThen_0) (fun _ h9 => h9) rfl dX1_personThen_1 ?_
  refine lv_iload_n hx hb dX1_personThen_4 rfl (lv_at hl 1 rfl) ?_
  obtain ⟨r1, g2, h⟩ := bo1 h
  refine zb_callV (As := [.int v1]) (rest := []) ⟨hx, hb, hml, hown, hts⟩ (zc_X0_has l D cI (ad 1) (ad 2) (ad 3) (ad 4) (ad 5) (ad 6) (ad 7) g_now v1 r1 g2) (cwV 1 hts gX1_personThen_X0_has rfl rfl rfl hd_X0_has ⟨Nat.le_of_ble_eq_true rfl, Nat.le_of_ble_eq_true rfl⟩) hK hP hD hS hA (zb_cGn) (q0 := 0) rfl rfl rfl hl.1 rfl (Nat.le_of_ble_eq_true rfl) dX1_personThen_5 ⟨Nat.le_refl _, Nat.le_refl _⟩ (fun H locs hP hD hS => ?_)
  refine lv_if_ne (tgt := 17) hx hb dX1_personThen_8 (by decide) (fun c3 => ?_) (fun c3 => ?_)
  · replace h := it_f c3 h
    refine lv_iload_n hx hb dX1_personThen_17 rfl (lv_at hl 2 rfl) ?_
    refine lv_iconst (v := (0 : Int32)) hx hb dX1_personThen_18 (by decide) ?_
    refine lv_bipush (v := (60 : Int32)) hx hb dX1_personThen_19 (by decide) ?_
    obtain ⟨r4, g5, h⟩ := bo1 h
    refine zb_callS (As := [.int v2, .int (0 : Int32), .int (60 : Int32)]) (rest := []) ⟨hx, hb, hml, hown, hts⟩ (zc_X1_outside l D cI v2 (0 : Int32) (60 : Int32) r4 g5) (va_cwS 3 hts gX1_personThen_X1_outside rfl rfl rfl hd_X1_outside.2 ⟨Nat.le_of_ble_eq_true rfl, Nat.le_of_ble_eq_true rfl⟩) hK hP hD hS hA (zb_none _) rfl hl.1 rfl (Nat.le_of_ble_eq_true rfl) dX1_personThen_21 ⟨Nat.le_refl _, Nat.le_refl _⟩ (fun H locs hP hD hS => ?_)
    refine lv_istore (lv' := [(4, .int r4), (0, .ref (ad 0)), (1, .int v1), (2, .int v2), (3, .int v3)]) hx hb dX1_personThen_24 hl (by decide) rfl (fun ls hl => ?_)
    refine lv_iload hx hb dX1_personThen_26 (lv_at hl 0 rfl) ?_
    refine lv_if_eq (tgt := 38) hx hb dX1_personThen_28 (by decide) (fun c6 => ?_) (fun c6 => ?_)
    · replace h := it_t c6 h
      refine lv_iload_n hx hb dX1_personThen_38 rfl (lv_at hl 4 rfl) ?_
      refine lv_if_lt (tgt := 47) hx hb dX1_personThen_39 (by decide) (fun c7 => ?_) (fun c7 => ?_)
      · replace h := it_t c7 h
        refine lv_aload_n hx hb dX1_personThen_47 rfl (lv_at hl 1 rfl) ?_
        refine lv_bipush (v := ((-2) : Int32)) hx hb dX1_personThen_48 (by decide) ?_
        obtain ⟨r8, n9, g10, h⟩ := bo2 h
        refine zb_callV (As := [.int ((-2) : Int32)]) (rest := []) ⟨hx, hb, hml, hown, hts⟩ (zc_X1_refuse l D cI ad g_now g_mind g_taken g_isTaken g_letters g_letterCount g_told g_toldCount g_refusals g_costs g_gains g_seed ((-2) : Int32) r8 n9 g10) (cwV 1 hts gX1_personThen_X1_refuse rfl rfl rfl hd_X1_refuse ⟨Nat.le_of_ble_eq_true rfl, Nat.le_of_ble_eq_true rfl⟩) hK hP hD hS hA (zb_sG) (q0 := 0) rfl rfl rfl hl.1 rfl (Nat.le_of_ble_eq_true rfl) dX1_personThen_50 ⟨Nat.le_refl _, Nat.le_refl _⟩ (fun H locs hP hD hS => ?_)
        obtain ⟨rfl, rfl, rfl⟩ := re3 h
        exact zb_iret hx hb hr hlk hP hS dX1_personThen_53
      · replace h := it_f c7 h
        refine lv_iload_n hx hb dX1_personThen_42 rfl (lv_at hl 4 rfl) ?_
        refine lv_iconst (v := (2 : Int32)) hx hb dX1_personThen_43 (by decide) ?_
        refine lv_icmp_le (tgt := 54) hx hb dX1_personThen_44 (by decide) (fun c11 => ?_) (fun c11 => ?_)
        · replace h := it_t c11 h
          refine lv_aload_n hx hb dX1_personThen_54 rfl (lv_at hl 1 rfl) ?_
          refine va_get (D := D) (ci := 1) (v := .ref (ad 8)) (C := RX1) (T := TX1) (N := 12) hx hb hts zi_X1_personThen_X1 hown hK.1 hP 0 rfl rfl 1 (by decide) (hts _ zk_X1_personThen_1) (fun _ h9 => h9) rfl dX1_personThen_55 ?_
          refine lv_aload_n hx hb dX1_personThen_58 rfl (lv_at hl 1 rfl) ?_
          refine va_get (D := D) (ci := 1) (v := .ref (ad 1)) (C := RX1) (T := TX1) (N := 12) hx hb hts zi_X1_personThen_X1 hown hK.1 hP 0 rfl rfl 0 (by decide) (hts _ zk_X1_personThen_0) (fun _ h9 => h9) rfl dX1_personThen_59 ?_
          obtain ⟨n12, g13, h⟩ := bo1 h
          refine zb_callV (As := [.ref (ad 1)]) (rest := []) ⟨hx, hb, hml, hown, hts⟩ (zc_X0_becomes l D cI (ad 8) (ad 9) (ad 10) (ad 11) (ad 12) (ad 13) (ad 14) (ad 1) (ad 2) (ad 3) (ad 4) (ad 5) (ad 6) (ad 7) g_mind g_now n12 g13) (cwV 1 hts gX1_personThen_X0_becomes rfl rfl rfl hd_X0_becomes ⟨Nat.le_of_ble_eq_true rfl, Nat.le_of_ble_eq_true rfl⟩) hK hP hD hS hA (zb_cGmn) (q0 := 0) rfl rfl rfl hl.1 rfl (Nat.le_of_ble_eq_true rfl) dX1_personThen_62 ⟨Nat.le_refl _, Nat.le_refl _⟩ (fun H locs hP hD hS => ?_)
          refine lv_aload_n hx hb dX1_personThen_65 rfl (lv_at hl 1 rfl) ?_
          refine va_get (D := D) (ci := 1) (v := .ref (ad 8)) (C := RX1) (T := TX1) (N := 12) hx hb hts zi_X1_personThen_X1 hown hK.1 hP 0 rfl rfl 1 (by decide) (hts _ zk_X1_personThen_1) (fun _ h9 => h9) rfl dX1_personThen_66 ?_
          refine lv_iload_n hx hb dX1_personThen_69 rfl (lv_at hl 3 rfl) ?_
          refine lv_iconst (v := (0 : Int32)) hx hb dX1_personThen_70 (by decide) ?_
          obtain ⟨n14, g15, h⟩ := bo1 h
          refine zb_callV (As := [.int v2, .int (0 : Int32)]) (rest := []) ⟨hx, hb, hml, hown, hts⟩ (zc_X0_goOn l D cI (ad 8) (ad 9) (ad 10) (ad 11) (ad 12) (ad 13) (ad 14) n12 v2 (0 : Int32) n14 g15) (cwV 2 hts gX1_personThen_X0_goOn rfl rfl rfl hd_X0_goOn ⟨Nat.le_of_ble_eq_true rfl, Nat.le_of_ble_eq_true rfl⟩) hK hP hD hS hA (zb_cGm) (q0 := 0) rfl rfl rfl hl.1 rfl (Nat.le_of_ble_eq_true rfl) dX1_personThen_71 ⟨Nat.le_refl _, Nat.le_refl _⟩ (fun H locs hP hD hS => ?_)
          refine lv_aload_n hx hb dX1_personThen_74 rfl (lv_at hl 1 rfl) ?_
          refine va_get (D := D) (ci := 1) (v := .ref (ad 8)) (C := RX1) (T := TX1) (N := 12) hx hb hts zi_X1_personThen_X1 hown hK.1 hP 0 rfl rfl 1 (by decide) (hts _ zk_X1_personThen_1) (fun _ h9 => h9) rfl dX1_personThen_75 ?_
          refine lv_iload_n hx hb dX1_personThen_78 rfl (lv_at hl 2 rfl) ?_
          refine lv_iload_n hx hb dX1_personThen_79 rfl (lv_at hl 4 rfl) ?_
          obtain ⟨r16, g17, h⟩ := bo1 h
          refine zb_callV (As := [.int v1, .int v3]) (rest := []) ⟨hx, hb, hml, hown, hts⟩ (zc_X0_ofPerson l D cI (ad 8) (ad 9) (ad 10) (ad 11) (ad 12) (ad 13) (ad 14) n14 v1 v3 r16 g17) (cwV 2 hts gX1_personThen_X0_ofPerson rfl rfl rfl hd_X0_ofPerson ⟨Nat.le_of_ble_eq_true rfl, Nat.le_of_ble_eq_true rfl⟩) hK hP hD hS hA (zb_cGm) (q0 := 0) rfl rfl rfl hl.1 rfl (Nat.le_of_ble_eq_true rfl) dX1_personThen_80 ⟨Nat.le_refl _, Nat.le_refl _⟩ (fun H locs hP hD hS => ?_)
          obtain ⟨rfl, rfl, rfl⟩ := re3 h
          exact zb_iret hx hb hr hlk hP hS dX1_personThen_83
        · replace h := it_f c11 h
          refine lv_aload_n hx hb dX1_personThen_47 rfl (lv_at hl 1 rfl) ?_
          refine lv_bipush (v := ((-2) : Int32)) hx hb dX1_personThen_48 (by decide) ?_
          obtain ⟨r18, n19, g20, h⟩ := bo2 h
          refine zb_callV (As := [.int ((-2) : Int32)]) (rest := []) ⟨hx, hb, hml, hown, hts⟩ (zc_X1_refuse l D cI ad g_now g_mind g_taken g_isTaken g_letters g_letterCount g_told g_toldCount g_refusals g_costs g_gains g_seed ((-2) : Int32) r18 n19 g20) (cwV 1 hts gX1_personThen_X1_refuse rfl rfl rfl hd_X1_refuse ⟨Nat.le_of_ble_eq_true rfl, Nat.le_of_ble_eq_true rfl⟩) hK hP hD hS hA (zb_sG) (q0 := 0) rfl rfl rfl hl.1 rfl (Nat.le_of_ble_eq_true rfl) dX1_personThen_50 ⟨Nat.le_refl _, Nat.le_refl _⟩ (fun H locs hP hD hS => ?_)
          obtain ⟨rfl, rfl, rfl⟩ := re3 h
          exact zb_iret hx hb hr hlk hP hS dX1_personThen_53
    · replace h := it_f c6 h
      refine lv_aload_n hx hb dX1_personThen_31 rfl (lv_at hl 1 rfl) ?_
      refine lv_iload hx hb dX1_personThen_32 (lv_at hl 0 rfl) ?_
      obtain ⟨r21, n22, g23, h⟩ := bo2 h
      refine zb_callV (As := [.int r4]) (rest := []) ⟨hx, hb, hml, hown, hts⟩ (zc_X1_refuse l D cI ad g_now g_mind g_taken g_isTaken g_letters g_letterCount g_told g_toldCount g_refusals g_costs g_gains g_seed r4 r21 n22 g23) (cwV 1 hts gX1_personThen_X1_refuse rfl rfl rfl hd_X1_refuse ⟨Nat.le_of_ble_eq_true rfl, Nat.le_of_ble_eq_true rfl⟩) hK hP hD hS hA (zb_sG) (q0 := 0) rfl rfl rfl hl.1 rfl (Nat.le_of_ble_eq_true rfl) dX1_personThen_34 ⟨Nat.le_refl _, Nat.le_refl _⟩ (fun H locs hP hD hS => ?_)
      obtain ⟨rfl, rfl, rfl⟩ := re3 h
      exact zb_iret hx hb hr hlk hP hS dX1_personThen_37
  · replace h := it_t c3 h
    refine lv_aload_n hx hb dX1_personThen_11 rfl (lv_at hl 0 rfl) ?_
    refine lv_iconst (v := ((-1) : Int32)) hx hb dX1_personThen_12 (by decide) ?_
    obtain ⟨r24, n25, g26, h⟩ := bo2 h
    refine zb_callV (As := [.int ((-1) : Int32)]) (rest := []) ⟨hx, hb, hml, hown, hts⟩ (zc_X1_refuse l D cI ad g_now g_mind g_taken g_isTaken g_letters g_letterCount g_told g_toldCount g_refusals g_costs g_gains g_seed ((-1) : Int32) r24 n25 g26) (cwV 1 hts gX1_personThen_X1_refuse rfl rfl rfl hd_X1_refuse ⟨Nat.le_of_ble_eq_true rfl, Nat.le_of_ble_eq_true rfl⟩) hK hP hD hS hA (zb_sG) (q0 := 0) rfl rfl rfl hl.1 rfl (Nat.le_of_ble_eq_true rfl) dX1_personThen_13 ⟨Nat.le_refl _, Nat.le_refl _⟩ (fun H locs hP hD hS => ?_)
    obtain ⟨rfl, rfl, rfl⟩ := re3 h
    exact zb_iret hx hb hr hlk hP hS dX1_personThen_16
abbrev rm_X1_wetThen : Room := { frames := 3, cells := 0, slots := 0, locals := 72 }
theorem hd_X1_wetThen : yX1_wetThen.cls = RX1 ∧ yX1_wetThen.cls ≠ "java/lang/invoke/MethodHandle" ∧ yX1_wetThen.cls ≠ "java/lang/invoke/VarHandle" ∧ (parseMethodDescriptor yX1_wetThen.desc).map (fun d => d.parameters.length) = some 2 := by decide +kernel
theorem zi_X1_wetThen_X1 : ∀ w ∈ wsX10, w ∈ wsX1_wetThen := fun _ h => List.mem_cons_of_mem _ (List.mem_append_left _ (List.mem_append_right _ h))
theorem zk_X1_wetThen_0 : Cond.fieldLink RX1 16 "GroutingIsFollowed" "mind" "LGroutingIsFollowed$Bath;" ∈ wsX1_wetThen := by decide +kernel
theorem zk_X1_wetThen_1 : Cond.fieldLink RX1 10 "GroutingIsFollowed" "now" "LGroutingIsFollowed$Bath;" ∈ wsX1_wetThen := by decide +kernel
set_option maxHeartbeats 4000000 in
set_option maxRecDepth 100000 in
theorem zc_X1_wetThen (l : Launch) (D : va_G) (cI : ClassId) (ad : Nat → Nat) (g_now : BT) (g_mind : BT) (g_taken : BT) (g_isTaken : Int32) (g_letters : (Nat → Int32)) (g_letterCount : Int32) (g_told : (Nat → Int32)) (g_toldCount : Int32) (g_refusals : (Nat → Int32)) (g_costs : (Nat → Int32)) (g_gains : (Nat → Int32)) (g_seed : Int32) (v1 : Int32) (v2 : Int32) (r0 : Int32) (w_g_mind : BT) (w_g_refusals : (Nat → Int32)) (h : zf_X1_wetThen g_now g_mind g_refusals v1 v2 = some (r0, w_g_mind, w_g_refusals)) : Cn l D cI yX1_wetThen wsX1_wetThen rm_X1_wetThen [.ref (ad 0), .int v1, .int v2] (zb_G cI ad g_now g_mind g_taken g_isTaken g_letters g_letterCount g_told g_toldCount g_refusals g_costs g_gains g_seed) (some (.int r0)) (zb_G cI ad g_now w_g_mind g_taken g_isTaken g_letters g_letterCount g_told g_toldCount w_g_refusals g_costs g_gains g_seed) := by
  refine zb_ofW (cc := cX1_wetThen) (maxL := 4) (ret := (some .int)) (by decide) rfl (Nat.le_of_ble_eq_true rfl) ?_
  intro p e s m args below meth c A ls hx hb hr hml hts hown hlk hK hP hD hA hl
  have hS : va_S A s.heap s.heap [] := va_S.rf
  have hl : lv_has ls 4 [(0, .ref (ad 0)), (1, .int v1), (2, .int v2)] := hl
  unfold zf_X1_wetThen at h
  refine lv_iload_n hx hb dX1_wetThen_0 rfl (lv_at hl 1 rfl) ?_
  obtain ⟨r1, g2, h⟩ := bo1 h
  refine zb_callS (As := [.int v1]) (rest := []) ⟨hx, hb, hml, hown, hts⟩ (zc_X1_isNode l D cI v1 r1 g2) (va_cwS 1 hts gX1_wetThen_X1_isNode rfl rfl rfl hd_X1_isNode.2 ⟨Nat.le_of_ble_eq_true rfl, Nat.le_of_ble_eq_true rfl⟩) hK hP hD hS hA (zb_none _) rfl hl.1 rfl (Nat.le_of_ble_eq_true rfl) dX1_wetThen_1 ⟨Nat.le_refl _, Nat.le_refl _⟩ (fun H locs hP hD hS => ?_)
  refine lv_if_ne (tgt := 13) hx hb dX1_wetThen_4 (by decide) (fun c3 => ?_) (fun c3 => ?_)
  · replace h := it_f c3 h
    refine lv_iload_n hx hb dX1_wetThen_13 rfl (lv_at hl 2 rfl) ?_
    refine lv_iconst (v := (0 : Int32)) hx hb dX1_wetThen_14 (by decide) ?_
    refine lv_bipush (v := (60 : Int32)) hx hb dX1_wetThen_15 (by decide) ?_
    obtain ⟨r4, g5, h⟩ := bo1 h
    refine zb_callS (As := [.int v2, .int (0 : Int32), .int (60 : Int32)]) (rest := []) ⟨hx, hb, hml, hown, hts⟩ (zc_X1_outside l D cI v2 (0 : Int32) (60 : Int32) r4 g5) (va_cwS 3 hts gX1_wetThen_X1_outside rfl rfl rfl hd_X1_outside.2 ⟨Nat.le_of_ble_eq_true rfl, Nat.le_of_ble_eq_true rfl⟩) hK hP hD hS hA (zb_none _) rfl hl.1 rfl (Nat.le_of_ble_eq_true rfl) dX1_wetThen_17 ⟨Nat.le_refl _, Nat.le_refl _⟩ (fun H locs hP hD hS => ?_)
    refine lv_istore_n (lv' := [(3, .int r4), (0, .ref (ad 0)), (1, .int v1), (2, .int v2)]) hx hb dX1_wetThen_20 rfl hl (by decide) rfl (fun ls hl => ?_)
    refine lv_iload_n hx hb dX1_wetThen_21 rfl (lv_at hl 0 rfl) ?_
    refine lv_if_eq (tgt := 31) hx hb dX1_wetThen_22 (by decide) (fun c6 => ?_) (fun c6 => ?_)
    · replace h := it_t c6 h
      refine lv_aload_n hx hb dX1_wetThen_31 rfl (lv_at hl 1 rfl) ?_
      refine va_get (D := D) (ci := 1) (v := .ref (ad 8)) (C := RX1) (T := TX1) (N := 12) hx hb hts zi_X1_wetThen_X1 hown hK.1 hP 0 rfl rfl 1 (by decide) (hts _ zk_X1_wetThen_0) (fun _ h9 => h9) rfl dX1_wetThen_32 ?_
      refine lv_aload_n hx hb dX1_wetThen_35 rfl (lv_at hl 1 rfl) ?_
      refine va_get (D := D) (ci := 1) (v := .ref (ad 1)) (C := RX1) (T := TX1) (N := 12) hx hb hts zi_X1_wetThen_X1 hown hK.1 hP 0 rfl rfl 0 (by decide) (hts _ zk_X1_wetThen_1) (fun _ h9 => h9) rfl dX1_wetThen_36 ?_
      obtain ⟨n7, g8, h⟩ := bo1 h
      refine zb_callV (As := [.ref (ad 1)]) (rest := []) ⟨hx, hb, hml, hown, hts⟩ (zc_X0_becomes l D cI (ad 8) (ad 9) (ad 10) (ad 11) (ad 12) (ad 13) (ad 14) (ad 1) (ad 2) (ad 3) (ad 4) (ad 5) (ad 6) (ad 7) g_mind g_now n7 g8) (cwV 1 hts gX1_wetThen_X0_becomes rfl rfl rfl hd_X0_becomes ⟨Nat.le_of_ble_eq_true rfl, Nat.le_of_ble_eq_true rfl⟩) hK hP hD hS hA (zb_cGmn) (q0 := 0) rfl rfl rfl hl.1 rfl (Nat.le_of_ble_eq_true rfl) dX1_wetThen_39 ⟨Nat.le_refl _, Nat.le_refl _⟩ (fun H locs hP hD hS => ?_)
      refine lv_aload_n hx hb dX1_wetThen_42 rfl (lv_at hl 1 rfl) ?_
      refine va_get (D := D) (ci := 1) (v := .ref (ad 8)) (C := RX1) (T := TX1) (N := 12) hx hb hts zi_X1_wetThen_X1 hown hK.1 hP 0 rfl rfl 1 (by decide) (hts _ zk_X1_wetThen_0) (fun _ h9 => h9) rfl dX1_wetThen_43 ?_
      refine lv_iload_n hx hb dX1_wetThen_46 rfl (lv_at hl 3 rfl) ?_
      refine lv_iconst (v := (0 : Int32)) hx hb dX1_wetThen_47 (by decide) ?_
      obtain ⟨n9, g10, h⟩ := bo1 h
      refine zb_callV (As := [.int v2, .int (0 : Int32)]) (rest := []) ⟨hx, hb, hml, hown, hts⟩ (zc_X0_goOn l D cI (ad 8) (ad 9) (ad 10) (ad 11) (ad 12) (ad 13) (ad 14) n7 v2 (0 : Int32) n9 g10) (cwV 2 hts gX1_wetThen_X0_goOn rfl rfl rfl hd_X0_goOn ⟨Nat.le_of_ble_eq_true rfl, Nat.le_of_ble_eq_true rfl⟩) hK hP hD hS hA (zb_cGm) (q0 := 0) rfl rfl rfl hl.1 rfl (Nat.le_of_ble_eq_true rfl) dX1_wetThen_48 ⟨Nat.le_refl _, Nat.le_refl _⟩ (fun H locs hP hD hS => ?_)
      refine lv_aload_n hx hb dX1_wetThen_51 rfl (lv_at hl 1 rfl) ?_
      refine va_get (D := D) (ci := 1) (v := .ref (ad 8)) (C := RX1) (T := TX1) (N := 12) hx hb hts zi_X1_wetThen_X1 hown hK.1 hP 0 rfl rfl 1 (by decide) (hts _ zk_X1_wetThen_0) (fun _ h9 => h9) rfl dX1_wetThen_52 ?_
      refine lv_iload_n hx hb dX1_wetThen_55 rfl (lv_at hl 2 rfl) ?_
      obtain ⟨r11, g12, h⟩ := bo1 h
      refine zb_callV (As := [.int v1]) (rest := []) ⟨hx, hb, hml, hown, hts⟩ (zc_X0_wetOf l D cI (ad 8) (ad 9) (ad 10) (ad 11) (ad 12) (ad 13) (ad 14) n9 v1 r11 g12) (cwV 1 hts gX1_wetThen_X0_wetOf rfl rfl rfl hd_X0_wetOf ⟨Nat.le_of_ble_eq_true rfl, Nat.le_of_ble_eq_true rfl⟩) hK hP hD hS hA (zb_cGm) (q0 := 0) rfl rfl rfl hl.1 rfl (Nat.le_of_ble_eq_true rfl) dX1_wetThen_56 ⟨Nat.le_refl _, Nat.le_refl _⟩ (fun H locs hP hD hS => ?_)
      obtain ⟨rfl, rfl, rfl⟩ := re3 h
      exact zb_iret hx hb hr hlk hP hS dX1_wetThen_59
    · replace h := it_f c6 h
      refine lv_aload_n hx hb dX1_wetThen_25 rfl (lv_at hl 1 rfl) ?_
      refine lv_iload_n hx hb dX1_wetThen_26 rfl (lv_at hl 0 rfl) ?_
      obtain ⟨r13, n14, g15, h⟩ := bo2 h
      refine zb_callV (As := [.int r4]) (rest := []) ⟨hx, hb, hml, hown, hts⟩ (zc_X1_refuse l D cI ad g_now g_mind g_taken g_isTaken g_letters g_letterCount g_told g_toldCount g_refusals g_costs g_gains g_seed r4 r13 n14 g15) (cwV 1 hts gX1_wetThen_X1_refuse rfl rfl rfl hd_X1_refuse ⟨Nat.le_of_ble_eq_true rfl, Nat.le_of_ble_eq_true rfl⟩) hK hP hD hS hA (zb_sG) (q0 := 0) rfl rfl rfl hl.1 rfl (Nat.le_of_ble_eq_true rfl) dX1_wetThen_27 ⟨Nat.le_refl _, Nat.le_refl _⟩ (fun H locs hP hD hS => ?_)
      obtain ⟨rfl, rfl, rfl⟩ := re3 h
      exact zb_iret hx hb hr hlk hP hS dX1_wetThen_30
  · replace h := it_t c3 h
    refine lv_aload_n hx hb dX1_wetThen_7 rfl (lv_at hl 0 rfl) ?_
    refine lv_iconst (v := ((-1) : Int32)) hx hb dX1_wetThen_8 (by decide) ?_
    obtain ⟨r16, n17, g18, h⟩ := bo2 h
    refine zb_callV (As := [.int ((-1) : Int32)]) (rest := []) ⟨hx, hb, hml, hown, hts⟩ (zc_X1_refuse l D cI ad g_now g_mind g_taken g_isTaken g_letters g_letterCount g_told g_toldCount g_refusals g_costs g_gains g_seed ((-1) : Int32) r16 n17 g18) (cwV 1 hts gX1_wetThen_X1_refuse rfl rfl rfl hd_X1_refuse ⟨Nat.le_of_ble_eq_true rfl, Nat.le_of_ble_eq_true rfl⟩) hK hP hD hS hA (zb_sG) (q0 := 0) rfl rfl rfl hl.1 rfl (Nat.le_of_ble_eq_true rfl) dX1_wetThen_9 ⟨Nat.le_refl _, Nat.le_refl _⟩ (fun H locs hP hD hS => ?_)
    obtain ⟨rfl, rfl, rfl⟩ := re3 h
    exact zb_iret hx hb hr hlk hP hS dX1_wetThen_12
abbrev rm_X1_comes : Room := { frames := 4, cells := 0, slots := 0, locals := 95 }
theorem hd_X1_comes : yX1_comes.cls = RX1 ∧ yX1_comes.cls ≠ "java/lang/invoke/MethodHandle" ∧ yX1_comes.cls ≠ "java/lang/invoke/VarHandle" ∧ (parseMethodDescriptor yX1_comes.desc).map (fun d => d.parameters.length) = some 2 := by decide +kernel
theorem zi_X1_comes_X1 : ∀ w ∈ wsX10, w ∈ wsX1_comes := fun _ h => List.mem_cons_of_mem _ (List.mem_append_left _ (List.mem_append_right _ h))
theorem zk_X1_comes_0 : Cond.fieldLink RX1 10 "GroutingIsFollowed" "now" "LGroutingIsFollowed$Bath;" ∈ wsX1_comes := by decide +kernel
theorem zk_X1_comes_1 : Cond.fieldLink RX1 16 "GroutingIsFollowed" "mind" "LGroutingIsFollowed$Bath;" ∈ wsX1_comes := by decide +kernel
set_option maxHeartbeats 4000000 in
set_option maxRecDepth 100000 in
theorem zc_X1_comes (l : Launch) (D : va_G) (cI : ClassId) (ad : Nat → Nat) (g_now : BT) (g_mind : BT) (g_taken : BT) (g_isTaken : Int32) (g_letters : (Nat → Int32)) (g_letterCount : Int32) (g_told : (Nat → Int32)) (g_toldCount : Int32) (g_refusals : (Nat → Int32)) (g_costs : (Nat → Int32)) (g_gains : (Nat → Int32)) (g_seed : Int32) (v1 : Int32) (v2 : Int32) (r0 : Int32) (w_g_mind : BT) (w_g_refusals : (Nat → Int32)) (h : zf_X1_comes g_now g_mind g_refusals v1 v2 = some (r0, w_g_mind, w_g_refusals)) : Cn l D cI yX1_comes wsX1_comes rm_X1_comes [.ref (ad 0), .int v1, .int v2] (zb_G cI ad g_now g_mind g_taken g_isTaken g_letters g_letterCount g_told g_toldCount g_refusals g_costs g_gains g_seed) (some (.int r0)) (zb_G cI ad g_now w_g_mind g_taken g_isTaken g_letters g_letterCount g_told g_toldCount w_g_refusals g_costs g_gains g_seed) := by
  refine zb_ofW (cc := cX1_comes) (maxL := 3) (ret := (some .int)) (by decide) rfl (Nat.le_of_ble_eq_true rfl) ?_
  intro p e s m args below meth c A ls hx hb hr hml hts hown hlk hK hP hD hA hl
  have hS : va_S A s.heap s.heap [] := va_S.rf
  have hl : lv_has ls 3 [(0, .ref (ad 0)), (1, .int v1), (2, .int v2)] := hl
  unfold zf_X1_comes at h
  refine lv_aload_n hx hb dX1_comes_0 rfl (lv_at hl 0 rfl) ?_
  refine va_get (D := D) (ci := 1) (v := .ref (ad 1)) (C := RX1) (T := TX1) (N := 12) hx hb hts zi_X1_comes_X1 hown hK.1 hP 0 rfl rfl 0 (by decide) (hts _ zk_X1_comes_0) (fun _ h9 => h9) rfl dX1_comes_1 ?_
  refine lv_iload_n hx hb dX1_comes_4 rfl (lv_at hl 1 rfl) ?_
  obtain ⟨r1, g2, h⟩ := bo1 h
  refine zb_callV (As := [.int v1]) (rest := []) ⟨hx, hb, hml, hown, hts⟩ (zc_X0_has l D cI (ad 1) (ad 2) (ad 3) (ad 4) (ad 5) (ad 6) (ad 7) g_now v1 r1 g2) (cwV 1 hts gX1_comes_X0_has rfl rfl rfl hd_X0_has ⟨Nat.le_of_ble_eq_true rfl, Nat.le_of_ble_eq_true rfl⟩) hK hP hD hS hA (zb_cGn) (q0 := 0) rfl rfl rfl hl.1 rfl (Nat.le_of_ble_eq_true rfl) dX1_comes_5 ⟨Nat.le_refl _, Nat.le_refl _⟩ (fun H locs hP hD hS => ?_)
  refine lv_if_eq (tgt := 18) hx hb dX1_comes_8 (by decide) (fun c3 => ?_) (fun c3 => ?_)
  · replace h := it_t c3 h
    refine lv_aload_n hx hb dX1_comes_18 rfl (lv_at hl 0 rfl) ?_
    refine lv_iconst (v := ((-1) : Int32)) hx hb dX1_comes_19 (by decide) ?_
    obtain ⟨r4, n5, g6, h⟩ := bo2 h
    refine zb_callV (As := [.int ((-1) : Int32)]) (rest := []) ⟨hx, hb, hml, hown, hts⟩ (zc_X1_refuse l D cI ad g_now g_mind g_taken g_isTaken g_letters g_letterCount g_told g_toldCount g_refusals g_costs g_gains g_seed ((-1) : Int32) r4 n5 g6) (cwV 1 hts gX1_comes_X1_refuse rfl rfl rfl hd_X1_refuse ⟨Nat.le_of_ble_eq_true rfl, Nat.le_of_ble_eq_true rfl⟩) hK hP hD hS hA (zb_sG) (q0 := 0) rfl rfl rfl hl.1 rfl (Nat.le_of_ble_eq_true rfl) dX1_comes_20 ⟨Nat.le_refl _, Nat.le_refl _⟩ (fun H locs hP hD hS => ?_)
    obtain ⟨rfl, rfl, rfl⟩ := re3 h
    exact zb_iret hx hb hr hlk hP hS dX1_comes_23
  · replace h := it_f c3 h
    refine lv_iload_n hx hb dX1_comes_11 rfl (lv_at hl 2 rfl) ?_
    obtain ⟨r7, g8, h⟩ := bo1 h
    refine zb_callS (As := [.int v2]) (rest := []) ⟨hx, hb, hml, hown, hts⟩ (zc_X1_isNode l D cI v2 r7 g8) (va_cwS 1 hts gX1_comes_X1_isNode rfl rfl rfl hd_X1_isNode.2 ⟨Nat.le_of_ble_eq_true rfl, Nat.le_of_ble_eq_true rfl⟩) hK hP hD hS hA (zb_none _) rfl hl.1 rfl (Nat.le_of_ble_eq_true rfl) dX1_comes_12 ⟨Nat.le_refl _, Nat.le_refl _⟩ (fun H locs hP hD hS => ?_)
    refine lv_if_ne (tgt := 24) hx hb dX1_comes_15 (by decide) (fun c9 => ?_) (fun c9 => ?_)
    · replace h := it_f c9 h
      refine lv_aload_n hx hb dX1_comes_24 rfl (lv_at hl 0 rfl) ?_
      refine va_get (D := D) (ci := 1) (v := .ref (ad 8)) (C := RX1) (T := TX1) (N := 12) hx hb hts zi_X1_comes_X1 hown hK.1 hP 0 rfl rfl 1 (by decide) (hts _ zk_X1_comes_1) (fun _ h9 => h9) rfl dX1_comes_25 ?_
      refine lv_aload_n hx hb dX1_comes_28 rfl (lv_at hl 0 rfl) ?_
      refine va_get (D := D) (ci := 1) (v := .ref (ad 1)) (C := RX1) (T := TX1) (N := 12) hx hb hts zi_X1_comes_X1 hown hK.1 hP 0 rfl rfl 0 (by decide) (hts _ zk_X1_comes_0) (fun _ h9 => h9) rfl dX1_comes_29 ?_
      obtain ⟨n10, g11, h⟩ := bo1 h
      refine zb_callV (As := [.ref (ad 1)]) (rest := []) ⟨hx, hb, hml, hown, hts⟩ (zc_X0_becomes l D cI (ad 8) (ad 9) (ad 10) (ad 11) (ad 12) (ad 13) (ad 14) (ad 1) (ad 2) (ad 3) (ad 4) (ad 5) (ad 6) (ad 7) g_mind g_now n10 g11) (cwV 1 hts gX1_comes_X0_becomes rfl rfl rfl hd_X0_becomes ⟨Nat.le_of_ble_eq_true rfl, Nat.le_of_ble_eq_true rfl⟩) hK hP hD hS hA (zb_cGmn) (q0 := 0) rfl rfl rfl hl.1 rfl (Nat.le_of_ble_eq_true rfl) dX1_comes_32 ⟨Nat.le_refl _, Nat.le_refl _⟩ (fun H locs hP hD hS => ?_)
      refine lv_aload_n hx hb dX1_comes_35 rfl (lv_at hl 0 rfl) ?_
      refine va_get (D := D) (ci := 1) (v := .ref (ad 8)) (C := RX1) (T := TX1) (N := 12) hx hb hts zi_X1_comes_X1 hown hK.1 hP 0 rfl rfl 1 (by decide) (hts _ zk_X1_comes_1) (fun _ h9 => h9) rfl dX1_comes_36 ?_
      refine lv_iload_n hx hb dX1_comes_39 rfl (lv_at hl 1 rfl) ?_
      refine lv_iload_n hx hb dX1_comes_40 rfl (lv_at hl 2 rfl) ?_
      obtain ⟨r12, n13, g14, h⟩ := bo2 h
      refine zb_callV (As := [.int v1, .int v2]) (rest := []) ⟨hx, hb, hml, hown, hts⟩ (zc_X0_soonestAt l D cI (ad 8) (ad 9) (ad 10) (ad 11) (ad 12) (ad 13) (ad 14) n10 v1 v2 r12 n13 g14) (cwV 2 hts gX1_comes_X0_soonestAt rfl rfl rfl hd_X0_soonestAt ⟨Nat.le_of_ble_eq_true rfl, Nat.le_of_ble_eq_true rfl⟩) hK hP hD hS hA (zb_cGm) (q0 := 0) rfl rfl rfl hl.1 rfl (Nat.le_of_ble_eq_true rfl) dX1_comes_41 ⟨Nat.le_refl _, Nat.le_refl _⟩ (fun H locs hP hD hS => ?_)
      obtain ⟨rfl, rfl, rfl⟩ := re3 h
      exact zb_iret hx hb hr hlk hP hS dX1_comes_44
    · replace h := it_t c9 h
      refine lv_aload_n hx hb dX1_comes_18 rfl (lv_at hl 0 rfl) ?_
      refine lv_iconst (v := ((-1) : Int32)) hx hb dX1_comes_19 (by decide) ?_
      obtain ⟨r15, n16, g17, h⟩ := bo2 h
      refine zb_callV (As := [.int ((-1) : Int32)]) (rest := []) ⟨hx, hb, hml, hown, hts⟩ (zc_X1_refuse l D cI ad g_now g_mind g_taken g_isTaken g_letters g_letterCount g_told g_toldCount g_refusals g_costs g_gains g_seed ((-1) : Int32) r15 n16 g17) (cwV 1 hts gX1_comes_X1_refuse rfl rfl rfl hd_X1_refuse ⟨Nat.le_of_ble_eq_true rfl, Nat.le_of_ble_eq_true rfl⟩) hK hP hD hS hA (zb_sG) (q0 := 0) rfl rfl rfl hl.1 rfl (Nat.le_of_ble_eq_true rfl) dX1_comes_20 ⟨Nat.le_refl _, Nat.le_refl _⟩ (fun H locs hP hD hS => ?_)
      obtain ⟨rfl, rfl, rfl⟩ := re3 h
      exact zb_iret hx hb hr hlk hP hS dX1_comes_23
abbrev rm_X1_visits : Room := { frames := 4, cells := 0, slots := 0, locals := 96 }
theorem hd_X1_visits : yX1_visits.cls = RX1 ∧ yX1_visits.cls ≠ "java/lang/invoke/MethodHandle" ∧ yX1_visits.cls ≠ "java/lang/invoke/VarHandle" ∧ (parseMethodDescriptor yX1_visits.desc).map (fun d => d.parameters.length) = some 2 := by decide +kernel
theorem zi_X1_visits_X1 : ∀ w ∈ wsX10, w ∈ wsX1_visits := fun _ h => List.mem_cons_of_mem _ (List.mem_append_left _ (List.mem_append_right _ h))
theorem zk_X1_visits_0 : Cond.fieldLink RX1 10 "GroutingIsFollowed" "now" "LGroutingIsFollowed$Bath;" ∈ wsX1_visits := by decide +kernel
theorem zk_X1_visits_1 : Cond.fieldLink RX1 16 "GroutingIsFollowed" "mind" "LGroutingIsFollowed$Bath;" ∈ wsX1_visits := by decide +kernel
set_option maxHeartbeats 4000000 in
set_option maxRecDepth 100000 in
theorem zc_X1_visits (l : Launch) (D : va_G) (cI : ClassId) (ad : Nat → Nat) (g_now : BT) (g_mind : BT) (g_taken : BT) (g_isTaken : Int32) (g_letters : (Nat → Int32)) (g_letterCount : Int32) (g_told : (Nat → Int32)) (g_toldCount : Int32) (g_refusals : (Nat → Int32)) (g_costs : (Nat → Int32)) (g_gains : (Nat → Int32)) (g_seed : Int32) (v1 : Int32) (v2 : Int32) (r0 : Int32) (w_g_mind : BT) (w_g_refusals : (Nat → Int32)) (h : zf_X1_visits g_now g_mind g_refusals v1 v2 = some (r0, w_g_mind, w_g_refusals)) : Cn l D cI yX1_visits wsX1_visits rm_X1_visits [.ref (ad 0), .int v1, .int v2] (zb_G cI ad g_now g_mind g_taken g_isTaken g_letters g_letterCount g_told g_toldCount g_refusals g_costs g_gains g_seed) (some (.int r0)) (zb_G cI ad g_now w_g_mind g_taken g_isTaken g_letters g_letterCount g_told g_toldCount w_g_refusals g_costs g_gains g_seed) := by
  refine zb_ofW (cc := cX1_visits) (maxL := 4) (ret := (some .int)) (by decide) rfl (Nat.le_of_ble_eq_true rfl) ?_
  intro p e s m args below meth c A ls hx hb hr hml hts hown hlk hK hP hD hA hl
  have hS : va_S A s.heap s.heap [] := va_S.rf
  have hl : lv_has ls 4 [(0, .ref (ad 0)), (1, .int v1), (2, .int v2)] := hl
  unfold zf_X1_visits at h
  refine lv_aload_n hx hb dX1_visits_0 rfl (lv_at hl 0 rfl) ?_
  refine va_get (D := D) (ci := 1) (v := .ref (ad 1)) (C := RX1) (T := TX1) (N := 12) hx hb hts zi_X1_visits_X1 hown hK.1 hP 0 rfl rfl 0 (by decide) (hts _ zk_X1_visits_0) (fun _ h9 => h9) rfl dX1_visits_1 ?_
  refine lv_iload_n hx hb dX1_visits_4 rfl (lv_at hl 1 rfl) ?_
  obtain ⟨r1, g2, h⟩ := bo1 h
  refine zb_callV (As := [.int v1]) (rest := []) ⟨hx, hb, hml, hown, hts⟩ (zc_X0_has l D cI (ad 1) (ad 2) (ad 3) (ad 4) (ad 5) (ad 6) (ad 7) g_now v1 r1 g2) (cwV 1 hts gX1_visits_X0_has rfl rfl rfl hd_X0_has ⟨Nat.le_of_ble_eq_true rfl, Nat.le_of_ble_eq_true rfl⟩) hK hP hD hS hA (zb_cGn) (q0 := 0) rfl rfl rfl hl.1 rfl (Nat.le_of_ble_eq_true rfl) dX1_visits_5 ⟨Nat.le_refl _, Nat.le_refl _⟩ (fun H locs hP hD hS => ?_)
  refine lv_if_ne (tgt := 17) hx hb dX1_visits_8 (by decide) (fun c3 => ?_) (fun c3 => ?_)
  · replace h := it_f c3 h
    refine lv_iload_n hx hb dX1_visits_17 rfl (lv_at hl 2 rfl) ?_
    refine lv_iconst (v := (0 : Int32)) hx hb dX1_visits_18 (by decide) ?_
    refine lv_bipush (v := (60 : Int32)) hx hb dX1_visits_19 (by decide) ?_
    obtain ⟨r4, g5, h⟩ := bo1 h
    refine zb_callS (As := [.int v2, .int (0 : Int32), .int (60 : Int32)]) (rest := []) ⟨hx, hb, hml, hown, hts⟩ (zc_X1_outside l D cI v2 (0 : Int32) (60 : Int32) r4 g5) (va_cwS 3 hts gX1_visits_X1_outside rfl rfl rfl hd_X1_outside.2 ⟨Nat.le_of_ble_eq_true rfl, Nat.le_of_ble_eq_true rfl⟩) hK hP hD hS hA (zb_none _) rfl hl.1 rfl (Nat.le_of_ble_eq_true rfl) dX1_visits_21 ⟨Nat.le_refl _, Nat.le_refl _⟩ (fun H locs hP hD hS => ?_)
    refine lv_istore_n (lv' := [(3, .int r4), (0, .ref (ad 0)), (1, .int v1), (2, .int v2)]) hx hb dX1_visits_24 rfl hl (by decide) rfl (fun ls hl => ?_)
    refine lv_iload_n hx hb dX1_visits_25 rfl (lv_at hl 0 rfl) ?_
    refine lv_if_eq (tgt := 35) hx hb dX1_visits_26 (by decide) (fun c6 => ?_) (fun c6 => ?_)
    · replace h := it_t c6 h
      refine lv_aload_n hx hb dX1_visits_35 rfl (lv_at hl 1 rfl) ?_
      refine va_get (D := D) (ci := 1) (v := .ref (ad 8)) (C := RX1) (T := TX1) (N := 12) hx hb hts zi_X1_visits_X1 hown hK.1 hP 0 rfl rfl 1 (by decide) (hts _ zk_X1_visits_1) (fun _ h9 => h9) rfl dX1_visits_36 ?_
      refine lv_aload_n hx hb dX1_visits_39 rfl (lv_at hl 1 rfl) ?_
      refine va_get (D := D) (ci := 1) (v := .ref (ad 1)) (C := RX1) (T := TX1) (N := 12) hx hb hts zi_X1_visits_X1 hown hK.1 hP 0 rfl rfl 0 (by decide) (hts _ zk_X1_visits_0) (fun _ h9 => h9) rfl dX1_visits_40 ?_
      obtain ⟨n7, g8, h⟩ := bo1 h
      refine zb_callV (As := [.ref (ad 1)]) (rest := []) ⟨hx, hb, hml, hown, hts⟩ (zc_X0_becomes l D cI (ad 8) (ad 9) (ad 10) (ad 11) (ad 12) (ad 13) (ad 14) (ad 1) (ad 2) (ad 3) (ad 4) (ad 5) (ad 6) (ad 7) g_mind g_now n7 g8) (cwV 1 hts gX1_visits_X0_becomes rfl rfl rfl hd_X0_becomes ⟨Nat.le_of_ble_eq_true rfl, Nat.le_of_ble_eq_true rfl⟩) hK hP hD hS hA (zb_cGmn) (q0 := 0) rfl rfl rfl hl.1 rfl (Nat.le_of_ble_eq_true rfl) dX1_visits_43 ⟨Nat.le_refl _, Nat.le_refl _⟩ (fun H locs hP hD hS => ?_)
      refine lv_aload_n hx hb dX1_visits_46 rfl (lv_at hl 1 rfl) ?_
      refine va_get (D := D) (ci := 1) (v := .ref (ad 8)) (C := RX1) (T := TX1) (N := 12) hx hb hts zi_X1_visits_X1 hown hK.1 hP 0 rfl rfl 1 (by decide) (hts _ zk_X1_visits_1) (fun _ h9 => h9) rfl dX1_visits_47 ?_
      refine lv_iload_n hx hb dX1_visits_50 rfl (lv_at hl 2 rfl) ?_
      refine lv_iload_n hx hb dX1_visits_51 rfl (lv_at hl 3 rfl) ?_
      obtain ⟨r9, n10, g11, h⟩ := bo2 h
      refine zb_callV (As := [.int v1, .int v2]) (rest := []) ⟨hx, hb, hml, hown, hts⟩ (zc_X0_visitsIn l D cI (ad 8) (ad 9) (ad 10) (ad 11) (ad 12) (ad 13) (ad 14) n7 v1 v2 r9 n10 g11) (cwV 2 hts gX1_visits_X0_visitsIn rfl rfl rfl hd_X0_visitsIn ⟨Nat.le_of_ble_eq_true rfl, Nat.le_of_ble_eq_true rfl⟩) hK hP hD hS hA (zb_cGm) (q0 := 0) rfl rfl rfl hl.1 rfl (Nat.le_of_ble_eq_true rfl) dX1_visits_52 ⟨Nat.le_refl _, Nat.le_refl _⟩ (fun H locs hP hD hS => ?_)
      obtain ⟨rfl, rfl, rfl⟩ := re3 h
      exact zb_iret hx hb hr hlk hP hS dX1_visits_55
    · replace h := it_f c6 h
      refine lv_aload_n hx hb dX1_visits_29 rfl (lv_at hl 1 rfl) ?_
      refine lv_iload_n hx hb dX1_visits_30 rfl (lv_at hl 0 rfl) ?_
      obtain ⟨r12, n13, g14, h⟩ := bo2 h
      refine zb_callV (As := [.int r4]) (rest := []) ⟨hx, hb, hml, hown, hts⟩ (zc_X1_refuse l D cI ad g_now g_mind g_taken g_isTaken g_letters g_letterCount g_told g_toldCount g_refusals g_costs g_gains g_seed r4 r12 n13 g14) (cwV 1 hts gX1_visits_X1_refuse rfl rfl rfl hd_X1_refuse ⟨Nat.le_of_ble_eq_true rfl, Nat.le_of_ble_eq_true rfl⟩) hK hP hD hS hA (zb_sG) (q0 := 0) rfl rfl rfl hl.1 rfl (Nat.le_of_ble_eq_true rfl) dX1_visits_31 ⟨Nat.le_refl _, Nat.le_refl _⟩ (fun H locs hP hD hS => ?_)
      obtain ⟨rfl, rfl, rfl⟩ := re3 h
      exact zb_iret hx hb hr hlk hP hS dX1_visits_34
  · replace h := it_t c3 h
    refine lv_aload_n hx hb dX1_visits_11 rfl (lv_at hl 0 rfl) ?_
    refine lv_iconst (v := ((-1) : Int32)) hx hb dX1_visits_12 (by decide) ?_
    obtain ⟨r15, n16, g17, h⟩ := bo2 h
    refine zb_callV (As := [.int ((-1) : Int32)]) (rest := []) ⟨hx, hb, hml, hown, hts⟩ (zc_X1_refuse l D cI ad g_now g_mind g_taken g_isTaken g_letters g_letterCount g_told g_toldCount g_refusals g_costs g_gains g_seed ((-1) : Int32) r15 n16 g17) (cwV 1 hts gX1_visits_X1_refuse rfl rfl rfl hd_X1_refuse ⟨Nat.le_of_ble_eq_true rfl, Nat.le_of_ble_eq_true rfl⟩) hK hP hD hS hA (zb_sG) (q0 := 0) rfl rfl rfl hl.1 rfl (Nat.le_of_ble_eq_true rfl) dX1_visits_13 ⟨Nat.le_refl _, Nat.le_refl _⟩ (fun H locs hP hD hS => ?_)
    obtain ⟨rfl, rfl, rfl⟩ := re3 h
    exact zb_iret hx hb hr hlk hP hS dX1_visits_16
abbrev rm_X1_stops : Room := { frames := 3, cells := 0, slots := 0, locals := 72 }
theorem hd_X1_stops : yX1_stops.cls = RX1 ∧ yX1_stops.cls ≠ "java/lang/invoke/MethodHandle" ∧ yX1_stops.cls ≠ "java/lang/invoke/VarHandle" ∧ (parseMethodDescriptor yX1_stops.desc).map (fun d => d.parameters.length) = some 1 := by decide +kernel
theorem zi_X1_stops_X1 : ∀ w ∈ wsX10, w ∈ wsX1_stops := fun _ h => List.mem_cons_of_mem _ (List.mem_append_left _ (List.mem_append_right _ h))
theorem zk_X1_stops_0 : Cond.fieldLink RX1 10 "GroutingIsFollowed" "now" "LGroutingIsFollowed$Bath;" ∈ wsX1_stops := by decide +kernel
theorem zk_X1_stops_1 : Cond.fieldLink RX1 16 "GroutingIsFollowed" "mind" "LGroutingIsFollowed$Bath;" ∈ wsX1_stops := by decide +kernel
set_option maxHeartbeats 4000000 in
set_option maxRecDepth 100000 in
theorem zc_X1_stops (l : Launch) (D : va_G) (cI : ClassId) (ad : Nat → Nat) (g_now : BT) (g_mind : BT) (g_taken : BT) (g_isTaken : Int32) (g_letters : (Nat → Int32)) (g_letterCount : Int32) (g_told : (Nat → Int32)) (g_toldCount : Int32) (g_refusals : (Nat → Int32)) (g_costs : (Nat → Int32)) (g_gains : (Nat → Int32)) (g_seed : Int32) (v1 : Int32) (r0 : Int32) (w_g_mind : BT) (w_g_refusals : (Nat → Int32)) (h : zf_X1_stops g_now g_mind g_refusals v1 = some (r0, w_g_mind, w_g_refusals)) : Cn l D cI yX1_stops wsX1_stops rm_X1_stops [.ref (ad 0), .int v1] (zb_G cI ad g_now g_mind g_taken g_isTaken g_letters g_letterCount g_told g_toldCount g_refusals g_costs g_gains g_seed) (some (.int r0)) (zb_G cI ad g_now w_g_mind g_taken g_isTaken g_letters g_letterCount g_told g_toldCount w_g_refusals g_costs g_gains g_seed) := by
  refine zb_ofW (cc := cX1_stops) (maxL := 3) (ret := (some .int)) (by decide) rfl (Nat.le_of_ble_eq_true rfl) ?_
  intro p e s m args below meth c A ls hx hb hr hml hts hown hlk hK hP hD hA hl
  have hS : va_S A s.heap s.heap [] := va_S.rf
  have hl : lv_has ls 3 [(0, .ref (ad 0)), (1, .int v1)] := hl
  unfold zf_X1_stops at h
  refine lv_aload_n hx hb dX1_stops_0 rfl (lv_at hl 0 rfl) ?_
  refine va_get (D := D) (ci := 1) (v := .ref (ad 1)) (C := RX1) (T := TX1) (N := 12) hx hb hts zi_X1_stops_X1 hown hK.1 hP 0 rfl rfl 0 (by decide) (hts _ zk_X1_stops_0) (fun _ h9 => h9) rfl dX1_stops_1 ?_
  refine lv_iload_n hx hb dX1_stops_4 rfl (lv_at hl 1 rfl) ?_
  obtain ⟨r1, g2, h⟩ := bo1 h
  refine zb_callV (As := [.int v1]) (rest := []) ⟨hx, hb, hml, hown, hts⟩ (zc_X0_has l D cI (ad 1) (ad 2) (ad 3) (ad 4) (ad 5) (ad 6) (ad 7) g_now v1 r1 g2) (cwV 1 hts gX1_stops_X0_has rfl rfl rfl hd_X0_has ⟨Nat.le_of_ble_eq_true rfl, Nat.le_of_ble_eq_true rfl⟩) hK hP hD hS hA (zb_cGn) (q0 := 0) rfl rfl rfl hl.1 rfl (Nat.le_of_ble_eq_true rfl) dX1_stops_5 ⟨Nat.le_refl _, Nat.le_refl _⟩ (fun H locs hP hD hS => ?_)
  refine lv_if_ne (tgt := 17) hx hb dX1_stops_8 (by decide) (fun c3 => ?_) (fun c3 => ?_)
  · replace h := it_f c3 h
    refine lv_aload_n hx hb dX1_stops_17 rfl (lv_at hl 0 rfl) ?_
    refine va_get (D := D) (ci := 1) (v := .ref (ad 8)) (C := RX1) (T := TX1) (N := 12) hx hb hts zi_X1_stops_X1 hown hK.1 hP 0 rfl rfl 1 (by decide) (hts _ zk_X1_stops_1) (fun _ h9 => h9) rfl dX1_stops_18 ?_
    refine lv_aload_n hx hb dX1_stops_21 rfl (lv_at hl 0 rfl) ?_
    refine va_get (D := D) (ci := 1) (v := .ref (ad 1)) (C := RX1) (T := TX1) (N := 12) hx hb hts zi_X1_stops_X1 hown hK.1 hP 0 rfl rfl 0 (by decide) (hts _ zk_X1_stops_0) (fun _ h9 => h9) rfl dX1_stops_22 ?_
    obtain ⟨n4, g5, h⟩ := bo1 h
    refine zb_callV (As := [.ref (ad 1)]) (rest := []) ⟨hx, hb, hml, hown, hts⟩ (zc_X0_becomes l D cI (ad 8) (ad 9) (ad 10) (ad 11) (ad 12) (ad 13) (ad 14) (ad 1) (ad 2) (ad 3) (ad 4) (ad 5) (ad 6) (ad 7) g_mind g_now n4 g5) (cwV 1 hts gX1_stops_X0_becomes rfl rfl rfl hd_X0_becomes ⟨Nat.le_of_ble_eq_true rfl, Nat.le_of_ble_eq_true rfl⟩) hK hP hD hS hA (zb_cGmn) (q0 := 0) rfl rfl rfl hl.1 rfl (Nat.le_of_ble_eq_true rfl) dX1_stops_25 ⟨Nat.le_refl _, Nat.le_refl _⟩ (fun H locs hP hD hS => ?_)
    refine lv_iconst (v := (0 : Int32)) hx hb dX1_stops_28 (by decide) ?_
    refine lv_istore_n (lv' := [(2, .int (0 : Int32)), (0, .ref (ad 0)), (1, .int v1)]) hx hb dX1_stops_29 rfl hl (by decide) rfl (fun ls hl => ?_)
    have lp8 : ∀ (fu8 : Nat) (x6 : Int32) (x7 : BT) (H : Heap) (locs : List Loc) (hP : va_P D zb_cl (zb_G cI ad g_now x7 g_taken g_isTaken g_letters g_letterCount g_told g_toldCount g_refusals g_costs g_gains g_seed) H) (hD : va_D A (zb_G cI ad g_now x7 g_taken g_isTaken g_letters g_letterCount g_told g_toldCount g_refusals g_costs g_gains g_seed)) (hS : va_S A s.heap H locs) (ls : Array Slot) (hl : lv_has ls 3 [(0, .ref (ad 0)), (1, .int v1), (2, .int x6)]) (h : zl2 (zf_X1_stops_b30 v1 g_refusals) fu8 x6 x7 = some (r0, w_g_mind, w_g_refusals)), W p l e rm_X1_stops s m args below meth c H locs 0 0 (zb_Q below D (some (.int r0)) (zb_G cI ad g_now w_g_mind g_taken g_isTaken g_letters g_letterCount g_told g_toldCount w_g_refusals g_costs g_gains g_seed) A args s) (F0 m 30 ls []) := by
      intro fu8
      induction fu8 with
      | zero => intro x6 x7 H locs hP hD hS ls hl h; exact zb_no h
      | succ fu8 ih8 =>
        intro x6 x7 H locs hP hD hS ls hl h
        replace h : zf_X1_stops_b30 v1 g_refusals (zl2 (zf_X1_stops_b30 v1 g_refusals) fu8) x6 x7 = some (r0, w_g_mind, w_g_refusals) := h
        unfold zf_X1_stops_b30 at h
        refine lv_iload_n hx hb dX1_stops_30 rfl (lv_at hl 2 rfl) ?_
        refine lv_bipush (v := (60 : Int32)) hx hb dX1_stops_31 (by decide) ?_
        refine lv_icmp_gt (tgt := 71) hx hb dX1_stops_33 (by decide) (fun c9 => ?_) (fun c9 => ?_)
        · replace h := it_t c9 h
          refine lv_bipush (v := ((-9) : Int32)) hx hb dX1_stops_71 (by decide) ?_
          obtain ⟨rfl, rfl, rfl⟩ := re3 h
          exact zb_iret hx hb hr hlk hP hS dX1_stops_73
        · replace h := it_f c9 h
          refine lv_aload_n hx hb dX1_stops_36 rfl (lv_at hl 0 rfl) ?_
          refine va_get (D := D) (ci := 1) (v := .ref (ad 8)) (C := RX1) (T := TX1) (N := 12) hx hb hts zi_X1_stops_X1 hown hK.1 hP 0 rfl rfl 1 (by decide) (hts _ zk_X1_stops_1) (fun _ h9 => h9) rfl dX1_stops_37 ?_
          refine lv_aload_n hx hb dX1_stops_40 rfl (lv_at hl 0 rfl) ?_
          refine va_get (D := D) (ci := 1) (v := .ref (ad 8)) (C := RX1) (T := TX1) (N := 12) hx hb hts zi_X1_stops_X1 hown hK.1 hP 0 rfl rfl 1 (by decide) (hts _ zk_X1_stops_1) (fun _ h9 => h9) rfl dX1_stops_41 ?_
          refine lv_iload_n hx hb dX1_stops_44 rfl (lv_at hl 1 rfl) ?_
          obtain ⟨r10, g11, h⟩ := bo1 h
          refine zb_callV (As := [.int v1]) (rest := [.ref (ad 8)]) ⟨hx, hb, hml, hown, hts⟩ (zc_X0_placeOf l D cI (ad 8) (ad 9) (ad 10) (ad 11) (ad 12) (ad 13) (ad 14) x7 v1 r10 g11) (cwV 1 hts gX1_stops_X0_placeOf rfl rfl rfl hd_X0_placeOf ⟨Nat.le_of_ble_eq_true rfl, Nat.le_of_ble_eq_true rfl⟩) hK hP hD hS hA (zb_cGm) (q0 := 0) rfl rfl rfl hl.1 rfl (Nat.le_of_ble_eq_true rfl) dX1_stops_45 ⟨Nat.le_refl _, Nat.le_refl _⟩ (fun H locs hP hD hS => ?_)
          obtain ⟨r12, g13, h⟩ := bo1 h
          refine zb_callV (As := [.int r10]) (rest := []) ⟨hx, hb, hml, hown, hts⟩ (zc_X0_wetOf l D cI (ad 8) (ad 9) (ad 10) (ad 11) (ad 12) (ad 13) (ad 14) x7 r10 r12 g13) (cwV 1 hts gX1_stops_X0_wetOf rfl rfl rfl hd_X0_wetOf ⟨Nat.le_of_ble_eq_true rfl, Nat.le_of_ble_eq_true rfl⟩) hK hP hD hS hA (zb_cGm) (q0 := 0) rfl rfl rfl hl.1 rfl (Nat.le_of_ble_eq_true rfl) dX1_stops_48 ⟨Nat.le_refl _, Nat.le_refl _⟩ (fun H locs hP hD hS => ?_)
          refine lv_if_ne (tgt := 56) hx hb dX1_stops_51 (by decide) (fun c14 => ?_) (fun c14 => ?_)
          · replace h := it_f c14 h
            refine lv_aload_n hx hb dX1_stops_56 rfl (lv_at hl 0 rfl) ?_
            refine va_get (D := D) (ci := 1) (v := .ref (ad 8)) (C := RX1) (T := TX1) (N := 12) hx hb hts zi_X1_stops_X1 hown hK.1 hP 0 rfl rfl 1 (by decide) (hts _ zk_X1_stops_1) (fun _ h9 => h9) rfl dX1_stops_57 ?_
            refine lv_iconst (v := (1 : Int32)) hx hb dX1_stops_60 (by decide) ?_
            refine lv_iconst (v := (0 : Int32)) hx hb dX1_stops_61 (by decide) ?_
            obtain ⟨n15, g16, h⟩ := bo1 h
            refine zb_callV (As := [.int (1 : Int32), .int (0 : Int32)]) (rest := []) ⟨hx, hb, hml, hown, hts⟩ (zc_X0_goOn l D cI (ad 8) (ad 9) (ad 10) (ad 11) (ad 12) (ad 13) (ad 14) x7 (1 : Int32) (0 : Int32) n15 g16) (cwV 2 hts gX1_stops_X0_goOn rfl rfl rfl hd_X0_goOn ⟨Nat.le_of_ble_eq_true rfl, Nat.le_of_ble_eq_true rfl⟩) hK hP hD hS hA (zb_cGm) (q0 := 0) rfl rfl rfl hl.1 rfl (Nat.le_of_ble_eq_true rfl) dX1_stops_62 ⟨Nat.le_refl _, Nat.le_refl _⟩ (fun H locs hP hD hS => ?_)
            refine lv_iinc (v := (x6 + (1 : Int32))) (lv' := [(2, .int (x6 + (1 : Int32))), (0, .ref (ad 0)), (1, .int v1)]) hx hb dX1_stops_65 hl (k := 2) rfl (by first | rfl | decide) (by decide) rfl (fun ls hl => ?_)
            refine lv_goto (tgt := 30) hx hb dX1_stops_68 (by decide) ?_
            exact ih8 (x6 + (1 : Int32)) n15 _ _ hP hD hS ls (lv_sub hl [1, 2, 0] rfl) h
          · replace h := it_t c14 h
            refine lv_iload_n hx hb dX1_stops_54 rfl (lv_at hl 2 rfl) ?_
            obtain ⟨rfl, rfl, rfl⟩ := re3 h
            exact zb_iret hx hb hr hlk hP hS dX1_stops_55
    exact lp8 zb_FU (0 : Int32) n4 _ _ hP hD hS ls (lv_sub hl [1, 2, 0] rfl) h
  · replace h := it_t c3 h
    refine lv_aload_n hx hb dX1_stops_11 rfl (lv_at hl 0 rfl) ?_
    refine lv_iconst (v := ((-1) : Int32)) hx hb dX1_stops_12 (by decide) ?_
    obtain ⟨r17, n18, g19, h⟩ := bo2 h
    refine zb_callV (As := [.int ((-1) : Int32)]) (rest := []) ⟨hx, hb, hml, hown, hts⟩ (zc_X1_refuse l D cI ad g_now g_mind g_taken g_isTaken g_letters g_letterCount g_told g_toldCount g_refusals g_costs g_gains g_seed ((-1) : Int32) r17 n18 g19) (cwV 1 hts gX1_stops_X1_refuse rfl rfl rfl hd_X1_refuse ⟨Nat.le_of_ble_eq_true rfl, Nat.le_of_ble_eq_true rfl⟩) hK hP hD hS hA (zb_sG) (q0 := 0) rfl rfl rfl hl.1 rfl (Nat.le_of_ble_eq_true rfl) dX1_stops_13 ⟨Nat.le_refl _, Nat.le_refl _⟩ (fun H locs hP hD hS => ?_)
    obtain ⟨rfl, rfl, rfl⟩ := re3 h
    exact zb_iret hx hb hr hlk hP hS dX1_stops_16
abbrev rm_X1_areTwo : Room := { frames := 1, cells := 0, slots := 0, locals := 21 }
theorem hd_X1_areTwo : yX1_areTwo.cls = RX1 ∧ yX1_areTwo.cls ≠ "java/lang/invoke/MethodHandle" ∧ yX1_areTwo.cls ≠ "java/lang/invoke/VarHandle" ∧ (parseMethodDescriptor yX1_areTwo.desc).map (fun d => d.parameters.length) = some 2 := by decide +kernel
theorem zi_X1_areTwo_X1 : ∀ w ∈ wsX10, w ∈ wsX1_areTwo := fun _ h => List.mem_cons_of_mem _ (List.mem_append_left _ (List.mem_append_right _ h))
theorem zk_X1_areTwo_0 : Cond.fieldLink RX1 10 "GroutingIsFollowed" "now" "LGroutingIsFollowed$Bath;" ∈ wsX1_areTwo := by decide +kernel
set_option maxHeartbeats 4000000 in
set_option maxRecDepth 100000 in
theorem zc_X1_areTwo (l : Launch) (D : va_G) (cI : ClassId) (ad : Nat → Nat) (g_now : BT) (g_mind : BT) (g_taken : BT) (g_isTaken : Int32) (g_letters : (Nat → Int32)) (g_letterCount : Int32) (g_told : (Nat → Int32)) (g_toldCount : Int32) (g_refusals : (Nat → Int32)) (g_costs : (Nat → Int32)) (g_gains : (Nat → Int32)) (g_seed : Int32) (v1 : Int32) (v2 : Int32) (r0 : Int32) (h : zf_X1_areTwo g_now v1 v2 = some r0) : Cn l D cI yX1_areTwo wsX1_areTwo rm_X1_areTwo [.ref (ad 0), .int v1, .int v2] (zb_G cI ad g_now g_mind g_taken g_isTaken g_letters g_letterCount g_told g_toldCount g_refusals g_costs g_gains g_seed) (some (.int r0)) (zb_G cI ad g_now g_mind g_taken g_isTaken g_letters g_letterCount g_told g_toldCount g_refusals g_costs g_gains g_seed) := by
  refine zb_ofW (cc := cX1_areTwo) (maxL := 3) (ret := (some .boolean)) (by decide) rfl (Nat.le_of_ble_eq_true rfl) ?_
  intro p e s m args below meth c A ls hx hb hr hml hts hown hlk hK hP hD hA hl
  have hS : va_S A s.heap s.heap [] := va_S.rf
  have hl : lv_has ls 3 [(0, .ref (ad 0)), (1, .int v1), (2, .int v2)] := hl
  unfold zf_X1_areTwo at h
  refine lv_aload_n hx hb dX1_areTwo_0 rfl (lv_at hl 0 rfl) ?_
  refine va_get (D := D) (ci := 1) (v := .ref (ad 1)) (C := RX1) (T := TX1) (N := 12) hx hb hts zi_X1_areTwo_X1 hown hK.1 hP 0 rfl rfl 0 (by decide) (hts _ zk_X1_areTwo_0) (fun _ h9 => h9) rfl dX1_areTwo_1 ?_
  refine lv_iload_n hx hb dX1_areTwo_4 rfl (lv_at hl 1 rfl) ?_
  obtain ⟨r1, g2, h⟩ := bo1 h
  refine zb_callV (As := [.int v1]) (rest := []) ⟨hx, hb, hml, hown, hts⟩ (zc_X0_has l D cI (ad 1) (ad 2) (ad 3) (ad 4) (ad 5) (ad 6) (ad 7) g_now v1 r1 g2) (cwV 1 hts gX1_areTwo_X0_has rfl rfl rfl hd_X0_has ⟨Nat.le_of_ble_eq_true rfl, Nat.le_of_ble_eq_true rfl⟩) hK hP hD hS hA (zb_cGn) (q0 := 0) rfl rfl rfl hl.1 rfl (Nat.le_of_ble_eq_true rfl) dX1_areTwo_5 ⟨Nat.le_refl _, Nat.le_refl _⟩ (fun H locs hP hD hS => ?_)
  refine lv_if_eq (tgt := 31) hx hb dX1_areTwo_8 (by decide) (fun c3 => ?_) (fun c3 => ?_)
  · replace h := it_t c3 h
    refine lv_iconst (v := (0 : Int32)) hx hb dX1_areTwo_31 (by decide) ?_
    obtain rfl := re1 h
    exact zb_zret hx hb hr hlk rfl hP hS dX1_areTwo_32
  · replace h := it_f c3 h
    refine lv_aload_n hx hb dX1_areTwo_11 rfl (lv_at hl 0 rfl) ?_
    refine va_get (D := D) (ci := 1) (v := .ref (ad 1)) (C := RX1) (T := TX1) (N := 12) hx hb hts zi_X1_areTwo_X1 hown hK.1 hP 0 rfl rfl 0 (by decide) (hts _ zk_X1_areTwo_0) (fun _ h9 => h9) rfl dX1_areTwo_12 ?_
    refine lv_iload_n hx hb dX1_areTwo_15 rfl (lv_at hl 2 rfl) ?_
    obtain ⟨r4, g5, h⟩ := bo1 h
    refine zb_callV (As := [.int v2]) (rest := []) ⟨hx, hb, hml, hown, hts⟩ (zc_X0_has l D cI (ad 1) (ad 2) (ad 3) (ad 4) (ad 5) (ad 6) (ad 7) g_now v2 r4 g5) (cwV 1 hts gX1_areTwo_X0_has rfl rfl rfl hd_X0_has ⟨Nat.le_of_ble_eq_true rfl, Nat.le_of_ble_eq_true rfl⟩) hK hP hD hS hA (zb_cGn) (q0 := 0) rfl rfl rfl hl.1 rfl (Nat.le_of_ble_eq_true rfl) dX1_areTwo_16 ⟨Nat.le_refl _, Nat.le_refl _⟩ (fun H locs hP hD hS => ?_)
    refine lv_if_eq (tgt := 31) hx hb dX1_areTwo_19 (by decide) (fun c6 => ?_) (fun c6 => ?_)
    · replace h := it_t c6 h
      refine lv_iconst (v := (0 : Int32)) hx hb dX1_areTwo_31 (by decide) ?_
      obtain rfl := re1 h
      exact zb_zret hx hb hr hlk rfl hP hS dX1_areTwo_32
    · replace h := it_f c6 h
      refine lv_iload_n hx hb dX1_areTwo_22 rfl (lv_at hl 1 rfl) ?_
      refine lv_iload_n hx hb dX1_areTwo_23 rfl (lv_at hl 2 rfl) ?_
      refine lv_icmp_eq (tgt := 31) hx hb dX1_areTwo_24 (by decide) (fun c7 => ?_) (fun c7 => ?_)
      · replace h := it_t c7 h
        refine lv_iconst (v := (0 : Int32)) hx hb dX1_areTwo_31 (by decide) ?_
        obtain rfl := re1 h
        exact zb_zret hx hb hr hlk rfl hP hS dX1_areTwo_32
      · replace h := it_f c7 h
        refine lv_iconst (v := (1 : Int32)) hx hb dX1_areTwo_27 (by decide) ?_
        refine lv_goto (tgt := 32) hx hb dX1_areTwo_28 (by decide) ?_
        obtain rfl := re1 h
        exact zb_zret hx hb hr hlk rfl hP hS dX1_areTwo_32
abbrev rm_X1_meets : Room := { frames := 3, cells := 0, slots := 0, locals := 72 }
theorem hd_X1_meets : yX1_meets.cls = RX1 ∧ yX1_meets.cls ≠ "java/lang/invoke/MethodHandle" ∧ yX1_meets.cls ≠ "java/lang/invoke/VarHandle" ∧ (parseMethodDescriptor yX1_meets.desc).map (fun d => d.parameters.length) = some 2 := by decide +kernel
theorem zi_X1_meets_X1 : ∀ w ∈ wsX10, w ∈ wsX1_meets := fun _ h => List.mem_cons_of_mem _ (List.mem_append_left _ (List.mem_append_right _ h))
theorem zk_X1_meets_0 : Cond.fieldLink RX1 16 "GroutingIsFollowed" "mind" "LGroutingIsFollowed$Bath;" ∈ wsX1_meets := by decide +kernel
theorem zk_X1_meets_1 : Cond.fieldLink RX1 10 "GroutingIsFollowed" "now" "LGroutingIsFollowed$Bath;" ∈ wsX1_meets := by decide +kernel
set_option maxHeartbeats 4000000 in
set_option maxRecDepth 100000 in
theorem zc_X1_meets (l : Launch) (D : va_G) (cI : ClassId) (ad : Nat → Nat) (g_now : BT) (g_mind : BT) (g_taken : BT) (g_isTaken : Int32) (g_letters : (Nat → Int32)) (g_letterCount : Int32) (g_told : (Nat → Int32)) (g_toldCount : Int32) (g_refusals : (Nat → Int32)) (g_costs : (Nat → Int32)) (g_gains : (Nat → Int32)) (g_seed : Int32) (v1 : Int32) (v2 : Int32) (r0 : Int32) (w_g_mind : BT) (w_g_refusals : (Nat → Int32)) (h : zf_X1_meets g_now g_mind g_refusals v1 v2 = some (r0, w_g_mind, w_g_refusals)) : Cn l D cI yX1_meets wsX1_meets rm_X1_meets [.ref (ad 0), .int v1, .int v2] (zb_G cI ad g_now g_mind g_taken g_isTaken g_letters g_letterCount g_told g_toldCount g_refusals g_costs g_gains g_seed) (some (.int r0)) (zb_G cI ad g_now w_g_mind g_taken g_isTaken g_letters g_letterCount g_told g_toldCount w_g_refusals g_costs g_gains g_seed) := by
  refine zb_ofW (cc := cX1_meets) (maxL := 4) (ret := (some .int)) (by decide) rfl (Nat.le_of_ble_eq_true rfl) ?_
  intro p e s m args below meth c A ls hx hb hr hml hts hown hlk hK hP hD hA hl
  have hS : va_S A s.heap s.heap [] := va_S.rf
  have hl : lv_has ls 4 [(0, .ref (ad 0)), (1, .int v1), (2, .int v2)] := hl
  unfold zf_X1_meets at h
  refine lv_aload_n hx hb dX1_meets_0 rfl (lv_at hl 0 rfl) ?_
  refine lv_iload_n hx hb dX1_meets_1 rfl (lv_at hl 1 rfl) ?_
  refine lv_iload_n hx hb dX1_meets_2 rfl (lv_at hl 2 rfl) ?_
  obtain ⟨r1, g2, h⟩ := bo1 h
  refine zb_callV (As := [.int v1, .int v2]) (rest := []) ⟨hx, hb, hml, hown, hts⟩ (zc_X1_areTwo l D cI ad g_now g_mind g_taken g_isTaken g_letters g_letterCount g_told g_toldCount g_refusals g_costs g_gains g_seed v1 v2 r1 g2) (cwV 2 hts gX1_meets_X1_areTwo rfl rfl rfl hd_X1_areTwo ⟨Nat.le_of_ble_eq_true rfl, Nat.le_of_ble_eq_true rfl⟩) hK hP hD hS hA (zb_sG) (q0 := 0) rfl rfl rfl hl.1 rfl (Nat.le_of_ble_eq_true rfl) dX1_meets_3 ⟨Nat.le_refl _, Nat.le_refl _⟩ (fun H locs hP hD hS => ?_)
  refine lv_if_ne (tgt := 15) hx hb dX1_meets_6 (by decide) (fun c3 => ?_) (fun c3 => ?_)
  · replace h := it_f c3 h
    refine lv_aload_n hx hb dX1_meets_15 rfl (lv_at hl 0 rfl) ?_
    refine va_get (D := D) (ci := 1) (v := .ref (ad 8)) (C := RX1) (T := TX1) (N := 12) hx hb hts zi_X1_meets_X1 hown hK.1 hP 0 rfl rfl 1 (by decide) (hts _ zk_X1_meets_0) (fun _ h9 => h9) rfl dX1_meets_16 ?_
    refine lv_aload_n hx hb dX1_meets_19 rfl (lv_at hl 0 rfl) ?_
    refine va_get (D := D) (ci := 1) (v := .ref (ad 1)) (C := RX1) (T := TX1) (N := 12) hx hb hts zi_X1_meets_X1 hown hK.1 hP 0 rfl rfl 0 (by decide) (hts _ zk_X1_meets_1) (fun _ h9 => h9) rfl dX1_meets_20 ?_
    obtain ⟨n4, g5, h⟩ := bo1 h
    refine zb_callV (As := [.ref (ad 1)]) (rest := []) ⟨hx, hb, hml, hown, hts⟩ (zc_X0_becomes l D cI (ad 8) (ad 9) (ad 10) (ad 11) (ad 12) (ad 13) (ad 14) (ad 1) (ad 2) (ad 3) (ad 4) (ad 5) (ad 6) (ad 7) g_mind g_now n4 g5) (cwV 1 hts gX1_meets_X0_becomes rfl rfl rfl hd_X0_becomes ⟨Nat.le_of_ble_eq_true rfl, Nat.le_of_ble_eq_true rfl⟩) hK hP hD hS hA (zb_cGmn) (q0 := 0) rfl rfl rfl hl.1 rfl (Nat.le_of_ble_eq_true rfl) dX1_meets_23 ⟨Nat.le_refl _, Nat.le_refl _⟩ (fun H locs hP hD hS => ?_)
    refine lv_iconst (v := (0 : Int32)) hx hb dX1_meets_26 (by decide) ?_
    refine lv_istore_n (lv' := [(3, .int (0 : Int32)), (0, .ref (ad 0)), (1, .int v1), (2, .int v2)]) hx hb dX1_meets_27 rfl hl (by decide) rfl (fun ls hl => ?_)
    have lp8 : ∀ (fu8 : Nat) (x6 : Int32) (x7 : BT) (H : Heap) (locs : List Loc) (hP : va_P D zb_cl (zb_G cI ad g_now x7 g_taken g_isTaken g_letters g_letterCount g_told g_toldCount g_refusals g_costs g_gains g_seed) H) (hD : va_D A (zb_G cI ad g_now x7 g_taken g_isTaken g_letters g_letterCount g_told g_toldCount g_refusals g_costs g_gains g_seed)) (hS : va_S A s.heap H locs) (ls : Array Slot) (hl : lv_has ls 4 [(0, .ref (ad 0)), (1, .int v1), (2, .int v2), (3, .int x6)]) (h : zl2 (zf_X1_meets_b28 v1 v2 g_refusals) fu8 x6 x7 = some (r0, w_g_mind, w_g_refusals)), W p l e rm_X1_meets s m args below meth c H locs 0 0 (zb_Q below D (some (.int r0)) (zb_G cI ad g_now w_g_mind g_taken g_isTaken g_letters g_letterCount g_told g_toldCount w_g_refusals g_costs g_gains g_seed) A args s) (F0 m 28 ls []) := by
      intro fu8
      induction fu8 with
      | zero => intro x6 x7 H locs hP hD hS ls hl h; exact zb_no h
      | succ fu8 ih8 =>
        intro x6 x7 H locs hP hD hS ls hl h
        replace h : zf_X1_meets_b28 v1 v2 g_refusals (zl2 (zf_X1_meets_b28 v1 v2 g_refusals) fu8) x6 x7 = some (r0, w_g_mind, w_g_refusals) := h
        unfold zf_X1_meets_b28 at h
        refine lv_iload_n hx hb dX1_meets_28 rfl (lv_at hl 3 rfl) ?_
        refine lv_bipush (v := (60 : Int32)) hx hb dX1_meets_29 (by decide) ?_
        refine lv_icmp_gt (tgt := 70) hx hb dX1_meets_31 (by decide) (fun c9 => ?_) (fun c9 => ?_)
        · replace h := it_t c9 h
          refine lv_bipush (v := ((-9) : Int32)) hx hb dX1_meets_70 (by decide) ?_
          obtain ⟨rfl, rfl, rfl⟩ := re3 h
          exact zb_iret hx hb hr hlk hP hS dX1_meets_72
        · replace h := it_f c9 h
          refine lv_aload_n hx hb dX1_meets_34 rfl (lv_at hl 0 rfl) ?_
          refine va_get (D := D) (ci := 1) (v := .ref (ad 8)) (C := RX1) (T := TX1) (N := 12) hx hb hts zi_X1_meets_X1 hown hK.1 hP 0 rfl rfl 1 (by decide) (hts _ zk_X1_meets_0) (fun _ h9 => h9) rfl dX1_meets_35 ?_
          refine lv_iload_n hx hb dX1_meets_38 rfl (lv_at hl 1 rfl) ?_
          obtain ⟨r10, g11, h⟩ := bo1 h
          refine zb_callV (As := [.int v1]) (rest := []) ⟨hx, hb, hml, hown, hts⟩ (zc_X0_placeOf l D cI (ad 8) (ad 9) (ad 10) (ad 11) (ad 12) (ad 13) (ad 14) x7 v1 r10 g11) (cwV 1 hts gX1_meets_X0_placeOf rfl rfl rfl hd_X0_placeOf ⟨Nat.le_of_ble_eq_true rfl, Nat.le_of_ble_eq_true rfl⟩) hK hP hD hS hA (zb_cGm) (q0 := 0) rfl rfl rfl hl.1 rfl (Nat.le_of_ble_eq_true rfl) dX1_meets_39 ⟨Nat.le_refl _, Nat.le_refl _⟩ (fun H locs hP hD hS => ?_)
          refine lv_aload_n hx hb dX1_meets_42 rfl (lv_at hl 0 rfl) ?_
          refine va_get (D := D) (ci := 1) (v := .ref (ad 8)) (C := RX1) (T := TX1) (N := 12) hx hb hts zi_X1_meets_X1 hown hK.1 hP 0 rfl rfl 1 (by decide) (hts _ zk_X1_meets_0) (fun _ h9 => h9) rfl dX1_meets_43 ?_
          refine lv_iload_n hx hb dX1_meets_46 rfl (lv_at hl 2 rfl) ?_
          obtain ⟨r12, g13, h⟩ := bo1 h
          refine zb_callV (As := [.int v2]) (rest := [.int r10]) ⟨hx, hb, hml, hown, hts⟩ (zc_X0_placeOf l D cI (ad 8) (ad 9) (ad 10) (ad 11) (ad 12) (ad 13) (ad 14) x7 v2 r12 g13) (cwV 1 hts gX1_meets_X0_placeOf rfl rfl rfl hd_X0_placeOf ⟨Nat.le_of_ble_eq_true rfl, Nat.le_of_ble_eq_true rfl⟩) hK hP hD hS hA (zb_cGm) (q0 := 0) rfl rfl rfl hl.1 rfl (Nat.le_of_ble_eq_true rfl) dX1_meets_47 ⟨Nat.le_refl _, Nat.le_refl _⟩ (fun H locs hP hD hS => ?_)
          refine lv_icmp_ne (tgt := 55) hx hb dX1_meets_50 (by decide) (fun c14 => ?_) (fun c14 => ?_)
          · replace h := it_f c14 h
            refine lv_aload_n hx hb dX1_meets_55 rfl (lv_at hl 0 rfl) ?_
            refine va_get (D := D) (ci := 1) (v := .ref (ad 8)) (C := RX1) (T := TX1) (N := 12) hx hb hts zi_X1_meets_X1 hown hK.1 hP 0 rfl rfl 1 (by decide) (hts _ zk_X1_meets_0) (fun _ h9 => h9) rfl dX1_meets_56 ?_
            refine lv_iconst (v := (1 : Int32)) hx hb dX1_meets_59 (by decide) ?_
            refine lv_iconst (v := (0 : Int32)) hx hb dX1_meets_60 (by decide) ?_
            obtain ⟨n15, g16, h⟩ := bo1 h
            refine zb_callV (As := [.int (1 : Int32), .int (0 : Int32)]) (rest := []) ⟨hx, hb, hml, hown, hts⟩ (zc_X0_goOn l D cI (ad 8) (ad 9) (ad 10) (ad 11) (ad 12) (ad 13) (ad 14) x7 (1 : Int32) (0 : Int32) n15 g16) (cwV 2 hts gX1_meets_X0_goOn rfl rfl rfl hd_X0_goOn ⟨Nat.le_of_ble_eq_true rfl, Nat.le_of_ble_eq_true rfl⟩) hK hP hD hS hA (zb_cGm) (q0 := 0) rfl rfl rfl hl.1 rfl (Nat.le_of_ble_eq_true rfl) dX1_meets_61 ⟨Nat.le_refl _, Nat.le_refl _⟩ (fun H locs hP hD hS => ?_)
            refine lv_iinc (v := (x6 + (1 : Int32))) (lv' := [(3, .int (x6 + (1 : Int32))), (0, .ref (ad 0)), (1, .int v1), (2, .int v2)]) hx hb dX1_meets_64 hl (k := 3) rfl (by first | rfl | decide) (by decide) rfl (fun ls hl => ?_)
            refine lv_goto (tgt := 28) hx hb dX1_meets_67 (by decide) ?_
            exact ih8 (x6 + (1 : Int32)) n15 _ _ hP hD hS ls (lv_sub hl [1, 2, 3, 0] rfl) h
          · replace h := it_t c14 h
            refine lv_iload_n hx hb dX1_meets_53 rfl (lv_at hl 3 rfl) ?_
            obtain ⟨rfl, rfl, rfl⟩ := re3 h
            exact zb_iret hx hb hr hlk hP hS dX1_meets_54
    exact lp8 zb_FU (0 : Int32) n4 _ _ hP hD hS ls (lv_sub hl [1, 2, 3, 0] rfl) h
  · replace h := it_t c3 h
    refine lv_aload_n hx hb dX1_meets_9 rfl (lv_at hl 0 rfl) ?_
    refine lv_iconst (v := ((-1) : Int32)) hx hb dX1_meets_10 (by decide) ?_
    obtain ⟨r17, n18, g19, h⟩ := bo2 h
    refine zb_callV (As := [.int ((-1) : Int32)]) (rest := []) ⟨hx, hb, hml, hown, hts⟩ (zc_X1_refuse l D cI ad g_now g_mind g_taken g_isTaken g_letters g_letterCount g_told g_toldCount g_refusals g_costs g_gains g_seed ((-1) : Int32) r17 n18 g19) (cwV 1 hts gX1_meets_X1_refuse rfl rfl rfl hd_X1_refuse ⟨Nat.le_of_ble_eq_true rfl, Nat.le_of_ble_eq_true rfl⟩) hK hP hD hS hA (zb_sG) (q0 := 0) rfl rfl rfl hl.1 rfl (Nat.le_of_ble_eq_true rfl) dX1_meets_11 ⟨Nat.le_refl _, Nat.le_refl _⟩ (fun H locs hP hD hS => ?_)
    obtain ⟨rfl, rfl, rfl⟩ := re3 h
    exact zb_iret hx hb hr hlk hP hS dX1_meets_14
abbrev rm_X1_round : Room := { frames := 3, cells := 0, slots := 0, locals := 72 }
theorem hd_X1_round : yX1_round.cls = RX1 ∧ yX1_round.cls ≠ "java/lang/invoke/MethodHandle" ∧ yX1_round.cls ≠ "java/lang/invoke/VarHandle" ∧ (parseMethodDescriptor yX1_round.desc).map (fun d => d.parameters.length) = some 1 := by decide +kernel
theorem zi_X1_round_X1 : ∀ w ∈ wsX10, w ∈ wsX1_round := fun _ h => List.mem_cons_of_mem _ (List.mem_append_left _ (List.mem_append_right _ h))
theorem zk_X1_round_0 : Cond.fieldLink RX1 10 "GroutingIsFollowed" "now" "LGroutingIsFollowed$Bath;" ∈ wsX1_round := by decide +kernel
theorem zk_X1_round_1 : Cond.fieldLink RX1 16 "GroutingIsFollowed" "mind" "LGroutingIsFollowed$Bath;" ∈ wsX1_round := by decide +kernel
set_option maxHeartbeats 4000000 in
set_option maxRecDepth 100000 in
theorem zc_X1_round (l : Launch) (D : va_G) (cI : ClassId) (ad : Nat → Nat) (g_now : BT) (g_mind : BT) (g_taken : BT) (g_isTaken : Int32) (g_letters : (Nat → Int32)) (g_letterCount : Int32) (g_told : (Nat → Int32)) (g_toldCount : Int32) (g_refusals : (Nat → Int32)) (g_costs : (Nat → Int32)) (g_gains : (Nat → Int32)) (g_seed : Int32) (v1 : Int32) (r0 : Int32) (w_g_mind : BT) (w_g_refusals : (Nat → Int32)) (h : zf_X1_round g_now g_mind g_refusals v1 = some (r0, w_g_mind, w_g_refusals)) : Cn l D cI yX1_round wsX1_round rm_X1_round [.ref (ad 0), .int v1] (zb_G cI ad g_now g_mind g_taken g_isTaken g_letters g_letterCount g_told g_toldCount g_refusals g_costs g_gains g_seed) (some (.int r0)) (zb_G cI ad g_now w_g_mind g_taken g_isTaken g_letters g_letterCount g_told g_toldCount w_g_refusals g_costs g_gains g_seed) := by
  refine zb_ofW (cc := cX1_round) (maxL := 4) (ret := (some .int)) (by decide) rfl (Nat.le_of_ble_eq_true rfl) ?_
  intro p e s m args below meth c A ls hx hb hr hml hts hown hlk hK hP hD hA hl
  have hS : va_S A s.heap s.heap [] := va_S.rf
  have hl : lv_has ls 4 [(0, .ref (ad 0)), (1, .int v1)] := hl
  unfold zf_X1_round at h
  refine lv_aload_n hx hb dX1_round_0 rfl (lv_at hl 0 rfl) ?_
  refine va_get (D := D) (ci := 1) (v := .ref (ad 1)) (C := RX1) (T := TX1) (N := 12) hx hb hts zi_X1_round_X1 hown hK.1 hP 0 rfl rfl 0 (by decide) (hts _ zk_X1_round_0) (fun _ h9 => h9) rfl dX1_round_1 ?_
  refine lv_iload_n hx hb dX1_round_4 rfl (lv_at hl 1 rfl) ?_
  obtain ⟨r1, g2, h⟩ := bo1 h
  refine zb_callV (As := [.int v1]) (rest := []) ⟨hx, hb, hml, hown, hts⟩ (zc_X0_has l D cI (ad 1) (ad 2) (ad 3) (ad 4) (ad 5) (ad 6) (ad 7) g_now v1 r1 g2) (cwV 1 hts gX1_round_X0_has rfl rfl rfl hd_X0_has ⟨Nat.le_of_ble_eq_true rfl, Nat.le_of_ble_eq_true rfl⟩) hK hP hD hS hA (zb_cGn) (q0 := 0) rfl rfl rfl hl.1 rfl (Nat.le_of_ble_eq_true rfl) dX1_round_5 ⟨Nat.le_refl _, Nat.le_refl _⟩ (fun H locs hP hD hS => ?_)
  refine lv_if_ne (tgt := 17) hx hb dX1_round_8 (by decide) (fun c3 => ?_) (fun c3 => ?_)
  · replace h := it_f c3 h
    refine lv_aload_n hx hb dX1_round_17 rfl (lv_at hl 0 rfl) ?_
    refine va_get (D := D) (ci := 1) (v := .ref (ad 8)) (C := RX1) (T := TX1) (N := 12) hx hb hts zi_X1_round_X1 hown hK.1 hP 0 rfl rfl 1 (by decide) (hts _ zk_X1_round_1) (fun _ h9 => h9) rfl dX1_round_18 ?_
    refine lv_aload_n hx hb dX1_round_21 rfl (lv_at hl 0 rfl) ?_
    refine va_get (D := D) (ci := 1) (v := .ref (ad 1)) (C := RX1) (T := TX1) (N := 12) hx hb hts zi_X1_round_X1 hown hK.1 hP 0 rfl rfl 0 (by decide) (hts _ zk_X1_round_0) (fun _ h9 => h9) rfl dX1_round_22 ?_
    obtain ⟨n4, g5, h⟩ := bo1 h
    refine zb_callV (As := [.ref (ad 1)]) (rest := []) ⟨hx, hb, hml, hown, hts⟩ (zc_X0_becomes l D cI (ad 8) (ad 9) (ad 10) (ad 11) (ad 12) (ad 13) (ad 14) (ad 1) (ad 2) (ad 3) (ad 4) (ad 5) (ad 6) (ad 7) g_mind g_now n4 g5) (cwV 1 hts gX1_round_X0_becomes rfl rfl rfl hd_X0_becomes ⟨Nat.le_of_ble_eq_true rfl, Nat.le_of_ble_eq_true rfl⟩) hK hP hD hS hA (zb_cGmn) (q0 := 0) rfl rfl rfl hl.1 rfl (Nat.le_of_ble_eq_true rfl) dX1_round_25 ⟨Nat.le_refl _, Nat.le_refl _⟩ (fun H locs hP hD hS => ?_)
    refine lv_iconst (v := (1 : Int32)) hx hb dX1_round_28 (by decide) ?_
    refine lv_istore_n (lv' := [(2, .int (1 : Int32)), (0, .ref (ad 0)), (1, .int v1)]) hx hb dX1_round_29 rfl hl (by decide) rfl (fun ls hl => ?_)
    have lp8 : ∀ (fu8 : Nat) (x6 : Int32) (x7 : BT) (H : Heap) (locs : List Loc) (hP : va_P D zb_cl (zb_G cI ad g_now x7 g_taken g_isTaken g_letters g_letterCount g_told g_toldCount g_refusals g_costs g_gains g_seed) H) (hD : va_D A (zb_G cI ad g_now x7 g_taken g_isTaken g_letters g_letterCount g_told g_toldCount g_refusals g_costs g_gains g_seed)) (hS : va_S A s.heap H locs) (ls : Array Slot) (hl : lv_has ls 4 [(0, .ref (ad 0)), (1, .int v1), (2, .int x6)]) (h : zl2 (zf_X1_round_b30 v1 g_now g_refusals) fu8 x6 x7 = some (r0, w_g_mind, w_g_refusals)), W p l e rm_X1_round s m args below meth c H locs 0 0 (zb_Q below D (some (.int r0)) (zb_G cI ad g_now w_g_mind g_taken g_isTaken g_letters g_letterCount g_told g_toldCount w_g_refusals g_costs g_gains g_seed) A args s) (F0 m 30 ls []) := by
      intro fu8
      induction fu8 with
      | zero => intro x6 x7 H locs hP hD hS ls hl h; exact zb_no h
      | succ fu8 ih8 =>
        intro x6 x7 H locs hP hD hS ls hl h
        replace h : zf_X1_round_b30 v1 g_now g_refusals (zl2 (zf_X1_round_b30 v1 g_now g_refusals) fu8) x6 x7 = some (r0, w_g_mind, w_g_refusals) := h
        unfold zf_X1_round_b30 at h
        refine lv_iload_n hx hb dX1_round_30 rfl (lv_at hl 2 rfl) ?_
        refine lv_bipush (v := (60 : Int32)) hx hb dX1_round_31 (by decide) ?_
        refine lv_icmp_gt (tgt := 101) hx hb dX1_round_33 (by decide) (fun c9 => ?_) (fun c9 => ?_)
        · replace h := it_t c9 h
          refine lv_bipush (v := ((-9) : Int32)) hx hb dX1_round_101 (by decide) ?_
          obtain ⟨rfl, rfl, rfl⟩ := re3 h
          exact zb_iret hx hb hr hlk hP hS dX1_round_103
        · replace h := it_f c9 h
          refine lv_aload_n hx hb dX1_round_36 rfl (lv_at hl 0 rfl) ?_
          refine va_get (D := D) (ci := 1) (v := .ref (ad 8)) (C := RX1) (T := TX1) (N := 12) hx hb hts zi_X1_round_X1 hown hK.1 hP 0 rfl rfl 1 (by decide) (hts _ zk_X1_round_1) (fun _ h9 => h9) rfl dX1_round_37 ?_
          refine lv_iconst (v := (1 : Int32)) hx hb dX1_round_40 (by decide) ?_
          refine lv_iconst (v := (0 : Int32)) hx hb dX1_round_41 (by decide) ?_
          obtain ⟨n10, g11, h⟩ := bo1 h
          refine zb_callV (As := [.int (1 : Int32), .int (0 : Int32)]) (rest := []) ⟨hx, hb, hml, hown, hts⟩ (zc_X0_goOn l D cI (ad 8) (ad 9) (ad 10) (ad 11) (ad 12) (ad 13) (ad 14) x7 (1 : Int32) (0 : Int32) n10 g11) (cwV 2 hts gX1_round_X0_goOn rfl rfl rfl hd_X0_goOn ⟨Nat.le_of_ble_eq_true rfl, Nat.le_of_ble_eq_true rfl⟩) hK hP hD hS hA (zb_cGm) (q0 := 0) rfl rfl rfl hl.1 rfl (Nat.le_of_ble_eq_true rfl) dX1_round_42 ⟨Nat.le_refl _, Nat.le_refl _⟩ (fun H locs hP hD hS => ?_)
          refine lv_aload_n hx hb dX1_round_45 rfl (lv_at hl 0 rfl) ?_
          refine va_get (D := D) (ci := 1) (v := .ref (ad 8)) (C := RX1) (T := TX1) (N := 12) hx hb hts zi_X1_round_X1 hown hK.1 hP 0 rfl rfl 1 (by decide) (hts _ zk_X1_round_1) (fun _ h9 => h9) rfl dX1_round_46 ?_
          refine lv_iload_n hx hb dX1_round_49 rfl (lv_at hl 1 rfl) ?_
          obtain ⟨r12, g13, h⟩ := bo1 h
          refine zb_callV (As := [.int v1]) (rest := []) ⟨hx, hb, hml, hown, hts⟩ (zc_X0_placeOf l D cI (ad 8) (ad 9) (ad 10) (ad 11) (ad 12) (ad 13) (ad 14) n10 v1 r12 g13) (cwV 1 hts gX1_round_X0_placeOf rfl rfl rfl hd_X0_placeOf ⟨Nat.le_of_ble_eq_true rfl, Nat.le_of_ble_eq_true rfl⟩) hK hP hD hS hA (zb_cGm) (q0 := 0) rfl rfl rfl hl.1 rfl (Nat.le_of_ble_eq_true rfl) dX1_round_50 ⟨Nat.le_refl _, Nat.le_refl _⟩ (fun H locs hP hD hS => ?_)
          refine lv_aload_n hx hb dX1_round_53 rfl (lv_at hl 0 rfl) ?_
          refine va_get (D := D) (ci := 1) (v := .ref (ad 1)) (C := RX1) (T := TX1) (N := 12) hx hb hts zi_X1_round_X1 hown hK.1 hP 0 rfl rfl 0 (by decide) (hts _ zk_X1_round_0) (fun _ h9 => h9) rfl dX1_round_54 ?_
          refine lv_iload_n hx hb dX1_round_57 rfl (lv_at hl 1 rfl) ?_
          obtain ⟨r14, g15, h⟩ := bo1 h
          refine zb_callV (As := [.int v1]) (rest := [.int r12]) ⟨hx, hb, hml, hown, hts⟩ (zc_X0_placeOf l D cI (ad 1) (ad 2) (ad 3) (ad 4) (ad 5) (ad 6) (ad 7) g_now v1 r14 g15) (cwV 1 hts gX1_round_X0_placeOf rfl rfl rfl hd_X0_placeOf ⟨Nat.le_of_ble_eq_true rfl, Nat.le_of_ble_eq_true rfl⟩) hK hP hD hS hA (zb_cGn) (q0 := 0) rfl rfl rfl hl.1 rfl (Nat.le_of_ble_eq_true rfl) dX1_round_58 ⟨Nat.le_refl _, Nat.le_refl _⟩ (fun H locs hP hD hS => ?_)
          refine lv_icmp_ne (tgt := 68) hx hb dX1_round_61 (by decide) (fun c16 => ?_) (fun c16 => ?_)
          · replace h := it_f c16 h
            refine lv_iconst (v := (0 : Int32)) hx hb dX1_round_68 (by decide) ?_
            refine lv_istore_n (lv' := [(3, .int (0 : Int32)), (0, .ref (ad 0)), (1, .int v1), (2, .int x6)]) hx hb dX1_round_69 rfl hl (by decide) rfl (fun ls hl => ?_)
            refine lv_iload_n hx hb dX1_round_70 rfl (lv_at hl 0 rfl) ?_
            refine lv_if_eq (tgt := 95) hx hb dX1_round_71 (by decide) (fun _ => ?_) (fun c17 => absurd c17 (by decide))
            refine lv_iinc (v := (x6 + (1 : Int32))) (lv' := [(2, .int (x6 + (1 : Int32))), (3, .int (0 : Int32)), (0, .ref (ad 0)), (1, .int v1)]) hx hb dX1_round_95 hl (k := 3) rfl (by first | rfl | decide) (by decide) rfl (fun ls hl => ?_)
            refine lv_goto (tgt := 30) hx hb dX1_round_98 (by decide) ?_
            exact ih8 (x6 + (1 : Int32)) n10 _ _ hP hD hS ls (lv_sub hl [2, 3, 0] rfl) h
          · replace h := it_t c16 h
            refine lv_iconst (v := (1 : Int32)) hx hb dX1_round_64 (by decide) ?_
            refine lv_goto (tgt := 69) hx hb dX1_round_65 (by decide) ?_
            refine lv_istore_n (lv' := [(3, .int (1 : Int32)), (0, .ref (ad 0)), (1, .int v1), (2, .int x6)]) hx hb dX1_round_69 rfl hl (by decide) rfl (fun ls hl => ?_)
            refine lv_iload_n hx hb dX1_round_70 rfl (lv_at hl 0 rfl) ?_
            refine lv_if_eq (tgt := 95) hx hb dX1_round_71 (by decide) (fun c18 => absurd c18 (by decide)) (fun _ => ?_)
            refine lv_aload_n hx hb dX1_round_74 rfl (lv_at hl 1 rfl) ?_
            refine va_get (D := D) (ci := 1) (v := .ref (ad 8)) (C := RX1) (T := TX1) (N := 12) hx hb hts zi_X1_round_X1 hown hK.1 hP 0 rfl rfl 1 (by decide) (hts _ zk_X1_round_1) (fun _ h9 => h9) rfl dX1_round_75 ?_
            refine lv_iload_n hx hb dX1_round_78 rfl (lv_at hl 2 rfl) ?_
            obtain ⟨r19, g20, h⟩ := bo1 h
            refine zb_callV (As := [.int v1]) (rest := []) ⟨hx, hb, hml, hown, hts⟩ (zc_X0_headingOf l D cI (ad 8) (ad 9) (ad 10) (ad 11) (ad 12) (ad 13) (ad 14) n10 v1 r19 g20) (cwV 1 hts gX1_round_X0_headingOf rfl rfl rfl hd_X0_headingOf ⟨Nat.le_of_ble_eq_true rfl, Nat.le_of_ble_eq_true rfl⟩) hK hP hD hS hA (zb_cGm) (q0 := 0) rfl rfl rfl hl.1 rfl (Nat.le_of_ble_eq_true rfl) dX1_round_79 ⟨Nat.le_refl _, Nat.le_refl _⟩ (fun H locs hP hD hS => ?_)
            refine lv_aload_n hx hb dX1_round_82 rfl (lv_at hl 1 rfl) ?_
            refine va_get (D := D) (ci := 1) (v := .ref (ad 1)) (C := RX1) (T := TX1) (N := 12) hx hb hts zi_X1_round_X1 hown hK.1 hP 0 rfl rfl 0 (by decide) (hts _ zk_X1_round_0) (fun _ h9 => h9) rfl dX1_round_83 ?_
            refine lv_iload_n hx hb dX1_round_86 rfl (lv_at hl 2 rfl) ?_
            obtain ⟨r21, g22, h⟩ := bo1 h
            refine zb_callV (As := [.int v1]) (rest := [.int r19]) ⟨hx, hb, hml, hown, hts⟩ (zc_X0_headingOf l D cI (ad 1) (ad 2) (ad 3) (ad 4) (ad 5) (ad 6) (ad 7) g_now v1 r21 g22) (cwV 1 hts gX1_round_X0_headingOf rfl rfl rfl hd_X0_headingOf ⟨Nat.le_of_ble_eq_true rfl, Nat.le_of_ble_eq_true rfl⟩) hK hP hD hS hA (zb_cGn) (q0 := 0) rfl rfl rfl hl.1 rfl (Nat.le_of_ble_eq_true rfl) dX1_round_87 ⟨Nat.le_refl _, Nat.le_refl _⟩ (fun H locs hP hD hS => ?_)
            refine lv_icmp_ne (tgt := 95) hx hb dX1_round_90 (by decide) (fun c23 => ?_) (fun c23 => ?_)
            · replace h := it_f c23 h
              refine lv_iinc (v := (x6 + (1 : Int32))) (lv' := [(2, .int (x6 + (1 : Int32))), (3, .int (1 : Int32)), (0, .ref (ad 0)), (1, .int v1)]) hx hb dX1_round_95 hl (k := 3) rfl (by first | rfl | decide) (by decide) rfl (fun ls hl => ?_)
              refine lv_goto (tgt := 30) hx hb dX1_round_98 (by decide) ?_
              exact ih8 (x6 + (1 : Int32)) n10 _ _ hP hD hS ls (lv_sub hl [2, 3, 0] rfl) h
            · replace h := it_t c23 h
              refine lv_iload_n hx hb dX1_round_93 rfl (lv_at hl 3 rfl) ?_
              obtain ⟨rfl, rfl, rfl⟩ := re3 h
              exact zb_iret hx hb hr hlk hP hS dX1_round_94
    exact lp8 zb_FU (1 : Int32) n4 _ _ hP hD hS ls (lv_sub hl [1, 2, 0] rfl) h
  · replace h := it_t c3 h
    refine lv_aload_n hx hb dX1_round_11 rfl (lv_at hl 0 rfl) ?_
    refine lv_iconst (v := ((-1) : Int32)) hx hb dX1_round_12 (by decide) ?_
    obtain ⟨r24, n25, g26, h⟩ := bo2 h
    refine zb_callV (As := [.int ((-1) : Int32)]) (rest := []) ⟨hx, hb, hml, hown, hts⟩ (zc_X1_refuse l D cI ad g_now g_mind g_taken g_isTaken g_letters g_letterCount g_told g_toldCount g_refusals g_costs g_gains g_seed ((-1) : Int32) r24 n25 g26) (cwV 1 hts gX1_round_X1_refuse rfl rfl rfl hd_X1_refuse ⟨Nat.le_of_ble_eq_true rfl, Nat.le_of_ble_eq_true rfl⟩) hK hP hD hS hA (zb_sG) (q0 := 0) rfl rfl rfl hl.1 rfl (Nat.le_of_ble_eq_true rfl) dX1_round_13 ⟨Nat.le_refl _, Nat.le_refl _⟩ (fun H locs hP hD hS => ?_)
    obtain ⟨rfl, rfl, rfl⟩ := re3 h
    exact zb_iret hx hb hr hlk hP hS dX1_round_16
abbrev rm_X1_costOf : Room := { frames := 0, cells := 0, slots := 0, locals := 0 }
theorem hd_X1_costOf : yX1_costOf.cls = RX1 ∧ yX1_costOf.cls ≠ "java/lang/invoke/MethodHandle" ∧ yX1_costOf.cls ≠ "java/lang/invoke/VarHandle" ∧ (parseMethodDescriptor yX1_costOf.desc).map (fun d => d.parameters.length) = some 1 := by decide +kernel
theorem zi_X1_costOf_X1 : ∀ w ∈ wsX10, w ∈ wsX1_costOf := fun _ h => List.mem_cons_of_mem _ (List.mem_append_right _ h)
theorem zk_X1_costOf_0 : Cond.fieldLink RX1 32 "GroutingIsFollowed" "costs" "[I" ∈ wsX1_costOf := by decide +kernel
set_option maxHeartbeats 4000000 in
set_option maxRecDepth 100000 in
theorem zc_X1_costOf (l : Launch) (D : va_G) (cI : ClassId) (ad : Nat → Nat) (g_now : BT) (g_mind : BT) (g_taken : BT) (g_isTaken : Int32) (g_letters : (Nat → Int32)) (g_letterCount : Int32) (g_told : (Nat → Int32)) (g_toldCount : Int32) (g_refusals : (Nat → Int32)) (g_costs : (Nat → Int32)) (g_gains : (Nat → Int32)) (g_seed : Int32) (v1 : Int32) (r0 : Int32) (h : zf_X1_costOf g_costs v1 = some r0) : Cn l D cI yX1_costOf wsX1_costOf rm_X1_costOf [.ref (ad 0), .int v1] (zb_G cI ad g_now g_mind g_taken g_isTaken g_letters g_letterCount g_told g_toldCount g_refusals g_costs g_gains g_seed) (some (.int r0)) (zb_G cI ad g_now g_mind g_taken g_isTaken g_letters g_letterCount g_told g_toldCount g_refusals g_costs g_gains g_seed) := by
  refine zb_ofW (cc := cX1_costOf) (maxL := 2) (ret := (some .int)) (by decide) rfl (Nat.le_of_ble_eq_true rfl) ?_
  intro p e s m args below meth c A ls hx hb hr hml hts hown hlk hK hP hD hA hl
  have hS : va_S A s.heap s.heap [] := va_S.rf
  have hl : lv_has ls 2 [(0, .ref (ad 0)), (1, .int v1)] := hl
  unfold zf_X1_costOf at h
  refine lv_iload_n hx hb dX1_costOf_0 rfl (lv_at hl 1 rfl) ?_
  refine lv_if_lt (tgt := 22) hx hb dX1_costOf_1 (by decide) (fun c1 => ?_) (fun c1 => ?_)
  · replace h := it_t c1 h
    refine lv_sipush (v := (1000 : Int32)) hx hb dX1_costOf_22 (by decide) ?_
    obtain rfl := re1 h
    exact zb_iret hx hb hr hlk hP hS dX1_costOf_25
  · replace h := it_f c1 h
    refine lv_iload_n hx hb dX1_costOf_4 rfl (lv_at hl 1 rfl) ?_
    refine lv_aload_n hx hb dX1_costOf_5 rfl (lv_at hl 0 rfl) ?_
    refine va_get (D := D) (ci := 1) (v := .ref (ad 25)) (C := RX1) (T := TX1) (N := 12) hx hb hts zi_X1_costOf_X1 hown hK.1 hP 0 rfl rfl 9 (by decide) (hts _ zk_X1_costOf_0) (fun _ h9 => h9) rfl dX1_costOf_6 ?_
    refine va_alen (v := (30 : Int32)) hx hb hK.1 hP 25 0 rfl rfl rfl dX1_costOf_9 ?_
    refine lv_icmp_ge (tgt := 22) hx hb dX1_costOf_10 (by decide) (fun c2 => ?_) (fun c2 => ?_)
    · replace h := it_t c2 h
      refine lv_sipush (v := (1000 : Int32)) hx hb dX1_costOf_22 (by decide) ?_
      obtain rfl := re1 h
      exact zb_iret hx hb hr hlk hP hS dX1_costOf_25
    · replace h := it_f c2 h
      refine lv_aload_n hx hb dX1_costOf_13 rfl (lv_at hl 0 rfl) ?_
      refine va_get (D := D) (ci := 1) (v := .ref (ad 25)) (C := RX1) (T := TX1) (N := 12) hx hb hts zi_X1_costOf_X1 hown hK.1 hP 0 rfl rfl 9 (by decide) (hts _ zk_X1_costOf_0) (fun _ h9 => h9) rfl dX1_costOf_14 ?_
      refine lv_iload_n hx hb dX1_costOf_17 rfl (lv_at hl 1 rfl) ?_
      obtain ⟨h3, h⟩ := it_g h
      refine va_iald hx hb hK.1 hP 25 0 rfl rfl h3 dX1_costOf_18 ?_
      refine lv_goto (tgt := 25) hx hb dX1_costOf_19 (by decide) ?_
      obtain rfl := re1 h
      exact zb_iret hx hb hr hlk hP hS dX1_costOf_25
abbrev rm_X1_putCost : Room := { frames := 0, cells := 0, slots := 0, locals := 0 }
theorem hd_X1_putCost : yX1_putCost.cls = RX1 ∧ yX1_putCost.cls ≠ "java/lang/invoke/MethodHandle" ∧ yX1_putCost.cls ≠ "java/lang/invoke/VarHandle" ∧ (parseMethodDescriptor yX1_putCost.desc).map (fun d => d.parameters.length) = some 2 := by decide +kernel
theorem zi_X1_putCost_X1 : ∀ w ∈ wsX10, w ∈ wsX1_putCost := fun _ h => List.mem_cons_of_mem _ (List.mem_append_right _ h)
theorem zk_X1_putCost_0 : Cond.fieldLink RX1 32 "GroutingIsFollowed" "costs" "[I" ∈ wsX1_putCost := by decide +kernel
set_option maxHeartbeats 4000000 in
set_option maxRecDepth 100000 in
theorem zc_X1_putCost (l : Launch) (D : va_G) (cI : ClassId) (ad : Nat → Nat) (g_now : BT) (g_mind : BT) (g_taken : BT) (g_isTaken : Int32) (g_letters : (Nat → Int32)) (g_letterCount : Int32) (g_told : (Nat → Int32)) (g_toldCount : Int32) (g_refusals : (Nat → Int32)) (g_costs : (Nat → Int32)) (g_gains : (Nat → Int32)) (g_seed : Int32) (v1 : Int32) (v2 : Int32) (w_g_costs : (Nat → Int32)) (h : zf_X1_putCost g_costs v1 v2 = some w_g_costs) : Cn l D cI yX1_putCost wsX1_putCost rm_X1_putCost [.ref (ad 0), .int v1, .int v2] (zb_G cI ad g_now g_mind g_taken g_isTaken g_letters g_letterCount g_told g_toldCount g_refusals g_costs g_gains g_seed) none (zb_G cI ad g_now g_mind g_taken g_isTaken g_letters g_letterCount g_told g_toldCount g_refusals w_g_costs g_gains g_seed) := by
  refine zb_ofW (cc := cX1_putCost) (maxL := 3) (ret := none) (by decide) rfl (Nat.le_of_ble_eq_true rfl) ?_
  intro p e s m args below meth c A ls hx hb hr hml hts hown hlk hK hP hD hA hl
  have hS : va_S A s.heap s.heap [] := va_S.rf
  have hl : lv_has ls 3 [(0, .ref (ad 0)), (1, .int v1), (2, .int v2)] := hl
  unfold zf_X1_putCost at h
  refine lv_iload_n hx hb dX1_putCost_0 rfl (lv_at hl 1 rfl) ?_
  refine lv_if_lt (tgt := 20) hx hb dX1_putCost_1 (by decide) (fun c1 => ?_) (fun c1 => ?_)
  · replace h := it_t c1 h
    obtain rfl := re1 h
    exact zb_vret hx hb hr hlk hP hS dX1_putCost_20
  · replace h := it_f c1 h
    refine lv_iload_n hx hb dX1_putCost_4 rfl (lv_at hl 1 rfl) ?_
    refine lv_aload_n hx hb dX1_putCost_5 rfl (lv_at hl 0 rfl) ?_
    refine va_get (D := D) (ci := 1) (v := .ref (ad 25)) (C := RX1) (T := TX1) (N := 12) hx hb hts zi_X1_putCost_X1 hown hK.1 hP 0 rfl rfl 9 (by decide) (hts _ zk_X1_putCost_0) (fun _ h9 => h9) rfl dX1_putCost_6 ?_
    refine va_alen (v := (30 : Int32)) hx hb hK.1 hP 25 0 rfl rfl rfl dX1_putCost_9 ?_
    refine lv_icmp_ge (tgt := 20) hx hb dX1_putCost_10 (by decide) (fun c2 => ?_) (fun c2 => ?_)
    · replace h := it_t c2 h
      obtain rfl := re1 h
      exact zb_vret hx hb hr hlk hP hS dX1_putCost_20
    · replace h := it_f c2 h
      refine lv_aload_n hx hb dX1_putCost_13 rfl (lv_at hl 0 rfl) ?_
      refine va_get (D := D) (ci := 1) (v := .ref (ad 25)) (C := RX1) (T := TX1) (N := 12) hx hb hts zi_X1_putCost_X1 hown hK.1 hP 0 rfl rfl 9 (by decide) (hts _ zk_X1_putCost_0) (fun _ h9 => h9) rfl dX1_putCost_14 ?_
      refine lv_iload_n hx hb dX1_putCost_17 rfl (lv_at hl 1 rfl) ?_
      refine lv_iload_n hx hb dX1_putCost_18 rfl (lv_at hl 2 rfl) ?_
      obtain ⟨h3, h⟩ := it_g h
      refine va_iast hx hb hK.1 hP hD hS 25 0 rfl rfl h3 dX1_putCost_19 (fun H locs hP hD hS => ?_)
      have hP : va_P D zb_cl (zb_G cI ad g_now g_mind g_taken g_isTaken g_letters g_letterCount g_told g_toldCount g_refusals (upd g_costs v1.toNatClampNeg v2) g_gains g_seed) H := hP
      have hD : va_D A (zb_G cI ad g_now g_mind g_taken g_isTaken g_letters g_letterCount g_told g_toldCount g_refusals (upd g_costs v1.toNatClampNeg v2) g_gains g_seed) := hD
      obtain rfl := re1 h
      exact zb_vret hx hb hr hlk hP hS dX1_putCost_20
abbrev rm_X1_spread : Room := { frames := 1, cells := 0, slots := 0, locals := 23 }
theorem hd_X1_spread : yX1_spread.cls = RX1 ∧ yX1_spread.cls ≠ "java/lang/invoke/MethodHandle" ∧ yX1_spread.cls ≠ "java/lang/invoke/VarHandle" ∧ (parseMethodDescriptor yX1_spread.desc).map (fun d => d.parameters.length) = some 2 := by decide +kernel
set_option maxHeartbeats 4000000 in
set_option maxRecDepth 100000 in
theorem zc_X1_spread (l : Launch) (D : va_G) (cI : ClassId) (ad : Nat → Nat) (g_now : BT) (g_mind : BT) (g_taken : BT) (g_isTaken : Int32) (g_letters : (Nat → Int32)) (g_letterCount : Int32) (g_told : (Nat → Int32)) (g_toldCount : Int32) (g_refusals : (Nat → Int32)) (g_costs : (Nat → Int32)) (g_gains : (Nat → Int32)) (g_seed : Int32) (v1 : Int32) (v2 : Int32) (r0 : Int32) (w_g_costs : (Nat → Int32)) (h : zf_X1_spread g_costs v1 v2 = some (r0, w_g_costs)) : Cn l D cI yX1_spread wsX1_spread rm_X1_spread [.ref (ad 0), .int v1, .int v2] (zb_G cI ad g_now g_mind g_taken g_isTaken g_letters g_letterCount g_told g_toldCount g_refusals g_costs g_gains g_seed) (some (.int r0)) (zb_G cI ad g_now g_mind g_taken g_isTaken g_letters g_letterCount g_told g_toldCount g_refusals w_g_costs g_gains g_seed) := by
  refine zb_ofW (cc := cX1_spread) (maxL := 6) (ret := (some .boolean)) (by decide) rfl (Nat.le_of_ble_eq_true rfl) ?_
  intro p e s m args below meth c A ls hx hb hr hml hts hown hlk hK hP hD hA hl
  have hS : va_S A s.heap s.heap [] := va_S.rf
  have hl : lv_has ls 6 [(0, .ref (ad 0)), (1, .int v1), (2, .int v2)] := hl
  unfold zf_X1_spread at h
  refine lv_iconst (v := (0 : Int32)) hx hb dX1_spread_0 (by decide) ?_
  refine lv_istore_n (lv' := [(3, .int (0 : Int32)), (0, .ref (ad 0)), (1, .int v1), (2, .int v2)]) hx hb dX1_spread_1 rfl hl (by decide) rfl (fun ls hl => ?_)
  refine lv_iconst (v := (0 : Int32)) hx hb dX1_spread_2 (by decide) ?_
  refine lv_istore (lv' := [(4, .int (0 : Int32)), (3, .int (0 : Int32)), (0, .ref (ad 0)), (1, .int v1), (2, .int v2)]) hx hb dX1_spread_3 hl (by decide) rfl (fun ls hl => ?_)
  have lp4 : ∀ (fu4 : Nat) (x1 : Int32) (x2 : Int32) (x3 : (Nat → Int32)) (H : Heap) (locs : List Loc) (hP : va_P D zb_cl (zb_G cI ad g_now g_mind g_taken g_isTaken g_letters g_letterCount g_told g_toldCount g_refusals x3 g_gains g_seed) H) (hD : va_D A (zb_G cI ad g_now g_mind g_taken g_isTaken g_letters g_letterCount g_told g_toldCount g_refusals x3 g_gains g_seed)) (hS : va_S A s.heap H locs) (ls : Array Slot) (hl : lv_has ls 6 [(0, .ref (ad 0)), (1, .int v1), (2, .int v2), (3, .int x1), (4, .int x2)]) (h : zl3 (zf_X1_spread_b5 v1 v2) fu4 x1 x2 x3 = some (r0, w_g_costs)), W p l e rm_X1_spread s m args below meth c H locs 0 0 (zb_Q below D (some (.int r0)) (zb_G cI ad g_now g_mind g_taken g_isTaken g_letters g_letterCount g_told g_toldCount g_refusals w_g_costs g_gains g_seed) A args s) (F0 m 5 ls []) := by
    intro fu4
    induction fu4 with
    | zero => intro x1 x2 x3 H locs hP hD hS ls hl h; exact zb_no h
    | succ fu4 ih4 =>
      intro x1 x2 x3 H locs hP hD hS ls hl h
      replace h : zf_X1_spread_b5 v1 v2 (zl3 (zf_X1_spread_b5 v1 v2) fu4) x1 x2 x3 = some (r0, w_g_costs) := h
      unfold zf_X1_spread_b5 at h
      refine lv_iload hx hb dX1_spread_5 (lv_at hl 4 rfl) ?_
      refine lv_iconst (v := (4 : Int32)) hx hb dX1_spread_7 (by decide) ?_
      refine lv_icmp_ge (tgt := 49) hx hb dX1_spread_8 (by decide) (fun c5 => ?_) (fun c5 => ?_)
      · replace h := it_t c5 h
        refine lv_iload_n hx hb dX1_spread_49 rfl (lv_at hl 3 rfl) ?_
        obtain ⟨hz, h⟩ := it_z h
        obtain ⟨rfl, rfl⟩ := re2 h
        exact zb_zret hx hb hr hlk hz hP hS dX1_spread_50
      · replace h := it_f c5 h
        refine lv_iload_n hx hb dX1_spread_11 rfl (lv_at hl 1 rfl) ?_
        refine lv_iload hx hb dX1_spread_12 (lv_at hl 4 rfl) ?_
        obtain ⟨r6, g7, h⟩ := bo1 h
        refine zb_callS (As := [.int v1, .int x2]) (rest := []) ⟨hx, hb, hml, hown, hts⟩ (zc_X1_nodeThatWay l D cI v1 x2 r6 g7) (va_cwS 2 hts gX1_spread_X1_nodeThatWay rfl rfl rfl hd_X1_nodeThatWay.2 ⟨Nat.le_of_ble_eq_true rfl, Nat.le_of_ble_eq_true rfl⟩) hK hP hD hS hA (zb_none _) rfl hl.1 rfl (Nat.le_of_ble_eq_true rfl) dX1_spread_14 ⟨Nat.le_refl _, Nat.le_refl _⟩ (fun H locs hP hD hS => ?_)
        refine lv_istore (lv' := [(5, .int r6), (0, .ref (ad 0)), (1, .int v1), (2, .int v2), (3, .int x1), (4, .int x2)]) hx hb dX1_spread_17 hl (by decide) rfl (fun ls hl => ?_)
        refine lv_iload hx hb dX1_spread_19 (lv_at hl 0 rfl) ?_
        refine lv_if_lt (tgt := 43) hx hb dX1_spread_21 (by decide) (fun c8 => ?_) (fun c8 => ?_)
        · replace h := it_t c8 h
          refine lv_iinc (v := (x2 + (1 : Int32))) (lv' := [(4, .int (x2 + (1 : Int32))), (5, .int r6), (0, .ref (ad 0)), (1, .int v1), (2, .int v2), (3, .int x1)]) hx hb dX1_spread_43 hl (k := 5) rfl (by first | rfl | decide) (by decide) rfl (fun ls hl => ?_)
          refine lv_goto (tgt := 5) hx hb dX1_spread_46 (by decide) ?_
          exact ih4 x1 (x2 + (1 : Int32)) x3 _ _ hP hD hS ls (lv_sub hl [2, 3, 4, 5, 0] rfl) h
        · replace h := it_f c8 h
          refine lv_iload_n hx hb dX1_spread_24 rfl (lv_at hl 3 rfl) ?_
          refine lv_aload_n hx hb dX1_spread_25 rfl (lv_at hl 1 rfl) ?_
          refine lv_iload hx hb dX1_spread_26 (lv_at hl 0 rfl) ?_
          obtain ⟨r9, g10, h⟩ := bo1 h
          refine zb_callV (As := [.int r6]) (rest := [.int v2]) ⟨hx, hb, hml, hown, hts⟩ (zc_X1_costOf l D cI ad g_now g_mind g_taken g_isTaken g_letters g_letterCount g_told g_toldCount g_refusals x3 g_gains g_seed r6 r9 g10) (cwV 1 hts gX1_spread_X1_costOf rfl rfl rfl hd_X1_costOf ⟨Nat.le_of_ble_eq_true rfl, Nat.le_of_ble_eq_true rfl⟩) hK hP hD hS hA (zb_sG) (q0 := 0) rfl rfl rfl hl.1 rfl (Nat.le_of_ble_eq_true rfl) dX1_spread_28 ⟨Nat.le_refl _, Nat.le_refl _⟩ (fun H locs hP hD hS => ?_)
          refine lv_icmp_ge (tgt := 43) hx hb dX1_spread_31 (by decide) (fun c11 => ?_) (fun c11 => ?_)
          · replace h := it_t c11 h
            refine lv_iinc (v := (x2 + (1 : Int32))) (lv' := [(4, .int (x2 + (1 : Int32))), (5, .int r6), (0, .ref (ad 0)), (1, .int v1), (2, .int v2), (3, .int x1)]) hx hb dX1_spread_43 hl (k := 5) rfl (by first | rfl | decide) (by decide) rfl (fun ls hl => ?_)
            refine lv_goto (tgt := 5) hx hb dX1_spread_46 (by decide) ?_
            exact ih4 x1 (x2 + (1 : Int32)) x3 _ _ hP hD hS ls (lv_sub hl [2, 3, 4, 5, 0] rfl) h
          · replace h := it_f c11 h
            refine lv_aload_n hx hb dX1_spread_34 rfl (lv_at hl 1 rfl) ?_
            refine lv_iload hx hb dX1_spread_35 (lv_at hl 0 rfl) ?_
            refine lv_iload_n hx hb dX1_spread_37 rfl (lv_at hl 3 rfl) ?_
            obtain ⟨n12, g13, h⟩ := bo1 h
            refine zb_callV (As := [.int r6, .int v2]) (rest := []) ⟨hx, hb, hml, hown, hts⟩ (zc_X1_putCost l D cI ad g_now g_mind g_taken g_isTaken g_letters g_letterCount g_told g_toldCount g_refusals x3 g_gains g_seed r6 v2 n12 g13) (cwV 2 hts gX1_spread_X1_putCost rfl rfl rfl hd_X1_putCost ⟨Nat.le_of_ble_eq_true rfl, Nat.le_of_ble_eq_true rfl⟩) hK hP hD hS hA (zb_sG) (q0 := 0) rfl rfl rfl hl.1 rfl (Nat.le_of_ble_eq_true rfl) dX1_spread_38 ⟨Nat.le_refl _, Nat.le_refl _⟩ (fun H locs hP hD hS => ?_)
            refine lv_iconst (v := (1 : Int32)) hx hb dX1_spread_41 (by decide) ?_
            refine lv_istore_n (lv' := [(3, .int (1 : Int32)), (5, .int r6), (0, .ref (ad 0)), (1, .int v1), (2, .int v2), (4, .int x2)]) hx hb dX1_spread_42 rfl hl (by decide) rfl (fun ls hl => ?_)
            refine lv_iinc (v := (x2 + (1 : Int32))) (lv' := [(4, .int (x2 + (1 : Int32))), (3, .int (1 : Int32)), (5, .int r6), (0, .ref (ad 0)), (1, .int v1), (2, .int v2)]) hx hb dX1_spread_43 hl (k := 5) rfl (by first | rfl | decide) (by decide) rfl (fun ls hl => ?_)
            refine lv_goto (tgt := 5) hx hb dX1_spread_46 (by decide) ?_
            exact ih4 (1 : Int32) (x2 + (1 : Int32)) n12 _ _ hP hD hS ls (lv_sub hl [3, 4, 5, 1, 0] rfl) h
  exact lp4 zb_FU (0 : Int32) (0 : Int32) g_costs _ _ hP hD hS ls (lv_sub hl [2, 3, 4, 1, 0] rfl) h
abbrev rm_X1_leastCost : Room := { frames := 2, cells := 0, slots := 0, locals := 48 }
theorem hd_X1_leastCost : yX1_leastCost.cls = RX1 ∧ yX1_leastCost.cls ≠ "java/lang/invoke/MethodHandle" ∧ yX1_leastCost.cls ≠ "java/lang/invoke/VarHandle" ∧ (parseMethodDescriptor yX1_leastCost.desc).map (fun d => d.parameters.length) = some 4 := by decide +kernel
theorem zi_X1_leastCost_X1 : ∀ w ∈ wsX10, w ∈ wsX1_leastCost := fun _ h => List.mem_cons_of_mem _ (List.mem_append_left _ (List.mem_append_right _ h))
theorem zk_X1_leastCost_0 : Cond.fieldLink RX1 32 "GroutingIsFollowed" "costs" "[I" ∈ wsX1_leastCost := by decide +kernel
theorem zk_X1_leastCost_1 : Cond.fieldLink RX1 10 "GroutingIsFollowed" "now" "LGroutingIsFollowed$Bath;" ∈ wsX1_leastCost := by decide +kernel
set_option maxHeartbeats 4000000 in
set_option maxRecDepth 100000 in
theorem zc_X1_leastCost (l : Launch) (D : va_G) (cI : ClassId) (ad : Nat → Nat) (g_now : BT) (g_mind : BT) (g_taken : BT) (g_isTaken : Int32) (g_letters : (Nat → Int32)) (g_letterCount : Int32) (g_told : (Nat → Int32)) (g_toldCount : Int32) (g_refusals : (Nat → Int32)) (g_costs : (Nat → Int32)) (g_gains : (Nat → Int32)) (g_seed : Int32) (v1 : Int32) (v2 : Int32) (v3 : Int32) (v4 : Int32) (r0 : Int32) (w_g_costs : (Nat → Int32)) (h : zf_X1_leastCost g_now g_costs v1 v2 v3 v4 = some (r0, w_g_costs)) : Cn l D cI yX1_leastCost wsX1_leastCost rm_X1_leastCost [.ref (ad 0), .int v1, .int v2, .int v3, .int v4] (zb_G cI ad g_now g_mind g_taken g_isTaken g_letters g_letterCount g_told g_toldCount g_refusals g_costs g_gains g_seed) (some (.int r0)) (zb_G cI ad g_now g_mind g_taken g_isTaken g_letters g_letterCount g_told g_toldCount g_refusals w_g_costs g_gains g_seed) := by
  refine zb_ofW (cc := cX1_leastCost) (maxL := 9) (ret := (some .int)) (by decide) rfl (Nat.le_of_ble_eq_true rfl) ?_
  intro p e s m args below meth c A ls hx hb hr hml hts hown hlk hK hP hD hA hl
  have hS : va_S A s.heap s.heap [] := va_S.rf
  have hl : lv_has ls 9 [(0, .ref (ad 0)), (1, .int v1), (2, .int v2), (3, .int v3), (4, .int v4)] := hl
  unfold zf_X1_leastCost at h
  refine lv_aload_n hx hb dX1_leastCost_0 rfl (lv_at hl 0 rfl) ?_
  refine va_get (D := D) (ci := 1) (v := .ref (ad 25)) (C := RX1) (T := TX1) (N := 12) hx hb hts zi_X1_leastCost_X1 hown hK.1 hP 0 rfl rfl 9 (by decide) (hts _ zk_X1_leastCost_0) (fun _ h9 => h9) rfl dX1_leastCost_1 ?_
  refine lv_sipush (v := (1000 : Int32)) hx hb dX1_leastCost_4 (by decide) ?_
  obtain ⟨n1, g2, h⟩ := bo1 h
  refine zb_callS (As := [.ref (ad 25), .int (1000 : Int32)]) (rest := []) ⟨hx, hb, hml, hown, hts⟩ (zc_J7_fill_53178 l D cI (ad 25) g_costs (1000 : Int32) n1 g2) (va_cwS 2 hts gX1_leastCost_J7_fill_53178 rfl rfl rfl hd_J7_fill_53178.2 ⟨Nat.le_of_ble_eq_true rfl, Nat.le_of_ble_eq_true rfl⟩) hK hP hD hS hA (zb_cGc) rfl hl.1 rfl (Nat.le_of_ble_eq_true rfl) dX1_leastCost_7 ⟨Nat.le_refl _, Nat.le_refl _⟩ (fun H locs hP hD hS => ?_)
  refine lv_aload_n hx hb dX1_leastCost_10 rfl (lv_at hl 0 rfl) ?_
  refine lv_iload_n hx hb dX1_leastCost_11 rfl (lv_at hl 1 rfl) ?_
  refine lv_iconst (v := (0 : Int32)) hx hb dX1_leastCost_12 (by decide) ?_
  obtain ⟨n3, g4, h⟩ := bo1 h
  refine zb_callV (As := [.int v1, .int (0 : Int32)]) (rest := []) ⟨hx, hb, hml, hown, hts⟩ (zc_X1_putCost l D cI ad g_now g_mind g_taken g_isTaken g_letters g_letterCount g_told g_toldCount g_refusals n1 g_gains g_seed v1 (0 : Int32) n3 g4) (cwV 2 hts gX1_leastCost_X1_putCost rfl rfl rfl hd_X1_putCost ⟨Nat.le_of_ble_eq_true rfl, Nat.le_of_ble_eq_true rfl⟩) hK hP hD hS hA (zb_sG) (q0 := 0) rfl rfl rfl hl.1 rfl (Nat.le_of_ble_eq_true rfl) dX1_leastCost_13 ⟨Nat.le_refl _, Nat.le_refl _⟩ (fun H locs hP hD hS => ?_)
  refine lv_iconst (v := (1 : Int32)) hx hb dX1_leastCost_16 (by decide) ?_
  refine lv_istore (lv' := [(5, .int (1 : Int32)), (0, .ref (ad 0)), (1, .int v1), (2, .int v2), (3, .int v3), (4, .int v4)]) hx hb dX1_leastCost_17 hl (by decide) rfl (fun ls hl => ?_)
  refine lv_iconst (v := (0 : Int32)) hx hb dX1_leastCost_19 (by decide) ?_
  refine lv_istore (lv' := [(6, .int (0 : Int32)), (5, .int (1 : Int32)), (0, .ref (ad 0)), (1, .int v1), (2, .int v2), (3, .int v3), (4, .int v4)]) hx hb dX1_leastCost_20 hl (by decide) rfl (fun ls hl => ?_)
  have lp8 : ∀ (fu8 : Nat) (x5 : Int32) (x6 : Int32) (x7 : (Nat → Int32)) (H : Heap) (locs : List Loc) (hP : va_P D zb_cl (zb_G cI ad g_now g_mind g_taken g_isTaken g_letters g_letterCount g_told g_toldCount g_refusals x7 g_gains g_seed) H) (hD : va_D A (zb_G cI ad g_now g_mind g_taken g_isTaken g_letters g_letterCount g_told g_toldCount g_refusals x7 g_gains g_seed)) (hS : va_S A s.heap H locs) (ls : Array Slot) (hl : lv_has ls 9 [(0, .ref (ad 0)), (2, .int v2), (3, .int v3), (4, .int v4), (5, .int x5), (6, .int x6)]) (h : zl3 (zf_X1_leastCost_b22 v2 v3 v4 g_now) fu8 x5 x6 x7 = some (r0, w_g_costs)), W p l e rm_X1_leastCost s m args below meth c H locs 0 0 (zb_Q below D (some (.int r0)) (zb_G cI ad g_now g_mind g_taken g_isTaken g_letters g_letterCount g_told g_toldCount g_refusals w_g_costs g_gains g_seed) A args s) (F0 m 22 ls []) := by
    intro fu8
    induction fu8 with
    | zero => intro x5 x6 x7 H locs hP hD hS ls hl h; exact zb_no h
    | succ fu8 ih8 =>
      intro x5 x6 x7 H locs hP hD hS ls hl h
      replace h : zf_X1_leastCost_b22 v2 v3 v4 g_now (zl3 (zf_X1_leastCost_b22 v2 v3 v4 g_now) fu8) x5 x6 x7 = some (r0, w_g_costs) := h
      unfold zf_X1_leastCost_b22 at h
      refine lv_iload hx hb dX1_leastCost_22 (lv_at hl 5 rfl) ?_
      refine lv_bipush (v := (30 : Int32)) hx hb dX1_leastCost_24 (by decide) ?_
      refine lv_icmp_ge (tgt := 112) hx hb dX1_leastCost_26 (by decide) (fun c9 => ?_) (fun c9 => ?_)
      · replace h := it_t c9 h
        refine lv_aload_n hx hb dX1_leastCost_112 rfl (lv_at hl 0 rfl) ?_
        refine lv_iload_n hx hb dX1_leastCost_113 rfl (lv_at hl 1 rfl) ?_
        obtain ⟨r10, g11, h⟩ := bo1 h
        refine zb_callV (As := [.int v2]) (rest := []) ⟨hx, hb, hml, hown, hts⟩ (zc_X1_costOf l D cI ad g_now g_mind g_taken g_isTaken g_letters g_letterCount g_told g_toldCount g_refusals x7 g_gains g_seed v2 r10 g11) (cwV 1 hts gX1_leastCost_X1_costOf rfl rfl rfl hd_X1_costOf ⟨Nat.le_of_ble_eq_true rfl, Nat.le_of_ble_eq_true rfl⟩) hK hP hD hS hA (zb_sG) (q0 := 0) rfl rfl rfl hl.1 rfl (Nat.le_of_ble_eq_true rfl) dX1_leastCost_114 ⟨Nat.le_refl _, Nat.le_refl _⟩ (fun H locs hP hD hS => ?_)
        obtain ⟨rfl, rfl⟩ := re2 h
        exact zb_iret hx hb hr hlk hP hS dX1_leastCost_117
      · replace h := it_f c9 h
        refine lv_iload hx hb dX1_leastCost_29 (lv_at hl 4 rfl) ?_
        refine lv_if_eq (tgt := 112) hx hb dX1_leastCost_31 (by decide) (fun c12 => ?_) (fun c12 => ?_)
        · replace h := it_t c12 h
          refine lv_aload_n hx hb dX1_leastCost_112 rfl (lv_at hl 0 rfl) ?_
          refine lv_iload_n hx hb dX1_leastCost_113 rfl (lv_at hl 1 rfl) ?_
          obtain ⟨r13, g14, h⟩ := bo1 h
          refine zb_callV (As := [.int v2]) (rest := []) ⟨hx, hb, hml, hown, hts⟩ (zc_X1_costOf l D cI ad g_now g_mind g_taken g_isTaken g_letters g_letterCount g_told g_toldCount g_refusals x7 g_gains g_seed v2 r13 g14) (cwV 1 hts gX1_leastCost_X1_costOf rfl rfl rfl hd_X1_costOf ⟨Nat.le_of_ble_eq_true rfl, Nat.le_of_ble_eq_true rfl⟩) hK hP hD hS hA (zb_sG) (q0 := 0) rfl rfl rfl hl.1 rfl (Nat.le_of_ble_eq_true rfl) dX1_leastCost_114 ⟨Nat.le_refl _, Nat.le_refl _⟩ (fun H locs hP hD hS => ?_)
          obtain ⟨rfl, rfl⟩ := re2 h
          exact zb_iret hx hb hr hlk hP hS dX1_leastCost_117
        · replace h := it_f c12 h
          refine lv_iconst (v := (0 : Int32)) hx hb dX1_leastCost_34 (by decide) ?_
          refine lv_istore (lv' := [(5, .int (0 : Int32)), (0, .ref (ad 0)), (2, .int v2), (3, .int v3), (4, .int v4), (6, .int x6)]) hx hb dX1_leastCost_35 hl (by decide) rfl (fun ls hl => ?_)
          refine lv_iconst (v := (0 : Int32)) hx hb dX1_leastCost_37 (by decide) ?_
          refine lv_istore (lv' := [(7, .int (0 : Int32)), (5, .int (0 : Int32)), (0, .ref (ad 0)), (2, .int v2), (3, .int v3), (4, .int v4), (6, .int x6)]) hx hb dX1_leastCost_38 hl (by decide) rfl (fun ls hl => ?_)
          have lp18 : ∀ (fu18 : Nat) (x15 : Int32) (x16 : Int32) (x17 : (Nat → Int32)) (H : Heap) (locs : List Loc) (hP : va_P D zb_cl (zb_G cI ad g_now g_mind g_taken g_isTaken g_letters g_letterCount g_told g_toldCount g_refusals x17 g_gains g_seed) H) (hD : va_D A (zb_G cI ad g_now g_mind g_taken g_isTaken g_letters g_letterCount g_told g_toldCount g_refusals x17 g_gains g_seed)) (hS : va_S A s.heap H locs) (ls : Array Slot) (hl : lv_has ls 9 [(0, .ref (ad 0)), (2, .int v2), (3, .int v3), (4, .int v4), (5, .int x15), (6, .int x6), (7, .int x16)]) (h : zl3 (zf_X1_leastCost_b40 (zl3 (zf_X1_leastCost_b22 v2 v3 v4 g_now) fu8) v3 v4 x6 g_now) fu18 x15 x16 x17 = some (r0, w_g_costs)), W p l e rm_X1_leastCost s m args below meth c H locs 0 0 (zb_Q below D (some (.int r0)) (zb_G cI ad g_now g_mind g_taken g_isTaken g_letters g_letterCount g_told g_toldCount g_refusals w_g_costs g_gains g_seed) A args s) (F0 m 40 ls []) := by
            intro fu18
            induction fu18 with
            | zero => intro x15 x16 x17 H locs hP hD hS ls hl h; exact zb_no h
            | succ fu18 ih18 =>
              intro x15 x16 x17 H locs hP hD hS ls hl h
              replace h : zf_X1_leastCost_b40 (zl3 (zf_X1_leastCost_b22 v2 v3 v4 g_now) fu8) v3 v4 x6 g_now (zl3 (zf_X1_leastCost_b40 (zl3 (zf_X1_leastCost_b22 v2 v3 v4 g_now) fu8) v3 v4 x6 g_now) fu18) x15 x16 x17 = some (r0, w_g_costs) := h
              unfold zf_X1_leastCost_b40 at h
              have j65 : ∀ (x19 : Int32) (x20 : Int32) (x21 : Int32) (x22 : (Nat → Int32)) (H : Heap) (locs : List Loc) (hP : va_P D zb_cl (zb_G cI ad g_now g_mind g_taken g_isTaken g_letters g_letterCount g_told g_toldCount g_refusals x22 g_gains g_seed) H) (hD : va_D A (zb_G cI ad g_now g_mind g_taken g_isTaken g_letters g_letterCount g_told g_toldCount g_refusals x22 g_gains g_seed)) (hS : va_S A s.heap H locs) (ls : Array Slot) (hl : lv_has ls 9 [(0, .ref (ad 0)), (2, .int v2), (3, .int v3), (4, .int v4), (5, .int x19), (6, .int x6), (7, .int x20)]) (h : zf_X1_leastCost_j65 (zl3 (zf_X1_leastCost_b40 (zl3 (zf_X1_leastCost_b22 v2 v3 v4 g_now) fu8) v3 v4 x6 g_now) fu18) x19 x20 x21 x22 = some (r0, w_g_costs)), W p l e rm_X1_leastCost s m args below meth c H locs 0 0 (zb_Q below D (some (.int r0)) (zb_G cI ad g_now g_mind g_taken g_isTaken g_letters g_letterCount g_told g_toldCount g_refusals w_g_costs g_gains g_seed) A args s) (F0 m 65 ls [.int x21]) := by
                intro x19 x20 x21 x22 H locs hP hD hS ls hl h
                unfold zf_X1_leastCost_j65 at h
                refine lv_istore (lv' := [(8, .int x21), (0, .ref (ad 0)), (2, .int v2), (3, .int v3), (4, .int v4), (5, .int x19), (6, .int x6), (7, .int x20)]) hx hb dX1_leastCost_65 hl (by decide) rfl (fun ls hl => ?_)
                refine lv_aload_n hx hb dX1_leastCost_67 rfl (lv_at hl 1 rfl) ?_
                refine lv_iload hx hb dX1_leastCost_68 (lv_at hl 7 rfl) ?_
                obtain ⟨r23, g24, h⟩ := bo1 h
                refine zb_callV (As := [.int x20]) (rest := []) ⟨hx, hb, hml, hown, hts⟩ (zc_X1_costOf l D cI ad g_now g_mind g_taken g_isTaken g_letters g_letterCount g_told g_toldCount g_refusals x22 g_gains g_seed x20 r23 g24) (cwV 1 hts gX1_leastCost_X1_costOf rfl rfl rfl hd_X1_costOf ⟨Nat.le_of_ble_eq_true rfl, Nat.le_of_ble_eq_true rfl⟩) hK hP hD hS hA (zb_sG) (q0 := 0) rfl rfl rfl hl.1 rfl (Nat.le_of_ble_eq_true rfl) dX1_leastCost_70 ⟨Nat.le_refl _, Nat.le_refl _⟩ (fun H locs hP hD hS => ?_)
                refine lv_sipush (v := (1000 : Int32)) hx hb dX1_leastCost_73 (by decide) ?_
                refine lv_icmp_ge (tgt := 100) hx hb dX1_leastCost_76 (by decide) (fun c25 => ?_) (fun c25 => ?_)
                · replace h := it_t c25 h
                  refine lv_iinc (v := (x20 + (1 : Int32))) (lv' := [(7, .int (x20 + (1 : Int32))), (8, .int x21), (0, .ref (ad 0)), (2, .int v2), (3, .int v3), (4, .int v4), (5, .int x19), (6, .int x6)]) hx hb dX1_leastCost_100 hl (k := 7) rfl (by first | rfl | decide) (by decide) rfl (fun ls hl => ?_)
                  refine lv_goto (tgt := 40) hx hb dX1_leastCost_103 (by decide) ?_
                  exact ih18 x19 (x20 + (1 : Int32)) x22 _ _ hP hD hS ls (lv_sub hl [2, 3, 4, 5, 6, 7, 0] rfl) h
                · replace h := it_f c25 h
                  refine lv_aload_n hx hb dX1_leastCost_79 rfl (lv_at hl 1 rfl) ?_
                  refine lv_iload hx hb dX1_leastCost_80 (lv_at hl 7 rfl) ?_
                  refine lv_aload_n hx hb dX1_leastCost_82 rfl (lv_at hl 1 rfl) ?_
                  refine lv_iload hx hb dX1_leastCost_83 (lv_at hl 7 rfl) ?_
                  obtain ⟨r26, g27, h⟩ := bo1 h
                  refine zb_callV (As := [.int x20]) (rest := [.int x20, .ref (ad 0)]) ⟨hx, hb, hml, hown, hts⟩ (zc_X1_costOf l D cI ad g_now g_mind g_taken g_isTaken g_letters g_letterCount g_told g_toldCount g_refusals x22 g_gains g_seed x20 r26 g27) (cwV 1 hts gX1_leastCost_X1_costOf rfl rfl rfl hd_X1_costOf ⟨Nat.le_of_ble_eq_true rfl, Nat.le_of_ble_eq_true rfl⟩) hK hP hD hS hA (zb_sG) (q0 := 0) rfl rfl rfl hl.1 rfl (Nat.le_of_ble_eq_true rfl) dX1_leastCost_85 ⟨Nat.le_refl _, Nat.le_refl _⟩ (fun H locs hP hD hS => ?_)
                  refine lv_iload hx hb dX1_leastCost_88 (lv_at hl 0 rfl) ?_
                  refine lv_iadd hx hb dX1_leastCost_90 ?_
                  obtain ⟨r28, n29, g30, h⟩ := bo2 h
                  refine zb_callV (As := [.int x20, .int (r26 + x21)]) (rest := []) ⟨hx, hb, hml, hown, hts⟩ (zc_X1_spread l D cI ad g_now g_mind g_taken g_isTaken g_letters g_letterCount g_told g_toldCount g_refusals x22 g_gains g_seed x20 (r26 + x21) r28 n29 g30) (cwV 2 hts gX1_leastCost_X1_spread rfl rfl rfl hd_X1_spread ⟨Nat.le_of_ble_eq_true rfl, Nat.le_of_ble_eq_true rfl⟩) hK hP hD hS hA (zb_sG) (q0 := 0) rfl rfl rfl hl.1 rfl (Nat.le_of_ble_eq_true rfl) dX1_leastCost_91 ⟨Nat.le_refl _, Nat.le_refl _⟩ (fun H locs hP hD hS => ?_)
                  refine lv_if_eq (tgt := 100) hx hb dX1_leastCost_94 (by decide) (fun c31 => ?_) (fun c31 => ?_)
                  · replace h := it_t c31 h
                    refine lv_iinc (v := (x20 + (1 : Int32))) (lv' := [(7, .int (x20 + (1 : Int32))), (8, .int x21), (0, .ref (ad 0)), (2, .int v2), (3, .int v3), (4, .int v4), (5, .int x19), (6, .int x6)]) hx hb dX1_leastCost_100 hl (k := 7) rfl (by first | rfl | decide) (by decide) rfl (fun ls hl => ?_)
                    refine lv_goto (tgt := 40) hx hb dX1_leastCost_103 (by decide) ?_
                    exact ih18 x19 (x20 + (1 : Int32)) n29 _ _ hP hD hS ls (lv_sub hl [2, 3, 4, 5, 6, 7, 0] rfl) h
                  · replace h := it_f c31 h
                    refine lv_iconst (v := (1 : Int32)) hx hb dX1_leastCost_97 (by decide) ?_
                    refine lv_istore (lv' := [(5, .int (1 : Int32)), (8, .int x21), (0, .ref (ad 0)), (2, .int v2), (3, .int v3), (4, .int v4), (6, .int x6), (7, .int x20)]) hx hb dX1_leastCost_98 hl (by decide) rfl (fun ls hl => ?_)
                    refine lv_iinc (v := (x20 + (1 : Int32))) (lv' := [(7, .int (x20 + (1 : Int32))), (5, .int (1 : Int32)), (8, .int x21), (0, .ref (ad 0)), (2, .int v2), (3, .int v3), (4, .int v4), (6, .int x6)]) hx hb dX1_leastCost_100 hl (k := 7) rfl (by first | rfl | decide) (by decide) rfl (fun ls hl => ?_)
                    refine lv_goto (tgt := 40) hx hb dX1_leastCost_103 (by decide) ?_
                    exact ih18 (1 : Int32) (x20 + (1 : Int32)) n29 _ _ hP hD hS ls (lv_sub hl [3, 4, 5, 6, 1, 7, 0] rfl) h
              refine lv_iload hx hb dX1_leastCost_40 (lv_at hl 6 rfl) ?_
              refine lv_bipush (v := (30 : Int32)) hx hb dX1_leastCost_42 (by decide) ?_
              refine lv_icmp_ge (tgt := 106) hx hb dX1_leastCost_44 (by decide) (fun c32 => ?_) (fun c32 => ?_)
              · replace h := it_t c32 h
                refine lv_iinc (v := (x6 + (1 : Int32))) (lv' := [(6, .int (x6 + (1 : Int32))), (0, .ref (ad 0)), (2, .int v2), (3, .int v3), (4, .int v4), (5, .int x15), (7, .int x16)]) hx hb dX1_leastCost_106 hl (k := 5) rfl (by first | rfl | decide) (by decide) rfl (fun ls hl => ?_)
                refine lv_goto (tgt := 22) hx hb dX1_leastCost_109 (by decide) ?_
                exact ih8 x15 (x6 + (1 : Int32)) x17 _ _ hP hD hS ls (lv_sub hl [1, 2, 3, 4, 5, 0] rfl) h
              · replace h := it_f c32 h
                refine lv_aload_n hx hb dX1_leastCost_47 rfl (lv_at hl 0 rfl) ?_
                refine va_get (D := D) (ci := 1) (v := .ref (ad 1)) (C := RX1) (T := TX1) (N := 12) hx hb hts zi_X1_leastCost_X1 hown hK.1 hP 0 rfl rfl 0 (by decide) (hts _ zk_X1_leastCost_1) (fun _ h9 => h9) rfl dX1_leastCost_48 ?_
                refine lv_iload hx hb dX1_leastCost_51 (lv_at hl 6 rfl) ?_
                obtain ⟨r33, g34, h⟩ := bo1 h
                refine zb_callV (As := [.int x16]) (rest := []) ⟨hx, hb, hml, hown, hts⟩ (zc_X0_wetOf l D cI (ad 1) (ad 2) (ad 3) (ad 4) (ad 5) (ad 6) (ad 7) g_now x16 r33 g34) (cwV 1 hts gX1_leastCost_X0_wetOf rfl rfl rfl hd_X0_wetOf ⟨Nat.le_of_ble_eq_true rfl, Nat.le_of_ble_eq_true rfl⟩) hK hP hD hS hA (zb_cGn) (q0 := 0) rfl rfl rfl hl.1 rfl (Nat.le_of_ble_eq_true rfl) dX1_leastCost_53 ⟨Nat.le_refl _, Nat.le_refl _⟩ (fun H locs hP hD hS => ?_)
                refine lv_if_le (tgt := 63) hx hb dX1_leastCost_56 (by decide) (fun c35 => ?_) (fun c35 => ?_)
                · replace h := it_t c35 h
                  refine lv_iload hx hb dX1_leastCost_63 (lv_at hl 3 rfl) ?_
                  exact j65 x15 x16 v4 x17 _ _ hP hD hS ls (lv_sub hl [0, 1, 2, 3, 4, 5, 6] rfl) h
                · replace h := it_f c35 h
                  refine lv_iload_n hx hb dX1_leastCost_59 rfl (lv_at hl 2 rfl) ?_
                  refine lv_goto (tgt := 65) hx hb dX1_leastCost_60 (by decide) ?_
                  exact j65 x15 x16 v3 x17 _ _ hP hD hS ls (lv_sub hl [0, 1, 2, 3, 4, 5, 6] rfl) h
          exact lp18 zb_FU (0 : Int32) (0 : Int32) x7 _ _ hP hD hS ls (lv_sub hl [2, 3, 4, 5, 1, 6, 0] rfl) h
  exact lp8 zb_FU (1 : Int32) (0 : Int32) n3 _ _ hP hD hS ls (lv_sub hl [2, 4, 5, 6, 1, 0] rfl) h
abbrev rm_X1_way : Room := { frames := 3, cells := 0, slots := 0, locals := 76 }
theorem hd_X1_way : yX1_way.cls = RX1 ∧ yX1_way.cls ≠ "java/lang/invoke/MethodHandle" ∧ yX1_way.cls ≠ "java/lang/invoke/VarHandle" ∧ (parseMethodDescriptor yX1_way.desc).map (fun d => d.parameters.length) = some 3 := by decide +kernel
set_option maxHeartbeats 4000000 in
set_option maxRecDepth 100000 in
theorem zc_X1_way (l : Launch) (D : va_G) (cI : ClassId) (ad : Nat → Nat) (g_now : BT) (g_mind : BT) (g_taken : BT) (g_isTaken : Int32) (g_letters : (Nat → Int32)) (g_letterCount : Int32) (g_told : (Nat → Int32)) (g_toldCount : Int32) (g_refusals : (Nat → Int32)) (g_costs : (Nat → Int32)) (g_gains : (Nat → Int32)) (g_seed : Int32) (v1 : Int32) (v2 : Int32) (v3 : Int32) (r0 : Int32) (w_g_refusals : (Nat → Int32)) (w_g_costs : (Nat → Int32)) (h : zf_X1_way g_now g_refusals g_costs v1 v2 v3 = some (r0, w_g_refusals, w_g_costs)) : Cn l D cI yX1_way wsX1_way rm_X1_way [.ref (ad 0), .int v1, .int v2, .int v3] (zb_G cI ad g_now g_mind g_taken g_isTaken g_letters g_letterCount g_told g_toldCount g_refusals g_costs g_gains g_seed) (some (.int r0)) (zb_G cI ad g_now g_mind g_taken g_isTaken g_letters g_letterCount g_told g_toldCount w_g_refusals w_g_costs g_gains g_seed) := by
  refine zb_ofW (cc := cX1_way) (maxL := 5) (ret := (some .int)) (by decide) rfl (Nat.le_of_ble_eq_true rfl) ?_
  intro p e s m args below meth c A ls hx hb hr hml hts hown hlk hK hP hD hA hl
  have hS : va_S A s.heap s.heap [] := va_S.rf
  have hl : lv_has ls 5 [(0, .ref (ad 0)), (1, .int v1), (2, .int v2), (3, .int v3)] := hl
  unfold zf_X1_way at h
  refine lv_iload_n hx hb dX1_way_0 rfl (lv_at hl 1 rfl) ?_
  obtain ⟨r1, g2, h⟩ := bo1 h
  refine zb_callS (As := [.int v1]) (rest := []) ⟨hx, hb, hml, hown, hts⟩ (zc_X1_isNode l D cI v1 r1 g2) (va_cwS 1 hts gX1_way_X1_isNode rfl rfl rfl hd_X1_isNode.2 ⟨Nat.le_of_ble_eq_true rfl, Nat.le_of_ble_eq_true rfl⟩) hK hP hD hS hA (zb_none _) rfl hl.1 rfl (Nat.le_of_ble_eq_true rfl) dX1_way_1 ⟨Nat.le_refl _, Nat.le_refl _⟩ (fun H locs hP hD hS => ?_)
  refine lv_if_eq (tgt := 14) hx hb dX1_way_4 (by decide) (fun c3 => ?_) (fun c3 => ?_)
  · replace h := it_t c3 h
    refine lv_aload_n hx hb dX1_way_14 rfl (lv_at hl 0 rfl) ?_
    refine lv_iconst (v := ((-1) : Int32)) hx hb dX1_way_15 (by decide) ?_
    obtain ⟨r4, n5, g6, h⟩ := bo2 h
    refine zb_callV (As := [.int ((-1) : Int32)]) (rest := []) ⟨hx, hb, hml, hown, hts⟩ (zc_X1_refuse l D cI ad g_now g_mind g_taken g_isTaken g_letters g_letterCount g_told g_toldCount g_refusals g_costs g_gains g_seed ((-1) : Int32) r4 n5 g6) (cwV 1 hts gX1_way_X1_refuse rfl rfl rfl hd_X1_refuse ⟨Nat.le_of_ble_eq_true rfl, Nat.le_of_ble_eq_true rfl⟩) hK hP hD hS hA (zb_sG) (q0 := 0) rfl rfl rfl hl.1 rfl (Nat.le_of_ble_eq_true rfl) dX1_way_16 ⟨Nat.le_refl _, Nat.le_refl _⟩ (fun H locs hP hD hS => ?_)
    obtain ⟨rfl, rfl, rfl⟩ := re3 h
    exact zb_iret hx hb hr hlk hP hS dX1_way_19
  · replace h := it_f c3 h
    refine lv_iload_n hx hb dX1_way_7 rfl (lv_at hl 2 rfl) ?_
    obtain ⟨r7, g8, h⟩ := bo1 h
    refine zb_callS (As := [.int v2]) (rest := []) ⟨hx, hb, hml, hown, hts⟩ (zc_X1_isNode l D cI v2 r7 g8) (va_cwS 1 hts gX1_way_X1_isNode rfl rfl rfl hd_X1_isNode.2 ⟨Nat.le_of_ble_eq_true rfl, Nat.le_of_ble_eq_true rfl⟩) hK hP hD hS hA (zb_none _) rfl hl.1 rfl (Nat.le_of_ble_eq_true rfl) dX1_way_8 ⟨Nat.le_refl _, Nat.le_refl _⟩ (fun H locs hP hD hS => ?_)
    refine lv_if_ne (tgt := 20) hx hb dX1_way_11 (by decide) (fun c9 => ?_) (fun c9 => ?_)
    · replace h := it_f c9 h
      refine lv_iload_n hx hb dX1_way_20 rfl (lv_at hl 3 rfl) ?_
      refine lv_if_lt (tgt := 29) hx hb dX1_way_21 (by decide) (fun c10 => ?_) (fun c10 => ?_)
      · replace h := it_t c10 h
        refine lv_aload_n hx hb dX1_way_29 rfl (lv_at hl 0 rfl) ?_
        refine lv_bipush (v := ((-2) : Int32)) hx hb dX1_way_30 (by decide) ?_
        obtain ⟨r11, n12, g13, h⟩ := bo2 h
        refine zb_callV (As := [.int ((-2) : Int32)]) (rest := []) ⟨hx, hb, hml, hown, hts⟩ (zc_X1_refuse l D cI ad g_now g_mind g_taken g_isTaken g_letters g_letterCount g_told g_toldCount g_refusals g_costs g_gains g_seed ((-2) : Int32) r11 n12 g13) (cwV 1 hts gX1_way_X1_refuse rfl rfl rfl hd_X1_refuse ⟨Nat.le_of_ble_eq_true rfl, Nat.le_of_ble_eq_true rfl⟩) hK hP hD hS hA (zb_sG) (q0 := 0) rfl rfl rfl hl.1 rfl (Nat.le_of_ble_eq_true rfl) dX1_way_32 ⟨Nat.le_refl _, Nat.le_refl _⟩ (fun H locs hP hD hS => ?_)
        obtain ⟨rfl, rfl, rfl⟩ := re3 h
        exact zb_iret hx hb hr hlk hP hS dX1_way_35
      · replace h := it_f c10 h
        refine lv_iload_n hx hb dX1_way_24 rfl (lv_at hl 3 rfl) ?_
        refine lv_iconst (v := (1 : Int32)) hx hb dX1_way_25 (by decide) ?_
        refine lv_icmp_le (tgt := 36) hx hb dX1_way_26 (by decide) (fun c14 => ?_) (fun c14 => ?_)
        · replace h := it_t c14 h
          refine lv_iload_n hx hb dX1_way_36 rfl (lv_at hl 3 rfl) ?_
          refine lv_if_ne (tgt := 53) hx hb dX1_way_37 (by decide) (fun c15 => ?_) (fun c15 => ?_)
          · replace h := it_f c15 h
            refine lv_aload_n hx hb dX1_way_53 rfl (lv_at hl 0 rfl) ?_
            refine lv_iload_n hx hb dX1_way_54 rfl (lv_at hl 1 rfl) ?_
            refine lv_iload_n hx hb dX1_way_55 rfl (lv_at hl 2 rfl) ?_
            refine lv_iconst (v := (0 : Int32)) hx hb dX1_way_56 (by decide) ?_
            refine lv_iconst (v := (1 : Int32)) hx hb dX1_way_57 (by decide) ?_
            obtain ⟨r16, n17, g18, h⟩ := bo2 h
            refine zb_callV (As := [.int v1, .int v2, .int (0 : Int32), .int (1 : Int32)]) (rest := []) ⟨hx, hb, hml, hown, hts⟩ (zc_X1_leastCost l D cI ad g_now g_mind g_taken g_isTaken g_letters g_letterCount g_told g_toldCount g_refusals g_costs g_gains g_seed v1 v2 (0 : Int32) (1 : Int32) r16 n17 g18) (cwV 4 hts gX1_way_X1_leastCost rfl rfl rfl hd_X1_leastCost ⟨Nat.le_of_ble_eq_true rfl, Nat.le_of_ble_eq_true rfl⟩) hK hP hD hS hA (zb_sG) (q0 := 0) rfl rfl rfl hl.1 rfl (Nat.le_of_ble_eq_true rfl) dX1_way_58 ⟨Nat.le_refl _, Nat.le_refl _⟩ (fun H locs hP hD hS => ?_)
            refine lv_istore (lv' := [(4, .int r16), (0, .ref (ad 0)), (1, .int v1), (2, .int v2), (3, .int v3)]) hx hb dX1_way_61 hl (by decide) rfl (fun ls hl => ?_)
            refine lv_iload hx hb dX1_way_63 (lv_at hl 0 rfl) ?_
            refine lv_sipush (v := (1000 : Int32)) hx hb dX1_way_65 (by decide) ?_
            refine lv_icmp_ge (tgt := 76) hx hb dX1_way_68 (by decide) (fun c19 => ?_) (fun c19 => ?_)
            · replace h := it_t c19 h
              refine lv_bipush (v := ((-9) : Int32)) hx hb dX1_way_76 (by decide) ?_
              obtain ⟨rfl, rfl, rfl⟩ := re3 h
              exact zb_iret hx hb hr hlk hP hS dX1_way_78
            · replace h := it_f c19 h
              refine lv_iload hx hb dX1_way_71 (lv_at hl 0 rfl) ?_
              refine lv_goto (tgt := 78) hx hb dX1_way_73 (by decide) ?_
              obtain ⟨rfl, rfl, rfl⟩ := re3 h
              exact zb_iret hx hb hr hlk hP hS dX1_way_78
          · replace h := it_t c15 h
            refine lv_aload_n hx hb dX1_way_40 rfl (lv_at hl 0 rfl) ?_
            refine lv_iload_n hx hb dX1_way_41 rfl (lv_at hl 1 rfl) ?_
            refine lv_iload_n hx hb dX1_way_42 rfl (lv_at hl 2 rfl) ?_
            refine lv_iconst (v := (1 : Int32)) hx hb dX1_way_43 (by decide) ?_
            refine lv_sipush (v := (1000 : Int32)) hx hb dX1_way_44 (by decide) ?_
            obtain ⟨r20, n21, g22, h⟩ := bo2 h
            refine zb_callV (As := [.int v1, .int v2, .int (1 : Int32), .int (1000 : Int32)]) (rest := []) ⟨hx, hb, hml, hown, hts⟩ (zc_X1_leastCost l D cI ad g_now g_mind g_taken g_isTaken g_letters g_letterCount g_told g_toldCount g_refusals g_costs g_gains g_seed v1 v2 (1 : Int32) (1000 : Int32) r20 n21 g22) (cwV 4 hts gX1_way_X1_leastCost rfl rfl rfl hd_X1_leastCost ⟨Nat.le_of_ble_eq_true rfl, Nat.le_of_ble_eq_true rfl⟩) hK hP hD hS hA (zb_sG) (q0 := 0) rfl rfl rfl hl.1 rfl (Nat.le_of_ble_eq_true rfl) dX1_way_47 ⟨Nat.le_refl _, Nat.le_refl _⟩ (fun H locs hP hD hS => ?_)
            refine lv_goto (tgt := 61) hx hb dX1_way_50 (by decide) ?_
            refine lv_istore (lv' := [(4, .int r20), (0, .ref (ad 0)), (1, .int v1), (2, .int v2), (3, .int v3)]) hx hb dX1_way_61 hl (by decide) rfl (fun ls hl => ?_)
            refine lv_iload hx hb dX1_way_63 (lv_at hl 0 rfl) ?_
            refine lv_sipush (v := (1000 : Int32)) hx hb dX1_way_65 (by decide) ?_
            refine lv_icmp_ge (tgt := 76) hx hb dX1_way_68 (by decide) (fun c23 => ?_) (fun c23 => ?_)
            · replace h := it_t c23 h
              refine lv_bipush (v := ((-9) : Int32)) hx hb dX1_way_76 (by decide) ?_
              obtain ⟨rfl, rfl, rfl⟩ := re3 h
              exact zb_iret hx hb hr hlk hP hS dX1_way_78
            · replace h := it_f c23 h
              refine lv_iload hx hb dX1_way_71 (lv_at hl 0 rfl) ?_
              refine lv_goto (tgt := 78) hx hb dX1_way_73 (by decide) ?_
              obtain ⟨rfl, rfl, rfl⟩ := re3 h
              exact zb_iret hx hb hr hlk hP hS dX1_way_78
        · replace h := it_f c14 h
          refine lv_aload_n hx hb dX1_way_29 rfl (lv_at hl 0 rfl) ?_
          refine lv_bipush (v := ((-2) : Int32)) hx hb dX1_way_30 (by decide) ?_
          obtain ⟨r24, n25, g26, h⟩ := bo2 h
          refine zb_callV (As := [.int ((-2) : Int32)]) (rest := []) ⟨hx, hb, hml, hown, hts⟩ (zc_X1_refuse l D cI ad g_now g_mind g_taken g_isTaken g_letters g_letterCount g_told g_toldCount g_refusals g_costs g_gains g_seed ((-2) : Int32) r24 n25 g26) (cwV 1 hts gX1_way_X1_refuse rfl rfl rfl hd_X1_refuse ⟨Nat.le_of_ble_eq_true rfl, Nat.le_of_ble_eq_true rfl⟩) hK hP hD hS hA (zb_sG) (q0 := 0) rfl rfl rfl hl.1 rfl (Nat.le_of_ble_eq_true rfl) dX1_way_32 ⟨Nat.le_refl _, Nat.le_refl _⟩ (fun H locs hP hD hS => ?_)
          obtain ⟨rfl, rfl, rfl⟩ := re3 h
          exact zb_iret hx hb hr hlk hP hS dX1_way_35
    · replace h := it_t c9 h
      refine lv_aload_n hx hb dX1_way_14 rfl (lv_at hl 0 rfl) ?_
      refine lv_iconst (v := ((-1) : Int32)) hx hb dX1_way_15 (by decide) ?_
      obtain ⟨r27, n28, g29, h⟩ := bo2 h
      refine zb_callV (As := [.int ((-1) : Int32)]) (rest := []) ⟨hx, hb, hml, hown, hts⟩ (zc_X1_refuse l D cI ad g_now g_mind g_taken g_isTaken g_letters g_letterCount g_told g_toldCount g_refusals g_costs g_gains g_seed ((-1) : Int32) r27 n28 g29) (cwV 1 hts gX1_way_X1_refuse rfl rfl rfl hd_X1_refuse ⟨Nat.le_of_ble_eq_true rfl, Nat.le_of_ble_eq_true rfl⟩) hK hP hD hS hA (zb_sG) (q0 := 0) rfl rfl rfl hl.1 rfl (Nat.le_of_ble_eq_true rfl) dX1_way_16 ⟨Nat.le_refl _, Nat.le_refl _⟩ (fun H locs hP hD hS => ?_)
      obtain ⟨rfl, rfl, rfl⟩ := re3 h
      exact zb_iret hx hb hr hlk hP hS dX1_way_19
abbrev rm_X1_begin : Room := { frames := 4, cells := 0, slots := 0, locals := 96 }
theorem hd_X1_begin : yX1_begin.cls = RX1 ∧ yX1_begin.cls ≠ "java/lang/invoke/MethodHandle" ∧ yX1_begin.cls ≠ "java/lang/invoke/VarHandle" ∧ (parseMethodDescriptor yX1_begin.desc).map (fun d => d.parameters.length) = some 3 := by decide +kernel
theorem zi_X1_begin_X1 : ∀ w ∈ wsX10, w ∈ wsX1_begin := fun _ h => List.mem_cons_of_mem _ (List.mem_append_left _ (List.mem_append_right _ h))
theorem zk_X1_begin_0 : Cond.fieldLink RX1 10 "GroutingIsFollowed" "now" "LGroutingIsFollowed$Bath;" ∈ wsX1_begin := by decide +kernel
theorem zk_X1_begin_1 : Cond.fieldLink RX1 16 "GroutingIsFollowed" "mind" "LGroutingIsFollowed$Bath;" ∈ wsX1_begin := by decide +kernel
set_option maxHeartbeats 4000000 in
set_option maxRecDepth 100000 in
theorem zc_X1_begin (l : Launch) (D : va_G) (cI : ClassId) (ad : Nat → Nat) (g_now : BT) (g_mind : BT) (g_taken : BT) (g_isTaken : Int32) (g_letters : (Nat → Int32)) (g_letterCount : Int32) (g_told : (Nat → Int32)) (g_toldCount : Int32) (g_refusals : (Nat → Int32)) (g_costs : (Nat → Int32)) (g_gains : (Nat → Int32)) (g_seed : Int32) (v1 : Int32) (v2 : Int32) (v3 : Int32) (r0 : Int32) (w_g_mind : BT) (w_g_refusals : (Nat → Int32)) (h : zf_X1_begin g_now g_mind g_refusals v1 v2 v3 = some (r0, w_g_mind, w_g_refusals)) : Cn l D cI yX1_begin wsX1_begin rm_X1_begin [.ref (ad 0), .int v1, .int v2, .int v3] (zb_G cI ad g_now g_mind g_taken g_isTaken g_letters g_letterCount g_told g_toldCount g_refusals g_costs g_gains g_seed) (some (.int r0)) (zb_G cI ad g_now w_g_mind g_taken g_isTaken g_letters g_letterCount g_told g_toldCount w_g_refusals g_costs g_gains g_seed) := by
  refine zb_ofW (cc := cX1_begin) (maxL := 9) (ret := (some .int)) (by decide) rfl (Nat.le_of_ble_eq_true rfl) ?_
  intro p e s m args below meth c A ls hx hb hr hml hts hown hlk hK hP hD hA hl
  have hS : va_S A s.heap s.heap [] := va_S.rf
  have hl : lv_has ls 9 [(0, .ref (ad 0)), (1, .int v1), (2, .int v2), (3, .int v3)] := hl
  unfold zf_X1_begin at h
  have j123 : ∀ (x1 : Int32) (x2 : Int32) (x3 : BT) (x4 : (Nat → Int32)) (H : Heap) (locs : List Loc) (hP : va_P D zb_cl (zb_G cI ad g_now x3 g_taken g_isTaken g_letters g_letterCount g_told g_toldCount x4 g_costs g_gains g_seed) H) (hD : va_D A (zb_G cI ad g_now x3 g_taken g_isTaken g_letters g_letterCount g_told g_toldCount x4 g_costs g_gains g_seed)) (hS : va_S A s.heap H locs) (ls : Array Slot) (hl : lv_has ls 9 [(3, .int v3), (5, .int x1), (6, .int x2)]) (h : zf_X1_begin_j123 v3 x1 x2 x3 x4 = some (r0, w_g_mind, w_g_refusals)), W p l e rm_X1_begin s m args below meth c H locs 0 0 (zb_Q below D (some (.int r0)) (zb_G cI ad g_now w_g_mind g_taken g_isTaken g_letters g_letterCount g_told g_toldCount w_g_refusals g_costs g_gains g_seed) A args s) (F0 m 123 ls []) := by
    intro x1 x2 x3 x4 H locs hP hD hS ls hl h
    unfold zf_X1_begin_j123 at h
    refine lv_iload_n hx hb dX1_begin_123 rfl (lv_at hl 0 rfl) ?_
    refine lv_if_ne (tgt := 132) hx hb dX1_begin_124 (by decide) (fun c5 => ?_) (fun c5 => ?_)
    · replace h := it_f c5 h
      refine lv_iload hx hb dX1_begin_132 (lv_at hl 2 rfl) ?_
      obtain ⟨rfl, rfl, rfl⟩ := re3 h
      exact zb_iret hx hb hr hlk hP hS dX1_begin_134
    · replace h := it_t c5 h
      refine lv_iload hx hb dX1_begin_127 (lv_at hl 1 rfl) ?_
      refine lv_goto (tgt := 134) hx hb dX1_begin_129 (by decide) ?_
      obtain ⟨rfl, rfl, rfl⟩ := re3 h
      exact zb_iret hx hb hr hlk hP hS dX1_begin_134
  refine lv_aload_n hx hb dX1_begin_0 rfl (lv_at hl 0 rfl) ?_
  refine va_get (D := D) (ci := 1) (v := .ref (ad 1)) (C := RX1) (T := TX1) (N := 12) hx hb hts zi_X1_begin_X1 hown hK.1 hP 0 rfl rfl 0 (by decide) (hts _ zk_X1_begin_0) (fun _ h9 => h9) rfl dX1_begin_1 ?_
  refine lv_iload_n hx hb dX1_begin_4 rfl (lv_at hl 1 rfl) ?_
  obtain ⟨r6, g7, h⟩ := bo1 h
  refine zb_callV (As := [.int v1]) (rest := []) ⟨hx, hb, hml, hown, hts⟩ (zc_X0_has l D cI (ad 1) (ad 2) (ad 3) (ad 4) (ad 5) (ad 6) (ad 7) g_now v1 r6 g7) (cwV 1 hts gX1_begin_X0_has rfl rfl rfl hd_X0_has ⟨Nat.le_of_ble_eq_true rfl, Nat.le_of_ble_eq_true rfl⟩) hK hP hD hS hA (zb_cGn) (q0 := 0) rfl rfl rfl hl.1 rfl (Nat.le_of_ble_eq_true rfl) dX1_begin_5 ⟨Nat.le_refl _, Nat.le_refl _⟩ (fun H locs hP hD hS => ?_)
  refine lv_if_ne (tgt := 17) hx hb dX1_begin_8 (by decide) (fun c8 => ?_) (fun c8 => ?_)
  · replace h := it_f c8 h
    refine lv_iload_n hx hb dX1_begin_17 rfl (lv_at hl 2 rfl) ?_
    refine lv_iconst (v := (0 : Int32)) hx hb dX1_begin_18 (by decide) ?_
    refine lv_bipush (v := (30 : Int32)) hx hb dX1_begin_19 (by decide) ?_
    obtain ⟨r9, g10, h⟩ := bo1 h
    refine zb_callS (As := [.int v2, .int (0 : Int32), .int (30 : Int32)]) (rest := []) ⟨hx, hb, hml, hown, hts⟩ (zc_X1_outside l D cI v2 (0 : Int32) (30 : Int32) r9 g10) (va_cwS 3 hts gX1_begin_X1_outside rfl rfl rfl hd_X1_outside.2 ⟨Nat.le_of_ble_eq_true rfl, Nat.le_of_ble_eq_true rfl⟩) hK hP hD hS hA (zb_none _) rfl hl.1 rfl (Nat.le_of_ble_eq_true rfl) dX1_begin_21 ⟨Nat.le_refl _, Nat.le_refl _⟩ (fun H locs hP hD hS => ?_)
    refine lv_istore (lv' := [(4, .int r9), (0, .ref (ad 0)), (1, .int v1), (2, .int v2), (3, .int v3)]) hx hb dX1_begin_24 hl (by decide) rfl (fun ls hl => ?_)
    refine lv_iload hx hb dX1_begin_26 (lv_at hl 0 rfl) ?_
    refine lv_if_eq (tgt := 38) hx hb dX1_begin_28 (by decide) (fun c11 => ?_) (fun c11 => ?_)
    · replace h := it_t c11 h
      refine lv_iload_n hx hb dX1_begin_38 rfl (lv_at hl 4 rfl) ?_
      refine lv_if_lt (tgt := 47) hx hb dX1_begin_39 (by decide) (fun c12 => ?_) (fun c12 => ?_)
      · replace h := it_t c12 h
        refine lv_aload_n hx hb dX1_begin_47 rfl (lv_at hl 1 rfl) ?_
        refine lv_bipush (v := ((-2) : Int32)) hx hb dX1_begin_48 (by decide) ?_
        obtain ⟨r13, n14, g15, h⟩ := bo2 h
        refine zb_callV (As := [.int ((-2) : Int32)]) (rest := []) ⟨hx, hb, hml, hown, hts⟩ (zc_X1_refuse l D cI ad g_now g_mind g_taken g_isTaken g_letters g_letterCount g_told g_toldCount g_refusals g_costs g_gains g_seed ((-2) : Int32) r13 n14 g15) (cwV 1 hts gX1_begin_X1_refuse rfl rfl rfl hd_X1_refuse ⟨Nat.le_of_ble_eq_true rfl, Nat.le_of_ble_eq_true rfl⟩) hK hP hD hS hA (zb_sG) (q0 := 0) rfl rfl rfl hl.1 rfl (Nat.le_of_ble_eq_true rfl) dX1_begin_50 ⟨Nat.le_refl _, Nat.le_refl _⟩ (fun H locs hP hD hS => ?_)
        obtain ⟨rfl, rfl, rfl⟩ := re3 h
        exact zb_iret hx hb hr hlk hP hS dX1_begin_53
      · replace h := it_f c12 h
        refine lv_iload_n hx hb dX1_begin_42 rfl (lv_at hl 4 rfl) ?_
        refine lv_iconst (v := (1 : Int32)) hx hb dX1_begin_43 (by decide) ?_
        refine lv_icmp_le (tgt := 54) hx hb dX1_begin_44 (by decide) (fun c16 => ?_) (fun c16 => ?_)
        · replace h := it_t c16 h
          refine lv_iconst (v := (0 : Int32)) hx hb dX1_begin_54 (by decide) ?_
          refine lv_istore (lv' := [(5, .int (0 : Int32)), (4, .int r9), (0, .ref (ad 0)), (1, .int v1), (2, .int v2), (3, .int v3)]) hx hb dX1_begin_55 hl (by decide) rfl (fun ls hl => ?_)
          refine lv_iconst (v := (0 : Int32)) hx hb dX1_begin_57 (by decide) ?_
          refine lv_istore (lv' := [(6, .int (0 : Int32)), (5, .int (0 : Int32)), (4, .int r9), (0, .ref (ad 0)), (1, .int v1), (2, .int v2), (3, .int v3)]) hx hb dX1_begin_58 hl (by decide) rfl (fun ls hl => ?_)
          refine lv_iconst (v := (0 : Int32)) hx hb dX1_begin_60 (by decide) ?_
          refine lv_istore (lv' := [(7, .int (0 : Int32)), (6, .int (0 : Int32)), (5, .int (0 : Int32)), (4, .int r9), (0, .ref (ad 0)), (1, .int v1), (2, .int v2), (3, .int v3)]) hx hb dX1_begin_61 hl (by decide) rfl (fun ls hl => ?_)
          have lp21 : ∀ (fu21 : Nat) (x17 : Int32) (x18 : Int32) (x19 : Int32) (x20 : BT) (H : Heap) (locs : List Loc) (hP : va_P D zb_cl (zb_G cI ad g_now x20 g_taken g_isTaken g_letters g_letterCount g_told g_toldCount g_refusals g_costs g_gains g_seed) H) (hD : va_D A (zb_G cI ad g_now x20 g_taken g_isTaken g_letters g_letterCount g_told g_toldCount g_refusals g_costs g_gains g_seed)) (hS : va_S A s.heap H locs) (ls : Array Slot) (hl : lv_has ls 9 [(0, .ref (ad 0)), (1, .int v1), (2, .int v2), (3, .int v3), (5, .int x17), (6, .int x18), (7, .int x19)]) (h : zl4 (zf_X1_begin_b63 v1 v2 v3 g_now g_refusals) fu21 x17 x18 x19 x20 = some (r0, w_g_mind, w_g_refusals)), W p l e rm_X1_begin s m args below meth c H locs 0 0 (zb_Q below D (some (.int r0)) (zb_G cI ad g_now w_g_mind g_taken g_isTaken g_letters g_letterCount g_told g_toldCount w_g_refusals g_costs g_gains g_seed) A args s) (F0 m 63 ls []) := by
            intro fu21
            induction fu21 with
            | zero => intro x17 x18 x19 x20 H locs hP hD hS ls hl h; exact zb_no h
            | succ fu21 ih21 =>
              intro x17 x18 x19 x20 H locs hP hD hS ls hl h
              replace h : zf_X1_begin_b63 v1 v2 v3 g_now g_refusals (zl4 (zf_X1_begin_b63 v1 v2 v3 g_now g_refusals) fu21) x17 x18 x19 x20 = some (r0, w_g_mind, w_g_refusals) := h
              unfold zf_X1_begin_b63 at h
              refine lv_iload hx hb dX1_begin_63 (lv_at hl 6 rfl) ?_
              refine lv_bipush (v := (30 : Int32)) hx hb dX1_begin_65 (by decide) ?_
              refine lv_icmp_ge (tgt := 123) hx hb dX1_begin_67 (by decide) (fun c22 => ?_) (fun c22 => ?_)
              · replace h := it_t c22 h
                exact j123 x17 x18 x20 g_refusals _ _ hP hD hS ls (lv_sub hl [3, 4, 5] rfl) h
              · replace h := it_f c22 h
                refine lv_aload_n hx hb dX1_begin_70 rfl (lv_at hl 0 rfl) ?_
                refine va_get (D := D) (ci := 1) (v := .ref (ad 8)) (C := RX1) (T := TX1) (N := 12) hx hb hts zi_X1_begin_X1 hown hK.1 hP 0 rfl rfl 1 (by decide) (hts _ zk_X1_begin_1) (fun _ h9 => h9) rfl dX1_begin_71 ?_
                refine lv_aload_n hx hb dX1_begin_74 rfl (lv_at hl 0 rfl) ?_
                refine va_get (D := D) (ci := 1) (v := .ref (ad 1)) (C := RX1) (T := TX1) (N := 12) hx hb hts zi_X1_begin_X1 hown hK.1 hP 0 rfl rfl 0 (by decide) (hts _ zk_X1_begin_0) (fun _ h9 => h9) rfl dX1_begin_75 ?_
                obtain ⟨n23, g24, h⟩ := bo1 h
                refine zb_callV (As := [.ref (ad 1)]) (rest := []) ⟨hx, hb, hml, hown, hts⟩ (zc_X0_becomes l D cI (ad 8) (ad 9) (ad 10) (ad 11) (ad 12) (ad 13) (ad 14) (ad 1) (ad 2) (ad 3) (ad 4) (ad 5) (ad 6) (ad 7) x20 g_now n23 g24) (cwV 1 hts gX1_begin_X0_becomes rfl rfl rfl hd_X0_becomes ⟨Nat.le_of_ble_eq_true rfl, Nat.le_of_ble_eq_true rfl⟩) hK hP hD hS hA (zb_cGmn) (q0 := 0) rfl rfl rfl hl.1 rfl (Nat.le_of_ble_eq_true rfl) dX1_begin_78 ⟨Nat.le_refl _, Nat.le_refl _⟩ (fun H locs hP hD hS => ?_)
                refine lv_aload_n hx hb dX1_begin_81 rfl (lv_at hl 0 rfl) ?_
                refine va_get (D := D) (ci := 1) (v := .ref (ad 8)) (C := RX1) (T := TX1) (N := 12) hx hb hts zi_X1_begin_X1 hown hK.1 hP 0 rfl rfl 1 (by decide) (hts _ zk_X1_begin_1) (fun _ h9 => h9) rfl dX1_begin_82 ?_
                refine lv_iload_n hx hb dX1_begin_85 rfl (lv_at hl 1 rfl) ?_
                refine lv_iload hx hb dX1_begin_86 (lv_at hl 6 rfl) ?_
                obtain ⟨n25, g26, h⟩ := bo1 h
                refine zb_callV (As := [.int v1, .int x19]) (rest := []) ⟨hx, hb, hml, hown, hts⟩ (zc_X0_putPlace l D cI (ad 8) (ad 9) (ad 10) (ad 11) (ad 12) (ad 13) (ad 14) n23 v1 x19 n25 g26) (cwV 2 hts gX1_begin_X0_putPlace rfl rfl rfl hd_X0_putPlace ⟨Nat.le_of_ble_eq_true rfl, Nat.le_of_ble_eq_true rfl⟩) hK hP hD hS hA (zb_cGm) (q0 := 0) rfl rfl rfl hl.1 rfl (Nat.le_of_ble_eq_true rfl) dX1_begin_88 ⟨Nat.le_refl _, Nat.le_refl _⟩ (fun H locs hP hD hS => ?_)
                refine lv_aload_n hx hb dX1_begin_91 rfl (lv_at hl 0 rfl) ?_
                refine va_get (D := D) (ci := 1) (v := .ref (ad 8)) (C := RX1) (T := TX1) (N := 12) hx hb hts zi_X1_begin_X1 hown hK.1 hP 0 rfl rfl 1 (by decide) (hts _ zk_X1_begin_1) (fun _ h9 => h9) rfl dX1_begin_92 ?_
                refine lv_iload_n hx hb dX1_begin_95 rfl (lv_at hl 1 rfl) ?_
                refine lv_iload_n hx hb dX1_begin_96 rfl (lv_at hl 2 rfl) ?_
                obtain ⟨r27, n28, g29, h⟩ := bo2 h
                refine zb_callV (As := [.int v1, .int v2]) (rest := []) ⟨hx, hb, hml, hown, hts⟩ (zc_X0_visitsIn l D cI (ad 8) (ad 9) (ad 10) (ad 11) (ad 12) (ad 13) (ad 14) n25 v1 v2 r27 n28 g29) (cwV 2 hts gX1_begin_X0_visitsIn rfl rfl rfl hd_X0_visitsIn ⟨Nat.le_of_ble_eq_true rfl, Nat.le_of_ble_eq_true rfl⟩) hK hP hD hS hA (zb_cGm) (q0 := 0) rfl rfl rfl hl.1 rfl (Nat.le_of_ble_eq_true rfl) dX1_begin_97 ⟨Nat.le_refl _, Nat.le_refl _⟩ (fun H locs hP hD hS => ?_)
                refine lv_istore (lv' := [(8, .int r27), (0, .ref (ad 0)), (1, .int v1), (2, .int v2), (3, .int v3), (5, .int x17), (6, .int x18), (7, .int x19)]) hx hb dX1_begin_100 hl (by decide) rfl (fun ls hl => ?_)
                refine lv_iload hx hb dX1_begin_102 (lv_at hl 0 rfl) ?_
                refine lv_iload hx hb dX1_begin_104 (lv_at hl 6 rfl) ?_
                refine lv_icmp_le (tgt := 117) hx hb dX1_begin_106 (by decide) (fun c30 => ?_) (fun c30 => ?_)
                · replace h := it_t c30 h
                  refine lv_iinc (v := (x19 + (1 : Int32))) (lv' := [(7, .int (x19 + (1 : Int32))), (8, .int r27), (0, .ref (ad 0)), (1, .int v1), (2, .int v2), (3, .int v3), (5, .int x17), (6, .int x18)]) hx hb dX1_begin_117 hl (k := 7) rfl (by first | rfl | decide) (by decide) rfl (fun ls hl => ?_)
                  refine lv_goto (tgt := 63) hx hb dX1_begin_120 (by decide) ?_
                  exact ih21 x17 x18 (x19 + (1 : Int32)) n28 _ _ hP hD hS ls (lv_sub hl [2, 3, 4, 5, 6, 7, 0] rfl) h
                · replace h := it_f c30 h
                  refine lv_iload hx hb dX1_begin_109 (lv_at hl 7 rfl) ?_
                  refine lv_istore (lv' := [(5, .int x19), (8, .int r27), (0, .ref (ad 0)), (1, .int v1), (2, .int v2), (3, .int v3), (6, .int x18), (7, .int x19)]) hx hb dX1_begin_111 hl (by decide) rfl (fun ls hl => ?_)
                  refine lv_iload hx hb dX1_begin_113 (lv_at hl 1 rfl) ?_
                  refine lv_istore (lv' := [(6, .int r27), (5, .int x19), (8, .int r27), (0, .ref (ad 0)), (1, .int v1), (2, .int v2), (3, .int v3), (7, .int x19)]) hx hb dX1_begin_115 hl (by decide) rfl (fun ls hl => ?_)
                  refine lv_iinc (v := (x19 + (1 : Int32))) (lv' := [(7, .int (x19 + (1 : Int32))), (6, .int r27), (5, .int x19), (8, .int r27), (0, .ref (ad 0)), (1, .int v1), (2, .int v2), (3, .int v3)]) hx hb dX1_begin_117 hl (k := 7) rfl (by first | rfl | decide) (by decide) rfl (fun ls hl => ?_)
                  refine lv_goto (tgt := 63) hx hb dX1_begin_120 (by decide) ?_
                  exact ih21 x19 r27 (x19 + (1 : Int32)) n28 _ _ hP hD hS ls (lv_sub hl [4, 5, 6, 7, 2, 1, 0] rfl) h
          exact lp21 zb_FU (0 : Int32) (0 : Int32) (0 : Int32) g_mind _ _ hP hD hS ls (lv_sub hl [4, 5, 6, 7, 2, 1, 0] rfl) h
        · replace h := it_f c16 h
          refine lv_aload_n hx hb dX1_begin_47 rfl (lv_at hl 1 rfl) ?_
          refine lv_bipush (v := ((-2) : Int32)) hx hb dX1_begin_48 (by decide) ?_
          obtain ⟨r31, n32, g33, h⟩ := bo2 h
          refine zb_callV (As := [.int ((-2) : Int32)]) (rest := []) ⟨hx, hb, hml, hown, hts⟩ (zc_X1_refuse l D cI ad g_now g_mind g_taken g_isTaken g_letters g_letterCount g_told g_toldCount g_refusals g_costs g_gains g_seed ((-2) : Int32) r31 n32 g33) (cwV 1 hts gX1_begin_X1_refuse rfl rfl rfl hd_X1_refuse ⟨Nat.le_of_ble_eq_true rfl, Nat.le_of_ble_eq_true rfl⟩) hK hP hD hS hA (zb_sG) (q0 := 0) rfl rfl rfl hl.1 rfl (Nat.le_of_ble_eq_true rfl) dX1_begin_50 ⟨Nat.le_refl _, Nat.le_refl _⟩ (fun H locs hP hD hS => ?_)
          obtain ⟨rfl, rfl, rfl⟩ := re3 h
          exact zb_iret hx hb hr hlk hP hS dX1_begin_53
    · replace h := it_f c11 h
      refine lv_aload_n hx hb dX1_begin_31 rfl (lv_at hl 1 rfl) ?_
      refine lv_iload hx hb dX1_begin_32 (lv_at hl 0 rfl) ?_
      obtain ⟨r34, n35, g36, h⟩ := bo2 h
      refine zb_callV (As := [.int r9]) (rest := []) ⟨hx, hb, hml, hown, hts⟩ (zc_X1_refuse l D cI ad g_now g_mind g_taken g_isTaken g_letters g_letterCount g_told g_toldCount g_refusals g_costs g_gains g_seed r9 r34 n35 g36) (cwV 1 hts gX1_begin_X1_refuse rfl rfl rfl hd_X1_refuse ⟨Nat.le_of_ble_eq_true rfl, Nat.le_of_ble_eq_true rfl⟩) hK hP hD hS hA (zb_sG) (q0 := 0) rfl rfl rfl hl.1 rfl (Nat.le_of_ble_eq_true rfl) dX1_begin_34 ⟨Nat.le_refl _, Nat.le_refl _⟩ (fun H locs hP hD hS => ?_)
      obtain ⟨rfl, rfl, rfl⟩ := re3 h
      exact zb_iret hx hb hr hlk hP hS dX1_begin_37
  · replace h := it_t c8 h
    refine lv_aload_n hx hb dX1_begin_11 rfl (lv_at hl 0 rfl) ?_
    refine lv_iconst (v := ((-1) : Int32)) hx hb dX1_begin_12 (by decide) ?_
    obtain ⟨r37, n38, g39, h⟩ := bo2 h
    refine zb_callV (As := [.int ((-1) : Int32)]) (rest := []) ⟨hx, hb, hml, hown, hts⟩ (zc_X1_refuse l D cI ad g_now g_mind g_taken g_isTaken g_letters g_letterCount g_told g_toldCount g_refusals g_costs g_gains g_seed ((-1) : Int32) r37 n38 g39) (cwV 1 hts gX1_begin_X1_refuse rfl rfl rfl hd_X1_refuse ⟨Nat.le_of_ble_eq_true rfl, Nat.le_of_ble_eq_true rfl⟩) hK hP hD hS hA (zb_sG) (q0 := 0) rfl rfl rfl hl.1 rfl (Nat.le_of_ble_eq_true rfl) dX1_begin_13 ⟨Nat.le_refl _, Nat.le_refl _⟩ (fun H locs hP hD hS => ?_)
    obtain ⟨rfl, rfl, rfl⟩ := re3 h
    exact zb_iret hx hb hr hlk hP hS dX1_begin_16
abbrev rm_X1_head : Room := { frames := 4, cells := 0, slots := 0, locals := 95 }
theorem hd_X1_head : yX1_head.cls = RX1 ∧ yX1_head.cls ≠ "java/lang/invoke/MethodHandle" ∧ yX1_head.cls ≠ "java/lang/invoke/VarHandle" ∧ (parseMethodDescriptor yX1_head.desc).map (fun d => d.parameters.length) = some 2 := by decide +kernel
theorem zi_X1_head_X1 : ∀ w ∈ wsX10, w ∈ wsX1_head := fun _ h => List.mem_cons_of_mem _ (List.mem_append_left _ (List.mem_append_right _ h))
theorem zk_X1_head_0 : Cond.fieldLink RX1 10 "GroutingIsFollowed" "now" "LGroutingIsFollowed$Bath;" ∈ wsX1_head := by decide +kernel
theorem zk_X1_head_1 : Cond.fieldLink RX1 16 "GroutingIsFollowed" "mind" "LGroutingIsFollowed$Bath;" ∈ wsX1_head := by decide +kernel
set_option maxHeartbeats 4000000 in
set_option maxRecDepth 100000 in
theorem zc_X1_head (l : Launch) (D : va_G) (cI : ClassId) (ad : Nat → Nat) (g_now : BT) (g_mind : BT) (g_taken : BT) (g_isTaken : Int32) (g_letters : (Nat → Int32)) (g_letterCount : Int32) (g_told : (Nat → Int32)) (g_toldCount : Int32) (g_refusals : (Nat → Int32)) (g_costs : (Nat → Int32)) (g_gains : (Nat → Int32)) (g_seed : Int32) (v1 : Int32) (v2 : Int32) (r0 : Int32) (w_g_mind : BT) (w_g_refusals : (Nat → Int32)) (h : zf_X1_head g_now g_mind g_refusals v1 v2 = some (r0, w_g_mind, w_g_refusals)) : Cn l D cI yX1_head wsX1_head rm_X1_head [.ref (ad 0), .int v1, .int v2] (zb_G cI ad g_now g_mind g_taken g_isTaken g_letters g_letterCount g_told g_toldCount g_refusals g_costs g_gains g_seed) (some (.int r0)) (zb_G cI ad g_now w_g_mind g_taken g_isTaken g_letters g_letterCount g_told g_toldCount w_g_refusals g_costs g_gains g_seed) := by
  refine zb_ofW (cc := cX1_head) (maxL := 7) (ret := (some .int)) (by decide) rfl (Nat.le_of_ble_eq_true rfl) ?_
  intro p e s m args below meth c A ls hx hb hr hml hts hown hlk hK hP hD hA hl
  have hS : va_S A s.heap s.heap [] := va_S.rf
  have hl : lv_has ls 7 [(0, .ref (ad 0)), (1, .int v1), (2, .int v2)] := hl
  unfold zf_X1_head at h
  refine lv_aload_n hx hb dX1_head_0 rfl (lv_at hl 0 rfl) ?_
  refine va_get (D := D) (ci := 1) (v := .ref (ad 1)) (C := RX1) (T := TX1) (N := 12) hx hb hts zi_X1_head_X1 hown hK.1 hP 0 rfl rfl 0 (by decide) (hts _ zk_X1_head_0) (fun _ h9 => h9) rfl dX1_head_1 ?_
  refine lv_iload_n hx hb dX1_head_4 rfl (lv_at hl 1 rfl) ?_
  obtain ⟨r1, g2, h⟩ := bo1 h
  refine zb_callV (As := [.int v1]) (rest := []) ⟨hx, hb, hml, hown, hts⟩ (zc_X0_has l D cI (ad 1) (ad 2) (ad 3) (ad 4) (ad 5) (ad 6) (ad 7) g_now v1 r1 g2) (cwV 1 hts gX1_head_X0_has rfl rfl rfl hd_X0_has ⟨Nat.le_of_ble_eq_true rfl, Nat.le_of_ble_eq_true rfl⟩) hK hP hD hS hA (zb_cGn) (q0 := 0) rfl rfl rfl hl.1 rfl (Nat.le_of_ble_eq_true rfl) dX1_head_5 ⟨Nat.le_refl _, Nat.le_refl _⟩ (fun H locs hP hD hS => ?_)
  refine lv_if_eq (tgt := 18) hx hb dX1_head_8 (by decide) (fun c3 => ?_) (fun c3 => ?_)
  · replace h := it_t c3 h
    refine lv_aload_n hx hb dX1_head_18 rfl (lv_at hl 0 rfl) ?_
    refine lv_iconst (v := ((-1) : Int32)) hx hb dX1_head_19 (by decide) ?_
    obtain ⟨r4, n5, g6, h⟩ := bo2 h
    refine zb_callV (As := [.int ((-1) : Int32)]) (rest := []) ⟨hx, hb, hml, hown, hts⟩ (zc_X1_refuse l D cI ad g_now g_mind g_taken g_isTaken g_letters g_letterCount g_told g_toldCount g_refusals g_costs g_gains g_seed ((-1) : Int32) r4 n5 g6) (cwV 1 hts gX1_head_X1_refuse rfl rfl rfl hd_X1_refuse ⟨Nat.le_of_ble_eq_true rfl, Nat.le_of_ble_eq_true rfl⟩) hK hP hD hS hA (zb_sG) (q0 := 0) rfl rfl rfl hl.1 rfl (Nat.le_of_ble_eq_true rfl) dX1_head_20 ⟨Nat.le_refl _, Nat.le_refl _⟩ (fun H locs hP hD hS => ?_)
    obtain ⟨rfl, rfl, rfl⟩ := re3 h
    exact zb_iret hx hb hr hlk hP hS dX1_head_23
  · replace h := it_f c3 h
    refine lv_iload_n hx hb dX1_head_11 rfl (lv_at hl 2 rfl) ?_
    obtain ⟨r7, g8, h⟩ := bo1 h
    refine zb_callS (As := [.int v2]) (rest := []) ⟨hx, hb, hml, hown, hts⟩ (zc_X1_isNode l D cI v2 r7 g8) (va_cwS 1 hts gX1_head_X1_isNode rfl rfl rfl hd_X1_isNode.2 ⟨Nat.le_of_ble_eq_true rfl, Nat.le_of_ble_eq_true rfl⟩) hK hP hD hS hA (zb_none _) rfl hl.1 rfl (Nat.le_of_ble_eq_true rfl) dX1_head_12 ⟨Nat.le_refl _, Nat.le_refl _⟩ (fun H locs hP hD hS => ?_)
    refine lv_if_ne (tgt := 24) hx hb dX1_head_15 (by decide) (fun c9 => ?_) (fun c9 => ?_)
    · replace h := it_f c9 h
      refine lv_bipush (v := ((-9) : Int32)) hx hb dX1_head_24 (by decide) ?_
      refine lv_istore_n (lv' := [(3, .int ((-9) : Int32)), (0, .ref (ad 0)), (1, .int v1), (2, .int v2)]) hx hb dX1_head_26 rfl hl (by decide) rfl (fun ls hl => ?_)
      refine lv_bipush (v := (61 : Int32)) hx hb dX1_head_27 (by decide) ?_
      refine lv_istore (lv' := [(4, .int (61 : Int32)), (3, .int ((-9) : Int32)), (0, .ref (ad 0)), (1, .int v1), (2, .int v2)]) hx hb dX1_head_29 hl (by decide) rfl (fun ls hl => ?_)
      refine lv_iconst (v := (0 : Int32)) hx hb dX1_head_31 (by decide) ?_
      refine lv_istore (lv' := [(5, .int (0 : Int32)), (4, .int (61 : Int32)), (3, .int ((-9) : Int32)), (0, .ref (ad 0)), (1, .int v1), (2, .int v2)]) hx hb dX1_head_32 hl (by decide) rfl (fun ls hl => ?_)
      have lp14 : ∀ (fu14 : Nat) (x10 : Int32) (x11 : Int32) (x12 : Int32) (x13 : BT) (H : Heap) (locs : List Loc) (hP : va_P D zb_cl (zb_G cI ad g_now x13 g_taken g_isTaken g_letters g_letterCount g_told g_toldCount g_refusals g_costs g_gains g_seed) H) (hD : va_D A (zb_G cI ad g_now x13 g_taken g_isTaken g_letters g_letterCount g_told g_toldCount g_refusals g_costs g_gains g_seed)) (hS : va_S A s.heap H locs) (ls : Array Slot) (hl : lv_has ls 7 [(0, .ref (ad 0)), (1, .int v1), (2, .int v2), (3, .int x10), (4, .int x11), (5, .int x12)]) (h : zl4 (zf_X1_head_b34 v1 v2 g_now g_refusals) fu14 x10 x11 x12 x13 = some (r0, w_g_mind, w_g_refusals)), W p l e rm_X1_head s m args below meth c H locs 0 0 (zb_Q below D (some (.int r0)) (zb_G cI ad g_now w_g_mind g_taken g_isTaken g_letters g_letterCount g_told g_toldCount w_g_refusals g_costs g_gains g_seed) A args s) (F0 m 34 ls []) := by
        intro fu14
        induction fu14 with
        | zero => intro x10 x11 x12 x13 H locs hP hD hS ls hl h; exact zb_no h
        | succ fu14 ih14 =>
          intro x10 x11 x12 x13 H locs hP hD hS ls hl h
          replace h : zf_X1_head_b34 v1 v2 g_now g_refusals (zl4 (zf_X1_head_b34 v1 v2 g_now g_refusals) fu14) x10 x11 x12 x13 = some (r0, w_g_mind, w_g_refusals) := h
          unfold zf_X1_head_b34 at h
          refine lv_iload hx hb dX1_head_34 (lv_at hl 5 rfl) ?_
          refine lv_iconst (v := (4 : Int32)) hx hb dX1_head_36 (by decide) ?_
          refine lv_icmp_ge (tgt := 97) hx hb dX1_head_37 (by decide) (fun c15 => ?_) (fun c15 => ?_)
          · replace h := it_t c15 h
            refine lv_iload_n hx hb dX1_head_97 rfl (lv_at hl 3 rfl) ?_
            obtain ⟨rfl, rfl, rfl⟩ := re3 h
            exact zb_iret hx hb hr hlk hP hS dX1_head_98
          · replace h := it_f c15 h
            refine lv_aload_n hx hb dX1_head_40 rfl (lv_at hl 0 rfl) ?_
            refine va_get (D := D) (ci := 1) (v := .ref (ad 8)) (C := RX1) (T := TX1) (N := 12) hx hb hts zi_X1_head_X1 hown hK.1 hP 0 rfl rfl 1 (by decide) (hts _ zk_X1_head_1) (fun _ h9 => h9) rfl dX1_head_41 ?_
            refine lv_aload_n hx hb dX1_head_44 rfl (lv_at hl 0 rfl) ?_
            refine va_get (D := D) (ci := 1) (v := .ref (ad 1)) (C := RX1) (T := TX1) (N := 12) hx hb hts zi_X1_head_X1 hown hK.1 hP 0 rfl rfl 0 (by decide) (hts _ zk_X1_head_0) (fun _ h9 => h9) rfl dX1_head_45 ?_
            obtain ⟨n16, g17, h⟩ := bo1 h
            refine zb_callV (As := [.ref (ad 1)]) (rest := []) ⟨hx, hb, hml, hown, hts⟩ (zc_X0_becomes l D cI (ad 8) (ad 9) (ad 10) (ad 11) (ad 12) (ad 13) (ad 14) (ad 1) (ad 2) (ad 3) (ad 4) (ad 5) (ad 6) (ad 7) x13 g_now n16 g17) (cwV 1 hts gX1_head_X0_becomes rfl rfl rfl hd_X0_becomes ⟨Nat.le_of_ble_eq_true rfl, Nat.le_of_ble_eq_true rfl⟩) hK hP hD hS hA (zb_cGmn) (q0 := 0) rfl rfl rfl hl.1 rfl (Nat.le_of_ble_eq_true rfl) dX1_head_48 ⟨Nat.le_refl _, Nat.le_refl _⟩ (fun H locs hP hD hS => ?_)
            refine lv_aload_n hx hb dX1_head_51 rfl (lv_at hl 0 rfl) ?_
            refine va_get (D := D) (ci := 1) (v := .ref (ad 8)) (C := RX1) (T := TX1) (N := 12) hx hb hts zi_X1_head_X1 hown hK.1 hP 0 rfl rfl 1 (by decide) (hts _ zk_X1_head_1) (fun _ h9 => h9) rfl dX1_head_52 ?_
            refine lv_iload_n hx hb dX1_head_55 rfl (lv_at hl 1 rfl) ?_
            refine lv_iload hx hb dX1_head_56 (lv_at hl 5 rfl) ?_
            obtain ⟨n18, g19, h⟩ := bo1 h
            refine zb_callV (As := [.int v1, .int x12]) (rest := []) ⟨hx, hb, hml, hown, hts⟩ (zc_X0_putHeading l D cI (ad 8) (ad 9) (ad 10) (ad 11) (ad 12) (ad 13) (ad 14) n16 v1 x12 n18 g19) (cwV 2 hts gX1_head_X0_putHeading rfl rfl rfl hd_X0_putHeading ⟨Nat.le_of_ble_eq_true rfl, Nat.le_of_ble_eq_true rfl⟩) hK hP hD hS hA (zb_cGm) (q0 := 0) rfl rfl rfl hl.1 rfl (Nat.le_of_ble_eq_true rfl) dX1_head_58 ⟨Nat.le_refl _, Nat.le_refl _⟩ (fun H locs hP hD hS => ?_)
            refine lv_aload_n hx hb dX1_head_61 rfl (lv_at hl 0 rfl) ?_
            refine va_get (D := D) (ci := 1) (v := .ref (ad 8)) (C := RX1) (T := TX1) (N := 12) hx hb hts zi_X1_head_X1 hown hK.1 hP 0 rfl rfl 1 (by decide) (hts _ zk_X1_head_1) (fun _ h9 => h9) rfl dX1_head_62 ?_
            refine lv_iload_n hx hb dX1_head_65 rfl (lv_at hl 1 rfl) ?_
            refine lv_iload_n hx hb dX1_head_66 rfl (lv_at hl 2 rfl) ?_
            obtain ⟨r20, n21, g22, h⟩ := bo2 h
            refine zb_callV (As := [.int v1, .int v2]) (rest := []) ⟨hx, hb, hml, hown, hts⟩ (zc_X0_soonestAt l D cI (ad 8) (ad 9) (ad 10) (ad 11) (ad 12) (ad 13) (ad 14) n18 v1 v2 r20 n21 g22) (cwV 2 hts gX1_head_X0_soonestAt rfl rfl rfl hd_X0_soonestAt ⟨Nat.le_of_ble_eq_true rfl, Nat.le_of_ble_eq_true rfl⟩) hK hP hD hS hA (zb_cGm) (q0 := 0) rfl rfl rfl hl.1 rfl (Nat.le_of_ble_eq_true rfl) dX1_head_67 ⟨Nat.le_refl _, Nat.le_refl _⟩ (fun H locs hP hD hS => ?_)
            refine lv_istore (lv' := [(6, .int r20), (0, .ref (ad 0)), (1, .int v1), (2, .int v2), (3, .int x10), (4, .int x11), (5, .int x12)]) hx hb dX1_head_70 hl (by decide) rfl (fun ls hl => ?_)
            refine lv_iload hx hb dX1_head_72 (lv_at hl 0 rfl) ?_
            refine lv_if_lt (tgt := 91) hx hb dX1_head_74 (by decide) (fun c23 => ?_) (fun c23 => ?_)
            · replace h := it_t c23 h
              refine lv_iinc (v := (x12 + (1 : Int32))) (lv' := [(5, .int (x12 + (1 : Int32))), (6, .int r20), (0, .ref (ad 0)), (1, .int v1), (2, .int v2), (3, .int x10), (4, .int x11)]) hx hb dX1_head_91 hl (k := 6) rfl (by first | rfl | decide) (by decide) rfl (fun ls hl => ?_)
              refine lv_goto (tgt := 34) hx hb dX1_head_94 (by decide) ?_
              exact ih14 x10 x11 (x12 + (1 : Int32)) n21 _ _ hP hD hS ls (lv_sub hl [2, 3, 4, 5, 6, 0] rfl) h
            · replace h := it_f c23 h
              refine lv_iload hx hb dX1_head_77 (lv_at hl 0 rfl) ?_
              refine lv_iload hx hb dX1_head_79 (lv_at hl 5 rfl) ?_
              refine lv_icmp_ge (tgt := 91) hx hb dX1_head_81 (by decide) (fun c24 => ?_) (fun c24 => ?_)
              · replace h := it_t c24 h
                refine lv_iinc (v := (x12 + (1 : Int32))) (lv' := [(5, .int (x12 + (1 : Int32))), (6, .int r20), (0, .ref (ad 0)), (1, .int v1), (2, .int v2), (3, .int x10), (4, .int x11)]) hx hb dX1_head_91 hl (k := 6) rfl (by first | rfl | decide) (by decide) rfl (fun ls hl => ?_)
                refine lv_goto (tgt := 34) hx hb dX1_head_94 (by decide) ?_
                exact ih14 x10 x11 (x12 + (1 : Int32)) n21 _ _ hP hD hS ls (lv_sub hl [2, 3, 4, 5, 6, 0] rfl) h
              · replace h := it_f c24 h
                refine lv_iload hx hb dX1_head_84 (lv_at hl 6 rfl) ?_
                refine lv_istore_n (lv' := [(3, .int x12), (6, .int r20), (0, .ref (ad 0)), (1, .int v1), (2, .int v2), (4, .int x11), (5, .int x12)]) hx hb dX1_head_86 rfl hl (by decide) rfl (fun ls hl => ?_)
                refine lv_iload hx hb dX1_head_87 (lv_at hl 1 rfl) ?_
                refine lv_istore (lv' := [(4, .int r20), (3, .int x12), (6, .int r20), (0, .ref (ad 0)), (1, .int v1), (2, .int v2), (5, .int x12)]) hx hb dX1_head_89 hl (by decide) rfl (fun ls hl => ?_)
                refine lv_iinc (v := (x12 + (1 : Int32))) (lv' := [(5, .int (x12 + (1 : Int32))), (4, .int r20), (3, .int x12), (6, .int r20), (0, .ref (ad 0)), (1, .int v1), (2, .int v2)]) hx hb dX1_head_91 hl (k := 6) rfl (by first | rfl | decide) (by decide) rfl (fun ls hl => ?_)
                refine lv_goto (tgt := 34) hx hb dX1_head_94 (by decide) ?_
                exact ih14 x12 r20 (x12 + (1 : Int32)) n21 _ _ hP hD hS ls (lv_sub hl [4, 5, 6, 2, 1, 0] rfl) h
      exact lp14 zb_FU ((-9) : Int32) (61 : Int32) (0 : Int32) g_mind _ _ hP hD hS ls (lv_sub hl [3, 4, 5, 2, 1, 0] rfl) h
    · replace h := it_t c9 h
      refine lv_aload_n hx hb dX1_head_18 rfl (lv_at hl 0 rfl) ?_
      refine lv_iconst (v := ((-1) : Int32)) hx hb dX1_head_19 (by decide) ?_
      obtain ⟨r25, n26, g27, h⟩ := bo2 h
      refine zb_callV (As := [.int ((-1) : Int32)]) (rest := []) ⟨hx, hb, hml, hown, hts⟩ (zc_X1_refuse l D cI ad g_now g_mind g_taken g_isTaken g_letters g_letterCount g_told g_toldCount g_refusals g_costs g_gains g_seed ((-1) : Int32) r25 n26 g27) (cwV 1 hts gX1_head_X1_refuse rfl rfl rfl hd_X1_refuse ⟨Nat.le_of_ble_eq_true rfl, Nat.le_of_ble_eq_true rfl⟩) hK hP hD hS hA (zb_sG) (q0 := 0) rfl rfl rfl hl.1 rfl (Nat.le_of_ble_eq_true rfl) dX1_head_20 ⟨Nat.le_refl _, Nat.le_refl _⟩ (fun H locs hP hD hS => ?_)
      obtain ⟨rfl, rfl, rfl⟩ := re3 h
      exact zb_iret hx hb hr hlk hP hS dX1_head_23
abbrev rm_X1_damp : Room := { frames := 4, cells := 0, slots := 0, locals := 96 }
theorem hd_X1_damp : yX1_damp.cls = RX1 ∧ yX1_damp.cls ≠ "java/lang/invoke/MethodHandle" ∧ yX1_damp.cls ≠ "java/lang/invoke/VarHandle" ∧ (parseMethodDescriptor yX1_damp.desc).map (fun d => d.parameters.length) = some 2 := by decide +kernel
theorem zi_X1_damp_X1 : ∀ w ∈ wsX10, w ∈ wsX1_damp := fun _ h => List.mem_cons_of_mem _ (List.mem_append_left _ (List.mem_append_right _ h))
theorem zk_X1_damp_0 : Cond.fieldLink RX1 10 "GroutingIsFollowed" "now" "LGroutingIsFollowed$Bath;" ∈ wsX1_damp := by decide +kernel
theorem zk_X1_damp_1 : Cond.fieldLink RX1 16 "GroutingIsFollowed" "mind" "LGroutingIsFollowed$Bath;" ∈ wsX1_damp := by decide +kernel
set_option maxHeartbeats 4000000 in
set_option maxRecDepth 100000 in
theorem zc_X1_damp (l : Launch) (D : va_G) (cI : ClassId) (ad : Nat → Nat) (g_now : BT) (g_mind : BT) (g_taken : BT) (g_isTaken : Int32) (g_letters : (Nat → Int32)) (g_letterCount : Int32) (g_told : (Nat → Int32)) (g_toldCount : Int32) (g_refusals : (Nat → Int32)) (g_costs : (Nat → Int32)) (g_gains : (Nat → Int32)) (g_seed : Int32) (v1 : Int32) (v2 : Int32) (r0 : Int32) (w_g_mind : BT) (w_g_refusals : (Nat → Int32)) (h : zf_X1_damp g_now g_mind g_refusals v1 v2 = some (r0, w_g_mind, w_g_refusals)) : Cn l D cI yX1_damp wsX1_damp rm_X1_damp [.ref (ad 0), .int v1, .int v2] (zb_G cI ad g_now g_mind g_taken g_isTaken g_letters g_letterCount g_told g_toldCount g_refusals g_costs g_gains g_seed) (some (.int r0)) (zb_G cI ad g_now w_g_mind g_taken g_isTaken g_letters g_letterCount g_told g_toldCount w_g_refusals g_costs g_gains g_seed) := by
  refine zb_ofW (cc := cX1_damp) (maxL := 8) (ret := (some .int)) (by decide) rfl (Nat.le_of_ble_eq_true rfl) ?_
  intro p e s m args below meth c A ls hx hb hr hml hts hown hlk hK hP hD hA hl
  have hS : va_S A s.heap s.heap [] := va_S.rf
  have hl : lv_has ls 8 [(0, .ref (ad 0)), (1, .int v1), (2, .int v2)] := hl
  unfold zf_X1_damp at h
  refine lv_aload_n hx hb dX1_damp_0 rfl (lv_at hl 0 rfl) ?_
  refine va_get (D := D) (ci := 1) (v := .ref (ad 1)) (C := RX1) (T := TX1) (N := 12) hx hb hts zi_X1_damp_X1 hown hK.1 hP 0 rfl rfl 0 (by decide) (hts _ zk_X1_damp_0) (fun _ h9 => h9) rfl dX1_damp_1 ?_
  refine lv_iload_n hx hb dX1_damp_4 rfl (lv_at hl 1 rfl) ?_
  obtain ⟨r1, g2, h⟩ := bo1 h
  refine zb_callV (As := [.int v1]) (rest := []) ⟨hx, hb, hml, hown, hts⟩ (zc_X0_has l D cI (ad 1) (ad 2) (ad 3) (ad 4) (ad 5) (ad 6) (ad 7) g_now v1 r1 g2) (cwV 1 hts gX1_damp_X0_has rfl rfl rfl hd_X0_has ⟨Nat.le_of_ble_eq_true rfl, Nat.le_of_ble_eq_true rfl⟩) hK hP hD hS hA (zb_cGn) (q0 := 0) rfl rfl rfl hl.1 rfl (Nat.le_of_ble_eq_true rfl) dX1_damp_5 ⟨Nat.le_refl _, Nat.le_refl _⟩ (fun H locs hP hD hS => ?_)
  refine lv_if_ne (tgt := 17) hx hb dX1_damp_8 (by decide) (fun c3 => ?_) (fun c3 => ?_)
  · replace h := it_f c3 h
    refine lv_iload_n hx hb dX1_damp_17 rfl (lv_at hl 2 rfl) ?_
    refine lv_iconst (v := (0 : Int32)) hx hb dX1_damp_18 (by decide) ?_
    refine lv_bipush (v := (30 : Int32)) hx hb dX1_damp_19 (by decide) ?_
    obtain ⟨r4, g5, h⟩ := bo1 h
    refine zb_callS (As := [.int v2, .int (0 : Int32), .int (30 : Int32)]) (rest := []) ⟨hx, hb, hml, hown, hts⟩ (zc_X1_outside l D cI v2 (0 : Int32) (30 : Int32) r4 g5) (va_cwS 3 hts gX1_damp_X1_outside rfl rfl rfl hd_X1_outside.2 ⟨Nat.le_of_ble_eq_true rfl, Nat.le_of_ble_eq_true rfl⟩) hK hP hD hS hA (zb_none _) rfl hl.1 rfl (Nat.le_of_ble_eq_true rfl) dX1_damp_21 ⟨Nat.le_refl _, Nat.le_refl _⟩ (fun H locs hP hD hS => ?_)
    refine lv_istore_n (lv' := [(3, .int r4), (0, .ref (ad 0)), (1, .int v1), (2, .int v2)]) hx hb dX1_damp_24 rfl hl (by decide) rfl (fun ls hl => ?_)
    refine lv_iload_n hx hb dX1_damp_25 rfl (lv_at hl 0 rfl) ?_
    refine lv_if_eq (tgt := 35) hx hb dX1_damp_26 (by decide) (fun c6 => ?_) (fun c6 => ?_)
    · replace h := it_t c6 h
      refine lv_aload_n hx hb dX1_damp_35 rfl (lv_at hl 1 rfl) ?_
      refine va_get (D := D) (ci := 1) (v := .ref (ad 8)) (C := RX1) (T := TX1) (N := 12) hx hb hts zi_X1_damp_X1 hown hK.1 hP 0 rfl rfl 1 (by decide) (hts _ zk_X1_damp_1) (fun _ h9 => h9) rfl dX1_damp_36 ?_
      refine lv_aload_n hx hb dX1_damp_39 rfl (lv_at hl 1 rfl) ?_
      refine va_get (D := D) (ci := 1) (v := .ref (ad 1)) (C := RX1) (T := TX1) (N := 12) hx hb hts zi_X1_damp_X1 hown hK.1 hP 0 rfl rfl 0 (by decide) (hts _ zk_X1_damp_0) (fun _ h9 => h9) rfl dX1_damp_40 ?_
      obtain ⟨n7, g8, h⟩ := bo1 h
      refine zb_callV (As := [.ref (ad 1)]) (rest := []) ⟨hx, hb, hml, hown, hts⟩ (zc_X0_becomes l D cI (ad 8) (ad 9) (ad 10) (ad 11) (ad 12) (ad 13) (ad 14) (ad 1) (ad 2) (ad 3) (ad 4) (ad 5) (ad 6) (ad 7) g_mind g_now n7 g8) (cwV 1 hts gX1_damp_X0_becomes rfl rfl rfl hd_X0_becomes ⟨Nat.le_of_ble_eq_true rfl, Nat.le_of_ble_eq_true rfl⟩) hK hP hD hS hA (zb_cGmn) (q0 := 0) rfl rfl rfl hl.1 rfl (Nat.le_of_ble_eq_true rfl) dX1_damp_43 ⟨Nat.le_refl _, Nat.le_refl _⟩ (fun H locs hP hD hS => ?_)
      refine lv_aload_n hx hb dX1_damp_46 rfl (lv_at hl 1 rfl) ?_
      refine va_get (D := D) (ci := 1) (v := .ref (ad 8)) (C := RX1) (T := TX1) (N := 12) hx hb hts zi_X1_damp_X1 hown hK.1 hP 0 rfl rfl 1 (by decide) (hts _ zk_X1_damp_1) (fun _ h9 => h9) rfl dX1_damp_47 ?_
      refine lv_iload_n hx hb dX1_damp_50 rfl (lv_at hl 2 rfl) ?_
      refine lv_iload_n hx hb dX1_damp_51 rfl (lv_at hl 3 rfl) ?_
      obtain ⟨r9, n10, g11, h⟩ := bo2 h
      refine zb_callV (As := [.int v1, .int v2]) (rest := []) ⟨hx, hb, hml, hown, hts⟩ (zc_X0_visitsIn l D cI (ad 8) (ad 9) (ad 10) (ad 11) (ad 12) (ad 13) (ad 14) n7 v1 v2 r9 n10 g11) (cwV 2 hts gX1_damp_X0_visitsIn rfl rfl rfl hd_X0_visitsIn ⟨Nat.le_of_ble_eq_true rfl, Nat.le_of_ble_eq_true rfl⟩) hK hP hD hS hA (zb_cGm) (q0 := 0) rfl rfl rfl hl.1 rfl (Nat.le_of_ble_eq_true rfl) dX1_damp_52 ⟨Nat.le_refl _, Nat.le_refl _⟩ (fun H locs hP hD hS => ?_)
      refine lv_istore (lv' := [(4, .int r9), (3, .int r4), (0, .ref (ad 0)), (1, .int v1), (2, .int v2)]) hx hb dX1_damp_55 hl (by decide) rfl (fun ls hl => ?_)
      refine lv_bipush (v := ((-9) : Int32)) hx hb dX1_damp_57 (by decide) ?_
      refine lv_istore (lv' := [(5, .int ((-9) : Int32)), (4, .int r9), (3, .int r4), (0, .ref (ad 0)), (1, .int v1), (2, .int v2)]) hx hb dX1_damp_59 hl (by decide) rfl (fun ls hl => ?_)
      refine lv_iconst (v := (0 : Int32)) hx hb dX1_damp_61 (by decide) ?_
      refine lv_istore (lv' := [(6, .int (0 : Int32)), (5, .int ((-9) : Int32)), (4, .int r9), (3, .int r4), (0, .ref (ad 0)), (1, .int v1), (2, .int v2)]) hx hb dX1_damp_62 hl (by decide) rfl (fun ls hl => ?_)
      have lp16 : ∀ (fu16 : Nat) (x12 : Int32) (x13 : Int32) (x14 : Int32) (x15 : BT) (H : Heap) (locs : List Loc) (hP : va_P D zb_cl (zb_G cI ad g_now x15 g_taken g_isTaken g_letters g_letterCount g_told g_toldCount g_refusals g_costs g_gains g_seed) H) (hD : va_D A (zb_G cI ad g_now x15 g_taken g_isTaken g_letters g_letterCount g_told g_toldCount g_refusals g_costs g_gains g_seed)) (hS : va_S A s.heap H locs) (ls : Array Slot) (hl : lv_has ls 8 [(0, .ref (ad 0)), (1, .int v1), (2, .int v2), (4, .int x12), (5, .int x13), (6, .int x14)]) (h : zl4 (zf_X1_damp_b64 v1 v2 g_now g_refusals) fu16 x12 x13 x14 x15 = some (r0, w_g_mind, w_g_refusals)), W p l e rm_X1_damp s m args below meth c H locs 0 0 (zb_Q below D (some (.int r0)) (zb_G cI ad g_now w_g_mind g_taken g_isTaken g_letters g_letterCount g_told g_toldCount w_g_refusals g_costs g_gains g_seed) A args s) (F0 m 64 ls []) := by
        intro fu16
        induction fu16 with
        | zero => intro x12 x13 x14 x15 H locs hP hD hS ls hl h; exact zb_no h
        | succ fu16 ih16 =>
          intro x12 x13 x14 x15 H locs hP hD hS ls hl h
          replace h : zf_X1_damp_b64 v1 v2 g_now g_refusals (zl4 (zf_X1_damp_b64 v1 v2 g_now g_refusals) fu16) x12 x13 x14 x15 = some (r0, w_g_mind, w_g_refusals) := h
          unfold zf_X1_damp_b64 at h
          refine lv_iload hx hb dX1_damp_64 (lv_at hl 5 rfl) ?_
          refine lv_bipush (v := (30 : Int32)) hx hb dX1_damp_66 (by decide) ?_
          refine lv_icmp_ge (tgt := 125) hx hb dX1_damp_68 (by decide) (fun c17 => ?_) (fun c17 => ?_)
          · replace h := it_t c17 h
            refine lv_iload hx hb dX1_damp_125 (lv_at hl 4 rfl) ?_
            obtain ⟨rfl, rfl, rfl⟩ := re3 h
            exact zb_iret hx hb hr hlk hP hS dX1_damp_127
          · replace h := it_f c17 h
            refine lv_aload_n hx hb dX1_damp_71 rfl (lv_at hl 0 rfl) ?_
            refine va_get (D := D) (ci := 1) (v := .ref (ad 8)) (C := RX1) (T := TX1) (N := 12) hx hb hts zi_X1_damp_X1 hown hK.1 hP 0 rfl rfl 1 (by decide) (hts _ zk_X1_damp_1) (fun _ h9 => h9) rfl dX1_damp_72 ?_
            refine lv_aload_n hx hb dX1_damp_75 rfl (lv_at hl 0 rfl) ?_
            refine va_get (D := D) (ci := 1) (v := .ref (ad 1)) (C := RX1) (T := TX1) (N := 12) hx hb hts zi_X1_damp_X1 hown hK.1 hP 0 rfl rfl 0 (by decide) (hts _ zk_X1_damp_0) (fun _ h9 => h9) rfl dX1_damp_76 ?_
            obtain ⟨n18, g19, h⟩ := bo1 h
            refine zb_callV (As := [.ref (ad 1)]) (rest := []) ⟨hx, hb, hml, hown, hts⟩ (zc_X0_becomes l D cI (ad 8) (ad 9) (ad 10) (ad 11) (ad 12) (ad 13) (ad 14) (ad 1) (ad 2) (ad 3) (ad 4) (ad 5) (ad 6) (ad 7) x15 g_now n18 g19) (cwV 1 hts gX1_damp_X0_becomes rfl rfl rfl hd_X0_becomes ⟨Nat.le_of_ble_eq_true rfl, Nat.le_of_ble_eq_true rfl⟩) hK hP hD hS hA (zb_cGmn) (q0 := 0) rfl rfl rfl hl.1 rfl (Nat.le_of_ble_eq_true rfl) dX1_damp_79 ⟨Nat.le_refl _, Nat.le_refl _⟩ (fun H locs hP hD hS => ?_)
            refine lv_aload_n hx hb dX1_damp_82 rfl (lv_at hl 0 rfl) ?_
            refine va_get (D := D) (ci := 1) (v := .ref (ad 8)) (C := RX1) (T := TX1) (N := 12) hx hb hts zi_X1_damp_X1 hown hK.1 hP 0 rfl rfl 1 (by decide) (hts _ zk_X1_damp_1) (fun _ h9 => h9) rfl dX1_damp_83 ?_
            refine lv_iload hx hb dX1_damp_86 (lv_at hl 5 rfl) ?_
            refine lv_bipush (v := (9 : Int32)) hx hb dX1_damp_88 (by decide) ?_
            obtain ⟨n20, g21, h⟩ := bo1 h
            refine zb_callV (As := [.int x14, .int (9 : Int32)]) (rest := []) ⟨hx, hb, hml, hown, hts⟩ (zc_X0_putWet l D cI (ad 8) (ad 9) (ad 10) (ad 11) (ad 12) (ad 13) (ad 14) n18 x14 (9 : Int32) n20 g21) (cwV 2 hts gX1_damp_X0_putWet rfl rfl rfl hd_X0_putWet ⟨Nat.le_of_ble_eq_true rfl, Nat.le_of_ble_eq_true rfl⟩) hK hP hD hS hA (zb_cGm) (q0 := 0) rfl rfl rfl hl.1 rfl (Nat.le_of_ble_eq_true rfl) dX1_damp_90 ⟨Nat.le_refl _, Nat.le_refl _⟩ (fun H locs hP hD hS => ?_)
            refine lv_aload_n hx hb dX1_damp_93 rfl (lv_at hl 0 rfl) ?_
            refine va_get (D := D) (ci := 1) (v := .ref (ad 8)) (C := RX1) (T := TX1) (N := 12) hx hb hts zi_X1_damp_X1 hown hK.1 hP 0 rfl rfl 1 (by decide) (hts _ zk_X1_damp_1) (fun _ h9 => h9) rfl dX1_damp_94 ?_
            refine lv_iload_n hx hb dX1_damp_97 rfl (lv_at hl 1 rfl) ?_
            refine lv_iload_n hx hb dX1_damp_98 rfl (lv_at hl 2 rfl) ?_
            obtain ⟨r22, n23, g24, h⟩ := bo2 h
            refine zb_callV (As := [.int v1, .int v2]) (rest := []) ⟨hx, hb, hml, hown, hts⟩ (zc_X0_visitsIn l D cI (ad 8) (ad 9) (ad 10) (ad 11) (ad 12) (ad 13) (ad 14) n20 v1 v2 r22 n23 g24) (cwV 2 hts gX1_damp_X0_visitsIn rfl rfl rfl hd_X0_visitsIn ⟨Nat.le_of_ble_eq_true rfl, Nat.le_of_ble_eq_true rfl⟩) hK hP hD hS hA (zb_cGm) (q0 := 0) rfl rfl rfl hl.1 rfl (Nat.le_of_ble_eq_true rfl) dX1_damp_99 ⟨Nat.le_refl _, Nat.le_refl _⟩ (fun H locs hP hD hS => ?_)
            refine lv_istore (lv' := [(7, .int r22), (0, .ref (ad 0)), (1, .int v1), (2, .int v2), (4, .int x12), (5, .int x13), (6, .int x14)]) hx hb dX1_damp_102 hl (by decide) rfl (fun ls hl => ?_)
            refine lv_iload hx hb dX1_damp_104 (lv_at hl 0 rfl) ?_
            refine lv_iload hx hb dX1_damp_106 (lv_at hl 4 rfl) ?_
            refine lv_icmp_le (tgt := 119) hx hb dX1_damp_108 (by decide) (fun c25 => ?_) (fun c25 => ?_)
            · replace h := it_t c25 h
              refine lv_iinc (v := (x14 + (1 : Int32))) (lv' := [(6, .int (x14 + (1 : Int32))), (7, .int r22), (0, .ref (ad 0)), (1, .int v1), (2, .int v2), (4, .int x12), (5, .int x13)]) hx hb dX1_damp_119 hl (k := 6) rfl (by first | rfl | decide) (by decide) rfl (fun ls hl => ?_)
              refine lv_goto (tgt := 64) hx hb dX1_damp_122 (by decide) ?_
              exact ih16 x12 x13 (x14 + (1 : Int32)) n23 _ _ hP hD hS ls (lv_sub hl [2, 3, 4, 5, 6, 0] rfl) h
            · replace h := it_f c25 h
              refine lv_iload hx hb dX1_damp_111 (lv_at hl 6 rfl) ?_
              refine lv_istore (lv' := [(5, .int x14), (7, .int r22), (0, .ref (ad 0)), (1, .int v1), (2, .int v2), (4, .int x12), (6, .int x14)]) hx hb dX1_damp_113 hl (by decide) rfl (fun ls hl => ?_)
              refine lv_iload hx hb dX1_damp_115 (lv_at hl 1 rfl) ?_
              refine lv_istore (lv' := [(4, .int r22), (5, .int x14), (7, .int r22), (0, .ref (ad 0)), (1, .int v1), (2, .int v2), (6, .int x14)]) hx hb dX1_damp_117 hl (by decide) rfl (fun ls hl => ?_)
              refine lv_iinc (v := (x14 + (1 : Int32))) (lv' := [(6, .int (x14 + (1 : Int32))), (4, .int r22), (5, .int x14), (7, .int r22), (0, .ref (ad 0)), (1, .int v1), (2, .int v2)]) hx hb dX1_damp_119 hl (k := 6) rfl (by first | rfl | decide) (by decide) rfl (fun ls hl => ?_)
              refine lv_goto (tgt := 64) hx hb dX1_damp_122 (by decide) ?_
              exact ih16 r22 x14 (x14 + (1 : Int32)) n23 _ _ hP hD hS ls (lv_sub hl [4, 5, 6, 1, 2, 0] rfl) h
      exact lp16 zb_FU r9 ((-9) : Int32) (0 : Int32) n10 _ _ hP hD hS ls (lv_sub hl [4, 5, 6, 2, 1, 0] rfl) h
    · replace h := it_f c6 h
      refine lv_aload_n hx hb dX1_damp_29 rfl (lv_at hl 1 rfl) ?_
      refine lv_iload_n hx hb dX1_damp_30 rfl (lv_at hl 0 rfl) ?_
      obtain ⟨r26, n27, g28, h⟩ := bo2 h
      refine zb_callV (As := [.int r4]) (rest := []) ⟨hx, hb, hml, hown, hts⟩ (zc_X1_refuse l D cI ad g_now g_mind g_taken g_isTaken g_letters g_letterCount g_told g_toldCount g_refusals g_costs g_gains g_seed r4 r26 n27 g28) (cwV 1 hts gX1_damp_X1_refuse rfl rfl rfl hd_X1_refuse ⟨Nat.le_of_ble_eq_true rfl, Nat.le_of_ble_eq_true rfl⟩) hK hP hD hS hA (zb_sG) (q0 := 0) rfl rfl rfl hl.1 rfl (Nat.le_of_ble_eq_true rfl) dX1_damp_31 ⟨Nat.le_refl _, Nat.le_refl _⟩ (fun H locs hP hD hS => ?_)
      obtain ⟨rfl, rfl, rfl⟩ := re3 h
      exact zb_iret hx hb hr hlk hP hS dX1_damp_34
  · replace h := it_t c3 h
    refine lv_aload_n hx hb dX1_damp_11 rfl (lv_at hl 0 rfl) ?_
    refine lv_iconst (v := ((-1) : Int32)) hx hb dX1_damp_12 (by decide) ?_
    obtain ⟨r29, n30, g31, h⟩ := bo2 h
    refine zb_callV (As := [.int ((-1) : Int32)]) (rest := []) ⟨hx, hb, hml, hown, hts⟩ (zc_X1_refuse l D cI ad g_now g_mind g_taken g_isTaken g_letters g_letterCount g_told g_toldCount g_refusals g_costs g_gains g_seed ((-1) : Int32) r29 n30 g31) (cwV 1 hts gX1_damp_X1_refuse rfl rfl rfl hd_X1_refuse ⟨Nat.le_of_ble_eq_true rfl, Nat.le_of_ble_eq_true rfl⟩) hK hP hD hS hA (zb_sG) (q0 := 0) rfl rfl rfl hl.1 rfl (Nat.le_of_ble_eq_true rfl) dX1_damp_13 ⟨Nat.le_refl _, Nat.le_refl _⟩ (fun H locs hP hD hS => ?_)
    obtain ⟨rfl, rfl, rfl⟩ := re3 h
    exact zb_iret hx hb hr hlk hP hS dX1_damp_16
abbrev rm_X1_bestKind : Room := { frames := 4, cells := 0, slots := 0, locals := 96 }
theorem hd_X1_bestKind : yX1_bestKind.cls = RX1 ∧ yX1_bestKind.cls ≠ "java/lang/invoke/MethodHandle" ∧ yX1_bestKind.cls ≠ "java/lang/invoke/VarHandle" ∧ (parseMethodDescriptor yX1_bestKind.desc).map (fun d => d.parameters.length) = some 3 := by decide +kernel
theorem zi_X1_bestKind_X1 : ∀ w ∈ wsX10, w ∈ wsX1_bestKind := fun _ h => List.mem_cons_of_mem _ (List.mem_append_left _ (List.mem_append_right _ h))
theorem zk_X1_bestKind_0 : Cond.fieldLink RX1 10 "GroutingIsFollowed" "now" "LGroutingIsFollowed$Bath;" ∈ wsX1_bestKind := by decide +kernel
theorem zk_X1_bestKind_1 : Cond.fieldLink RX1 16 "GroutingIsFollowed" "mind" "LGroutingIsFollowed$Bath;" ∈ wsX1_bestKind := by decide +kernel
set_option maxHeartbeats 4000000 in
set_option maxRecDepth 100000 in
theorem zc_X1_bestKind (l : Launch) (D : va_G) (cI : ClassId) (ad : Nat → Nat) (g_now : BT) (g_mind : BT) (g_taken : BT) (g_isTaken : Int32) (g_letters : (Nat → Int32)) (g_letterCount : Int32) (g_told : (Nat → Int32)) (g_toldCount : Int32) (g_refusals : (Nat → Int32)) (g_costs : (Nat → Int32)) (g_gains : (Nat → Int32)) (g_seed : Int32) (v1 : Int32) (v2 : Int32) (v3 : Int32) (r0 : Int32) (w_g_mind : BT) (w_g_refusals : (Nat → Int32)) (h : zf_X1_bestKind g_now g_mind g_refusals v1 v2 v3 = some (r0, w_g_mind, w_g_refusals)) : Cn l D cI yX1_bestKind wsX1_bestKind rm_X1_bestKind [.ref (ad 0), .int v1, .int v2, .int v3] (zb_G cI ad g_now g_mind g_taken g_isTaken g_letters g_letterCount g_told g_toldCount g_refusals g_costs g_gains g_seed) (some (.int r0)) (zb_G cI ad g_now w_g_mind g_taken g_isTaken g_letters g_letterCount g_told g_toldCount w_g_refusals g_costs g_gains g_seed) := by
  refine zb_ofW (cc := cX1_bestKind) (maxL := 9) (ret := (some .int)) (by decide) rfl (Nat.le_of_ble_eq_true rfl) ?_
  intro p e s m args below meth c A ls hx hb hr hml hts hown hlk hK hP hD hA hl
  have hS : va_S A s.heap s.heap [] := va_S.rf
  have hl : lv_has ls 9 [(0, .ref (ad 0)), (1, .int v1), (2, .int v2), (3, .int v3)] := hl
  unfold zf_X1_bestKind at h
  refine lv_iload_n hx hb dX1_bestKind_0 rfl (lv_at hl 1 rfl) ?_
  obtain ⟨r1, g2, h⟩ := bo1 h
  refine zb_callS (As := [.int v1]) (rest := []) ⟨hx, hb, hml, hown, hts⟩ (zc_X1_isNode l D cI v1 r1 g2) (va_cwS 1 hts gX1_bestKind_X1_isNode rfl rfl rfl hd_X1_isNode.2 ⟨Nat.le_of_ble_eq_true rfl, Nat.le_of_ble_eq_true rfl⟩) hK hP hD hS hA (zb_none _) rfl hl.1 rfl (Nat.le_of_ble_eq_true rfl) dX1_bestKind_1 ⟨Nat.le_refl _, Nat.le_refl _⟩ (fun H locs hP hD hS => ?_)
  refine lv_if_eq (tgt := 18) hx hb dX1_bestKind_4 (by decide) (fun c3 => ?_) (fun c3 => ?_)
  · replace h := it_t c3 h
    refine lv_aload_n hx hb dX1_bestKind_18 rfl (lv_at hl 0 rfl) ?_
    refine lv_iconst (v := ((-1) : Int32)) hx hb dX1_bestKind_19 (by decide) ?_
    obtain ⟨r4, n5, g6, h⟩ := bo2 h
    refine zb_callV (As := [.int ((-1) : Int32)]) (rest := []) ⟨hx, hb, hml, hown, hts⟩ (zc_X1_refuse l D cI ad g_now g_mind g_taken g_isTaken g_letters g_letterCount g_told g_toldCount g_refusals g_costs g_gains g_seed ((-1) : Int32) r4 n5 g6) (cwV 1 hts gX1_bestKind_X1_refuse rfl rfl rfl hd_X1_refuse ⟨Nat.le_of_ble_eq_true rfl, Nat.le_of_ble_eq_true rfl⟩) hK hP hD hS hA (zb_sG) (q0 := 0) rfl rfl rfl hl.1 rfl (Nat.le_of_ble_eq_true rfl) dX1_bestKind_20 ⟨Nat.le_refl _, Nat.le_refl _⟩ (fun H locs hP hD hS => ?_)
    obtain ⟨rfl, rfl, rfl⟩ := re3 h
    exact zb_iret hx hb hr hlk hP hS dX1_bestKind_23
  · replace h := it_f c3 h
    refine lv_aload_n hx hb dX1_bestKind_7 rfl (lv_at hl 0 rfl) ?_
    refine va_get (D := D) (ci := 1) (v := .ref (ad 1)) (C := RX1) (T := TX1) (N := 12) hx hb hts zi_X1_bestKind_X1 hown hK.1 hP 0 rfl rfl 0 (by decide) (hts _ zk_X1_bestKind_0) (fun _ h9 => h9) rfl dX1_bestKind_8 ?_
    refine lv_iload_n hx hb dX1_bestKind_11 rfl (lv_at hl 2 rfl) ?_
    obtain ⟨r7, g8, h⟩ := bo1 h
    refine zb_callV (As := [.int v2]) (rest := []) ⟨hx, hb, hml, hown, hts⟩ (zc_X0_has l D cI (ad 1) (ad 2) (ad 3) (ad 4) (ad 5) (ad 6) (ad 7) g_now v2 r7 g8) (cwV 1 hts gX1_bestKind_X0_has rfl rfl rfl hd_X0_has ⟨Nat.le_of_ble_eq_true rfl, Nat.le_of_ble_eq_true rfl⟩) hK hP hD hS hA (zb_cGn) (q0 := 0) rfl rfl rfl hl.1 rfl (Nat.le_of_ble_eq_true rfl) dX1_bestKind_12 ⟨Nat.le_refl _, Nat.le_refl _⟩ (fun H locs hP hD hS => ?_)
    refine lv_if_ne (tgt := 24) hx hb dX1_bestKind_15 (by decide) (fun c9 => ?_) (fun c9 => ?_)
    · replace h := it_f c9 h
      refine lv_iload_n hx hb dX1_bestKind_24 rfl (lv_at hl 3 rfl) ?_
      refine lv_iconst (v := (0 : Int32)) hx hb dX1_bestKind_25 (by decide) ?_
      refine lv_bipush (v := (30 : Int32)) hx hb dX1_bestKind_26 (by decide) ?_
      obtain ⟨r10, g11, h⟩ := bo1 h
      refine zb_callS (As := [.int v3, .int (0 : Int32), .int (30 : Int32)]) (rest := []) ⟨hx, hb, hml, hown, hts⟩ (zc_X1_outside l D cI v3 (0 : Int32) (30 : Int32) r10 g11) (va_cwS 3 hts gX1_bestKind_X1_outside rfl rfl rfl hd_X1_outside.2 ⟨Nat.le_of_ble_eq_true rfl, Nat.le_of_ble_eq_true rfl⟩) hK hP hD hS hA (zb_none _) rfl hl.1 rfl (Nat.le_of_ble_eq_true rfl) dX1_bestKind_28 ⟨Nat.le_refl _, Nat.le_refl _⟩ (fun H locs hP hD hS => ?_)
      refine lv_istore (lv' := [(4, .int r10), (0, .ref (ad 0)), (1, .int v1), (2, .int v2), (3, .int v3)]) hx hb dX1_bestKind_31 hl (by decide) rfl (fun ls hl => ?_)
      refine lv_iload hx hb dX1_bestKind_33 (lv_at hl 0 rfl) ?_
      refine lv_if_eq (tgt := 45) hx hb dX1_bestKind_35 (by decide) (fun c12 => ?_) (fun c12 => ?_)
      · replace h := it_t c12 h
        refine lv_iconst (v := (0 : Int32)) hx hb dX1_bestKind_45 (by decide) ?_
        refine lv_istore (lv' := [(5, .int (0 : Int32)), (4, .int r10), (0, .ref (ad 0)), (1, .int v1), (2, .int v2), (3, .int v3)]) hx hb dX1_bestKind_46 hl (by decide) rfl (fun ls hl => ?_)
        refine lv_iconst (v := (0 : Int32)) hx hb dX1_bestKind_48 (by decide) ?_
        refine lv_istore (lv' := [(6, .int (0 : Int32)), (5, .int (0 : Int32)), (4, .int r10), (0, .ref (ad 0)), (1, .int v1), (2, .int v2), (3, .int v3)]) hx hb dX1_bestKind_49 hl (by decide) rfl (fun ls hl => ?_)
        refine lv_iconst (v := (0 : Int32)) hx hb dX1_bestKind_51 (by decide) ?_
        refine lv_istore (lv' := [(7, .int (0 : Int32)), (6, .int (0 : Int32)), (5, .int (0 : Int32)), (4, .int r10), (0, .ref (ad 0)), (1, .int v1), (2, .int v2), (3, .int v3)]) hx hb dX1_bestKind_52 hl (by decide) rfl (fun ls hl => ?_)
        have lp17 : ∀ (fu17 : Nat) (x13 : Int32) (x14 : Int32) (x15 : Int32) (x16 : BT) (H : Heap) (locs : List Loc) (hP : va_P D zb_cl (zb_G cI ad g_now x16 g_taken g_isTaken g_letters g_letterCount g_told g_toldCount g_refusals g_costs g_gains g_seed) H) (hD : va_D A (zb_G cI ad g_now x16 g_taken g_isTaken g_letters g_letterCount g_told g_toldCount g_refusals g_costs g_gains g_seed)) (hS : va_S A s.heap H locs) (ls : Array Slot) (hl : lv_has ls 9 [(0, .ref (ad 0)), (1, .int v1), (2, .int v2), (3, .int v3), (5, .int x13), (6, .int x14), (7, .int x15)]) (h : zl4 (zf_X1_bestKind_b54 v1 v2 v3 g_now g_refusals) fu17 x13 x14 x15 x16 = some (r0, w_g_mind, w_g_refusals)), W p l e rm_X1_bestKind s m args below meth c H locs 0 0 (zb_Q below D (some (.int r0)) (zb_G cI ad g_now w_g_mind g_taken g_isTaken g_letters g_letterCount g_told g_toldCount w_g_refusals g_costs g_gains g_seed) A args s) (F0 m 54 ls []) := by
          intro fu17
          induction fu17 with
          | zero => intro x13 x14 x15 x16 H locs hP hD hS ls hl h; exact zb_no h
          | succ fu17 ih17 =>
            intro x13 x14 x15 x16 H locs hP hD hS ls hl h
            replace h : zf_X1_bestKind_b54 v1 v2 v3 g_now g_refusals (zl4 (zf_X1_bestKind_b54 v1 v2 v3 g_now g_refusals) fu17) x13 x14 x15 x16 = some (r0, w_g_mind, w_g_refusals) := h
            unfold zf_X1_bestKind_b54 at h
            refine lv_iload hx hb dX1_bestKind_54 (lv_at hl 6 rfl) ?_
            refine lv_bipush (v := (6 : Int32)) hx hb dX1_bestKind_56 (by decide) ?_
            refine lv_icmp_ge (tgt := 114) hx hb dX1_bestKind_58 (by decide) (fun c18 => ?_) (fun c18 => ?_)
            · replace h := it_t c18 h
              refine lv_iload hx hb dX1_bestKind_114 (lv_at hl 4 rfl) ?_
              obtain ⟨rfl, rfl, rfl⟩ := re3 h
              exact zb_iret hx hb hr hlk hP hS dX1_bestKind_116
            · replace h := it_f c18 h
              refine lv_aload_n hx hb dX1_bestKind_61 rfl (lv_at hl 0 rfl) ?_
              refine va_get (D := D) (ci := 1) (v := .ref (ad 8)) (C := RX1) (T := TX1) (N := 12) hx hb hts zi_X1_bestKind_X1 hown hK.1 hP 0 rfl rfl 1 (by decide) (hts _ zk_X1_bestKind_1) (fun _ h9 => h9) rfl dX1_bestKind_62 ?_
              refine lv_aload_n hx hb dX1_bestKind_65 rfl (lv_at hl 0 rfl) ?_
              refine va_get (D := D) (ci := 1) (v := .ref (ad 1)) (C := RX1) (T := TX1) (N := 12) hx hb hts zi_X1_bestKind_X1 hown hK.1 hP 0 rfl rfl 0 (by decide) (hts _ zk_X1_bestKind_0) (fun _ h9 => h9) rfl dX1_bestKind_66 ?_
              obtain ⟨n19, g20, h⟩ := bo1 h
              refine zb_callV (As := [.ref (ad 1)]) (rest := []) ⟨hx, hb, hml, hown, hts⟩ (zc_X0_becomes l D cI (ad 8) (ad 9) (ad 10) (ad 11) (ad 12) (ad 13) (ad 14) (ad 1) (ad 2) (ad 3) (ad 4) (ad 5) (ad 6) (ad 7) x16 g_now n19 g20) (cwV 1 hts gX1_bestKind_X0_becomes rfl rfl rfl hd_X0_becomes ⟨Nat.le_of_ble_eq_true rfl, Nat.le_of_ble_eq_true rfl⟩) hK hP hD hS hA (zb_cGmn) (q0 := 0) rfl rfl rfl hl.1 rfl (Nat.le_of_ble_eq_true rfl) dX1_bestKind_69 ⟨Nat.le_refl _, Nat.le_refl _⟩ (fun H locs hP hD hS => ?_)
              refine lv_aload_n hx hb dX1_bestKind_72 rfl (lv_at hl 0 rfl) ?_
              refine va_get (D := D) (ci := 1) (v := .ref (ad 8)) (C := RX1) (T := TX1) (N := 12) hx hb hts zi_X1_bestKind_X1 hown hK.1 hP 0 rfl rfl 1 (by decide) (hts _ zk_X1_bestKind_1) (fun _ h9 => h9) rfl dX1_bestKind_73 ?_
              refine lv_iload_n hx hb dX1_bestKind_76 rfl (lv_at hl 1 rfl) ?_
              refine lv_iload hx hb dX1_bestKind_77 (lv_at hl 6 rfl) ?_
              obtain ⟨n21, g22, h⟩ := bo1 h
              refine zb_callV (As := [.int v1, .int x15]) (rest := []) ⟨hx, hb, hml, hown, hts⟩ (zc_X0_putKind l D cI (ad 8) (ad 9) (ad 10) (ad 11) (ad 12) (ad 13) (ad 14) n19 v1 x15 n21 g22) (cwV 2 hts gX1_bestKind_X0_putKind rfl rfl rfl hd_X0_putKind ⟨Nat.le_of_ble_eq_true rfl, Nat.le_of_ble_eq_true rfl⟩) hK hP hD hS hA (zb_cGm) (q0 := 0) rfl rfl rfl hl.1 rfl (Nat.le_of_ble_eq_true rfl) dX1_bestKind_79 ⟨Nat.le_refl _, Nat.le_refl _⟩ (fun H locs hP hD hS => ?_)
              refine lv_aload_n hx hb dX1_bestKind_82 rfl (lv_at hl 0 rfl) ?_
              refine va_get (D := D) (ci := 1) (v := .ref (ad 8)) (C := RX1) (T := TX1) (N := 12) hx hb hts zi_X1_bestKind_X1 hown hK.1 hP 0 rfl rfl 1 (by decide) (hts _ zk_X1_bestKind_1) (fun _ h9 => h9) rfl dX1_bestKind_83 ?_
              refine lv_iload_n hx hb dX1_bestKind_86 rfl (lv_at hl 2 rfl) ?_
              refine lv_iload_n hx hb dX1_bestKind_87 rfl (lv_at hl 3 rfl) ?_
              obtain ⟨r23, n24, g25, h⟩ := bo2 h
              refine zb_callV (As := [.int v2, .int v3]) (rest := []) ⟨hx, hb, hml, hown, hts⟩ (zc_X0_visitsIn l D cI (ad 8) (ad 9) (ad 10) (ad 11) (ad 12) (ad 13) (ad 14) n21 v2 v3 r23 n24 g25) (cwV 2 hts gX1_bestKind_X0_visitsIn rfl rfl rfl hd_X0_visitsIn ⟨Nat.le_of_ble_eq_true rfl, Nat.le_of_ble_eq_true rfl⟩) hK hP hD hS hA (zb_cGm) (q0 := 0) rfl rfl rfl hl.1 rfl (Nat.le_of_ble_eq_true rfl) dX1_bestKind_88 ⟨Nat.le_refl _, Nat.le_refl _⟩ (fun H locs hP hD hS => ?_)
              refine lv_istore (lv' := [(8, .int r23), (0, .ref (ad 0)), (1, .int v1), (2, .int v2), (3, .int v3), (5, .int x13), (6, .int x14), (7, .int x15)]) hx hb dX1_bestKind_91 hl (by decide) rfl (fun ls hl => ?_)
              refine lv_iload hx hb dX1_bestKind_93 (lv_at hl 0 rfl) ?_
              refine lv_iload hx hb dX1_bestKind_95 (lv_at hl 6 rfl) ?_
              refine lv_icmp_le (tgt := 108) hx hb dX1_bestKind_97 (by decide) (fun c26 => ?_) (fun c26 => ?_)
              · replace h := it_t c26 h
                refine lv_iinc (v := (x15 + (1 : Int32))) (lv' := [(7, .int (x15 + (1 : Int32))), (8, .int r23), (0, .ref (ad 0)), (1, .int v1), (2, .int v2), (3, .int v3), (5, .int x13), (6, .int x14)]) hx hb dX1_bestKind_108 hl (k := 7) rfl (by first | rfl | decide) (by decide) rfl (fun ls hl => ?_)
                refine lv_goto (tgt := 54) hx hb dX1_bestKind_111 (by decide) ?_
                exact ih17 x13 x14 (x15 + (1 : Int32)) n24 _ _ hP hD hS ls (lv_sub hl [2, 3, 4, 5, 6, 7, 0] rfl) h
              · replace h := it_f c26 h
                refine lv_iload hx hb dX1_bestKind_100 (lv_at hl 7 rfl) ?_
                refine lv_istore (lv' := [(5, .int x15), (8, .int r23), (0, .ref (ad 0)), (1, .int v1), (2, .int v2), (3, .int v3), (6, .int x14), (7, .int x15)]) hx hb dX1_bestKind_102 hl (by decide) rfl (fun ls hl => ?_)
                refine lv_iload hx hb dX1_bestKind_104 (lv_at hl 1 rfl) ?_
                refine lv_istore (lv' := [(6, .int r23), (5, .int x15), (8, .int r23), (0, .ref (ad 0)), (1, .int v1), (2, .int v2), (3, .int v3), (7, .int x15)]) hx hb dX1_bestKind_106 hl (by decide) rfl (fun ls hl => ?_)
                refine lv_iinc (v := (x15 + (1 : Int32))) (lv' := [(7, .int (x15 + (1 : Int32))), (6, .int r23), (5, .int x15), (8, .int r23), (0, .ref (ad 0)), (1, .int v1), (2, .int v2), (3, .int v3)]) hx hb dX1_bestKind_108 hl (k := 7) rfl (by first | rfl | decide) (by decide) rfl (fun ls hl => ?_)
                refine lv_goto (tgt := 54) hx hb dX1_bestKind_111 (by decide) ?_
                exact ih17 x15 r23 (x15 + (1 : Int32)) n24 _ _ hP hD hS ls (lv_sub hl [4, 5, 6, 7, 2, 1, 0] rfl) h
        exact lp17 zb_FU (0 : Int32) (0 : Int32) (0 : Int32) g_mind _ _ hP hD hS ls (lv_sub hl [4, 5, 6, 7, 2, 1, 0] rfl) h
      · replace h := it_f c12 h
        refine lv_aload_n hx hb dX1_bestKind_38 rfl (lv_at hl 1 rfl) ?_
        refine lv_iload hx hb dX1_bestKind_39 (lv_at hl 0 rfl) ?_
        obtain ⟨r27, n28, g29, h⟩ := bo2 h
        refine zb_callV (As := [.int r10]) (rest := []) ⟨hx, hb, hml, hown, hts⟩ (zc_X1_refuse l D cI ad g_now g_mind g_taken g_isTaken g_letters g_letterCount g_told g_toldCount g_refusals g_costs g_gains g_seed r10 r27 n28 g29) (cwV 1 hts gX1_bestKind_X1_refuse rfl rfl rfl hd_X1_refuse ⟨Nat.le_of_ble_eq_true rfl, Nat.le_of_ble_eq_true rfl⟩) hK hP hD hS hA (zb_sG) (q0 := 0) rfl rfl rfl hl.1 rfl (Nat.le_of_ble_eq_true rfl) dX1_bestKind_41 ⟨Nat.le_refl _, Nat.le_refl _⟩ (fun H locs hP hD hS => ?_)
        obtain ⟨rfl, rfl, rfl⟩ := re3 h
        exact zb_iret hx hb hr hlk hP hS dX1_bestKind_44
    · replace h := it_t c9 h
      refine lv_aload_n hx hb dX1_bestKind_18 rfl (lv_at hl 0 rfl) ?_
      refine lv_iconst (v := ((-1) : Int32)) hx hb dX1_bestKind_19 (by decide) ?_
      obtain ⟨r30, n31, g32, h⟩ := bo2 h
      refine zb_callV (As := [.int ((-1) : Int32)]) (rest := []) ⟨hx, hb, hml, hown, hts⟩ (zc_X1_refuse l D cI ad g_now g_mind g_taken g_isTaken g_letters g_letterCount g_told g_toldCount g_refusals g_costs g_gains g_seed ((-1) : Int32) r30 n31 g32) (cwV 1 hts gX1_bestKind_X1_refuse rfl rfl rfl hd_X1_refuse ⟨Nat.le_of_ble_eq_true rfl, Nat.le_of_ble_eq_true rfl⟩) hK hP hD hS hA (zb_sG) (q0 := 0) rfl rfl rfl hl.1 rfl (Nat.le_of_ble_eq_true rfl) dX1_bestKind_20 ⟨Nat.le_refl _, Nat.le_refl _⟩ (fun H locs hP hD hS => ?_)
      obtain ⟨rfl, rfl, rfl⟩ := re3 h
      exact zb_iret hx hb hr hlk hP hS dX1_bestKind_23
