abbrev rm_X1_refuse : Room := { frames := 0, cells := 0, slots := 0, locals := 0 }
theorem hd_X1_refuse : yX1_refuse.cls = RX1 ∧ yX1_refuse.cls ≠ "java/lang/invoke/MethodHandle" ∧ yX1_refuse.cls ≠ "java/lang/invoke/VarHandle" ∧ (parseMethodDescriptor yX1_refuse.desc).map (fun d => d.parameters.length) = some 1 := by decide +kernel
theorem zi_X1_refuse_X1 : ∀ w ∈ wsX10, w ∈ wsX1_refuse := fun _ h => List.mem_cons_of_mem _ (List.mem_append_right _ h)
theorem zk_X1_refuse_0 : Cond.fieldLink RX1 29 "GroutingIsFollowed" "refusals" "[I" ∈ wsX1_refuse := by decide +kernel
set_option maxHeartbeats 4000000 in
set_option maxRecDepth 100000 in
theorem zc_X1_refuse (l : Launch) (D : va_G) (cI : ClassId) (ad : Nat → Nat) (g_now : BT) (g_mind : BT) (g_taken : BT) (g_isTaken : Int32) (g_letters : (Nat → Int32)) (g_letterCount : Int32) (g_told : (Nat → Int32)) (g_toldCount : Int32) (g_refusals : (Nat → Int32)) (g_costs : (Nat → Int32)) (g_gains : (Nat → Int32)) (g_seed : Int32) (v1 : Int32) (r0 : Int32) (w_g_refusals : (Nat → Int32)) (h : zf_X1_refuse g_refusals v1 = some (r0, w_g_refusals)) : Cn l D cI yX1_refuse wsX1_refuse rm_X1_refuse [.ref (ad 0), .int v1] (zb_G cI ad g_now g_mind g_taken g_isTaken g_letters g_letterCount g_told g_toldCount g_refusals g_costs g_gains g_seed) (some (.int r0)) (zb_G cI ad g_now g_mind g_taken g_isTaken g_letters g_letterCount g_told g_toldCount w_g_refusals g_costs g_gains g_seed) := by
  refine zb_ofW (cc := cX1_refuse) (maxL := 3) (ret := (some .int)) (by decide) rfl (Nat.le_of_ble_eq_true rfl) ?_
  intro p e s m args below meth c A ls hx hb hr hml hts hown hlk hK hP hD hA hl
  have hS : va_S A s.heap s.heap [] := va_S.rf
  have hl : lv_has ls 3 [(0, .ref (ad 0)), (1, .int v1)] := hl
  unfold zf_X1_refuse at h
  refine lv_iload_n hx hb dX1_refuse_0 rfl (lv_at hl 1 rfl) ?_
  refine lv_ineg hx hb dX1_refuse_1 ?_
  refine lv_iconst (v := (1 : Int32)) hx hb dX1_refuse_2 (by decide) ?_
  refine lv_isub hx hb dX1_refuse_3 ?_
  refine lv_istore_n (lv' := [(2, .int ((-v1) - (1 : Int32))), (0, .ref (ad 0)), (1, .int v1)]) hx hb dX1_refuse_4 rfl hl (by decide) rfl (fun ls hl => ?_)
  refine lv_iload_n hx hb dX1_refuse_5 rfl (lv_at hl 0 rfl) ?_
  refine lv_if_lt (tgt := 28) hx hb dX1_refuse_6 (by decide) (fun c1 => ?_) (fun c1 => ?_)
  · replace h := it_t c1 h
    refine lv_iload_n hx hb dX1_refuse_28 rfl (lv_at hl 2 rfl) ?_
    obtain ⟨rfl, rfl⟩ := re2 h
    exact zb_iret hx hb hr hlk hP hS dX1_refuse_29
  · replace h := it_f c1 h
    refine lv_iload_n hx hb dX1_refuse_9 rfl (lv_at hl 0 rfl) ?_
    refine lv_aload_n hx hb dX1_refuse_10 rfl (lv_at hl 1 rfl) ?_
    refine va_get (D := D) (ci := 1) (v := .ref (ad 24)) (C := RX1) (T := TX1) (N := 12) hx hb hts zi_X1_refuse_X1 hown hK.1 hP 0 rfl rfl 8 (by decide) (hts _ zk_X1_refuse_0) (fun _ h9 => h9) rfl dX1_refuse_11 ?_
    refine va_alen (v := (6 : Int32)) hx hb hK.1 hP 24 0 rfl rfl rfl dX1_refuse_14 ?_
    refine lv_icmp_ge (tgt := 28) hx hb dX1_refuse_15 (by decide) (fun c2 => ?_) (fun c2 => ?_)
    · replace h := it_t c2 h
      refine lv_iload_n hx hb dX1_refuse_28 rfl (lv_at hl 2 rfl) ?_
      obtain ⟨rfl, rfl⟩ := re2 h
      exact zb_iret hx hb hr hlk hP hS dX1_refuse_29
    · replace h := it_f c2 h
      refine lv_aload_n hx hb dX1_refuse_18 rfl (lv_at hl 1 rfl) ?_
      refine va_get (D := D) (ci := 1) (v := .ref (ad 24)) (C := RX1) (T := TX1) (N := 12) hx hb hts zi_X1_refuse_X1 hown hK.1 hP 0 rfl rfl 8 (by decide) (hts _ zk_X1_refuse_0) (fun _ h9 => h9) rfl dX1_refuse_19 ?_
      refine lv_iload_n hx hb dX1_refuse_22 rfl (lv_at hl 0 rfl) ?_
      refine lv_dup2_11 hx hb dX1_refuse_23 rfl rfl ?_
      obtain ⟨h3, h⟩ := it_g h
      refine va_iald hx hb hK.1 hP 24 0 rfl rfl h3 dX1_refuse_24 ?_
      refine lv_iconst (v := (1 : Int32)) hx hb dX1_refuse_25 (by decide) ?_
      refine lv_iadd hx hb dX1_refuse_26 ?_
      obtain ⟨h4, h⟩ := it_g h
      refine va_iast hx hb hK.1 hP hD hS 24 0 rfl rfl h4 dX1_refuse_27 (fun H locs hP hD hS => ?_)
      have hP : va_P D zb_cl (zb_G cI ad g_now g_mind g_taken g_isTaken g_letters g_letterCount g_told g_toldCount (upd g_refusals ((-v1) - (1 : Int32)).toNatClampNeg ((g_refusals ((-v1) - (1 : Int32)).toNatClampNeg) + (1 : Int32))) g_costs g_gains g_seed) H := hP
      have hD : va_D A (zb_G cI ad g_now g_mind g_taken g_isTaken g_letters g_letterCount g_told g_toldCount (upd g_refusals ((-v1) - (1 : Int32)).toNatClampNeg ((g_refusals ((-v1) - (1 : Int32)).toNatClampNeg) + (1 : Int32))) g_costs g_gains g_seed) := hD
      refine lv_iload_n hx hb dX1_refuse_28 rfl (lv_at hl 2 rfl) ?_
      obtain ⟨rfl, rfl⟩ := re2 h
      exact zb_iret hx hb hr hlk hP hS dX1_refuse_29
abbrev rm_X1_letter : Room := { frames := 1, cells := 0, slots := 0, locals := 22 }
theorem hd_X1_letter : yX1_letter.cls = RX1 ∧ yX1_letter.cls ≠ "java/lang/invoke/MethodHandle" ∧ yX1_letter.cls ≠ "java/lang/invoke/VarHandle" ∧ (parseMethodDescriptor yX1_letter.desc).map (fun d => d.parameters.length) = some 1 := by decide +kernel
theorem zi_X1_letter_X1 : ∀ w ∈ wsX10, w ∈ wsX1_letter := fun _ h => List.mem_cons_of_mem _ (List.mem_append_right _ h)
theorem zk_X1_letter_0 : Cond.fieldLink RX1 42 "GroutingIsFollowed" "letterCount" "I" ∈ wsX1_letter := by decide +kernel
theorem zk_X1_letter_1 : Cond.fieldLink RX1 22 "GroutingIsFollowed" "letters" "[I" ∈ wsX1_letter := by decide +kernel
set_option maxHeartbeats 4000000 in
set_option maxRecDepth 100000 in
theorem zc_X1_letter (l : Launch) (D : va_G) (cI : ClassId) (ad : Nat → Nat) (g_now : BT) (g_mind : BT) (g_taken : BT) (g_isTaken : Int32) (g_letters : (Nat → Int32)) (g_letterCount : Int32) (g_told : (Nat → Int32)) (g_toldCount : Int32) (g_refusals : (Nat → Int32)) (g_costs : (Nat → Int32)) (g_gains : (Nat → Int32)) (g_seed : Int32) (v1 : Int32) (r0 : Int32) (w_g_letters : (Nat → Int32)) (w_g_letterCount : Int32) (w_g_refusals : (Nat → Int32)) (h : zf_X1_letter g_letters g_letterCount g_refusals v1 = some (r0, w_g_letters, w_g_letterCount, w_g_refusals)) : Cn l D cI yX1_letter wsX1_letter rm_X1_letter [.ref (ad 0), .int v1] (zb_G cI ad g_now g_mind g_taken g_isTaken g_letters g_letterCount g_told g_toldCount g_refusals g_costs g_gains g_seed) (some (.int r0)) (zb_G cI ad g_now g_mind g_taken g_isTaken w_g_letters w_g_letterCount g_told g_toldCount w_g_refusals g_costs g_gains g_seed) := by
  refine zb_ofW (cc := cX1_letter) (maxL := 2) (ret := (some .int)) (by decide) rfl (Nat.le_of_ble_eq_true rfl) ?_
  intro p e s m args below meth c A ls hx hb hr hml hts hown hlk hK hP hD hA hl
  have hS : va_S A s.heap s.heap [] := va_S.rf
  have hl : lv_has ls 2 [(0, .ref (ad 0)), (1, .int v1)] := hl
  unfold zf_X1_letter at h
  refine lv_iload_n hx hb dX1_letter_0 rfl (lv_at hl 1 rfl) ?_
  refine lv_if_ge (tgt := 11) hx hb dX1_letter_1 (by decide) (fun c1 => ?_) (fun c1 => ?_)
  · replace h := it_t c1 h
    refine lv_iload_n hx hb dX1_letter_11 rfl (lv_at hl 1 rfl) ?_
    refine lv_sipush (v := (255 : Int32)) hx hb dX1_letter_12 (by decide) ?_
    refine lv_icmp_gt (tgt := 27) hx hb dX1_letter_15 (by decide) (fun c2 => ?_) (fun c2 => ?_)
    · replace h := it_t c2 h
      refine lv_aload_n hx hb dX1_letter_27 rfl (lv_at hl 0 rfl) ?_
      refine lv_bipush (v := ((-6) : Int32)) hx hb dX1_letter_28 (by decide) ?_
      obtain ⟨r3, n4, g5, h⟩ := bo2 h
      refine zb_callV (As := [.int ((-6) : Int32)]) (rest := []) ⟨hx, hb, hml, hown, hts⟩ (zc_X1_refuse l D cI ad g_now g_mind g_taken g_isTaken g_letters g_letterCount g_told g_toldCount g_refusals g_costs g_gains g_seed ((-6) : Int32) r3 n4 g5) (cwV 1 hts gX1_letter_X1_refuse rfl rfl rfl hd_X1_refuse ⟨Nat.le_of_ble_eq_true rfl, Nat.le_of_ble_eq_true rfl⟩) hK hP hD hS hA (zb_sG) (q0 := 0) rfl rfl rfl hl.1 rfl (Nat.le_of_ble_eq_true rfl) dX1_letter_30 ⟨Nat.le_refl _, Nat.le_refl _⟩ (fun H locs hP hD hS => ?_)
      obtain ⟨rfl, rfl, rfl, rfl⟩ := re4 h
      exact zb_iret hx hb hr hlk hP hS dX1_letter_33
    · replace h := it_f c2 h
      refine lv_aload_n hx hb dX1_letter_18 rfl (lv_at hl 0 rfl) ?_
      refine va_get (D := D) (ci := 1) (v := .int g_letterCount) (C := RX1) (T := TX1) (N := 12) hx hb hts zi_X1_letter_X1 hown hK.1 hP 0 rfl rfl 5 (by decide) (hts _ zk_X1_letter_0) (fun _ h9 => h9) rfl dX1_letter_19 ?_
      refine lv_bipush (v := (96 : Int32)) hx hb dX1_letter_22 (by decide) ?_
      refine lv_icmp_lt (tgt := 34) hx hb dX1_letter_24 (by decide) (fun c6 => ?_) (fun c6 => ?_)
      · replace h := it_t c6 h
        refine lv_aload_n hx hb dX1_letter_34 rfl (lv_at hl 0 rfl) ?_
        refine va_get (D := D) (ci := 1) (v := .int g_letterCount) (C := RX1) (T := TX1) (N := 12) hx hb hts zi_X1_letter_X1 hown hK.1 hP 0 rfl rfl 5 (by decide) (hts _ zk_X1_letter_0) (fun _ h9 => h9) rfl dX1_letter_35 ?_
        refine lv_if_lt (tgt := 63) hx hb dX1_letter_38 (by decide) (fun c7 => ?_) (fun c7 => ?_)
        · replace h := it_t c7 h
          refine lv_aload_n hx hb dX1_letter_63 rfl (lv_at hl 0 rfl) ?_
          refine lv_dup hx hb dX1_letter_64 rfl ?_
          refine va_get (D := D) (ci := 1) (v := .int g_letterCount) (C := RX1) (T := TX1) (N := 12) hx hb hts zi_X1_letter_X1 hown hK.1 hP 0 rfl rfl 5 (by decide) (hts _ zk_X1_letter_0) (fun _ h9 => h9) rfl dX1_letter_65 ?_
          refine lv_iconst (v := (1 : Int32)) hx hb dX1_letter_68 (by decide) ?_
          refine lv_iadd hx hb dX1_letter_69 ?_
          refine va_put (D := D) (ci := 1) (v := .int (g_letterCount + (1 : Int32))) (ty := .int) (C := RX1) (T := TX1) (N := 12) hx hb hts zi_X1_letter_X1 tyX1 tyX1_ok nmX1 hown hK.1 hP hD hS 0 rfl rfl 5 (by decide) (hts _ zk_X1_letter_0) (fun _ h9 => h9) rfl (by decide +kernel) rfl rfl (Nat.le_of_ble_eq_true rfl) dX1_letter_70 (fun H locs hP hD hS => ?_)
          have hP : va_P D zb_cl (zb_G cI ad g_now g_mind g_taken g_isTaken g_letters (g_letterCount + (1 : Int32)) g_told g_toldCount g_refusals g_costs g_gains g_seed) H := hP
          have hD : va_D A (zb_G cI ad g_now g_mind g_taken g_isTaken g_letters (g_letterCount + (1 : Int32)) g_told g_toldCount g_refusals g_costs g_gains g_seed) := hD
          refine lv_aload_n hx hb dX1_letter_73 rfl (lv_at hl 0 rfl) ?_
          refine va_get (D := D) (ci := 1) (v := .int (g_letterCount + (1 : Int32))) (C := RX1) (T := TX1) (N := 12) hx hb hts zi_X1_letter_X1 hown hK.1 hP 0 rfl rfl 5 (by decide) (hts _ zk_X1_letter_0) (fun _ h9 => h9) rfl dX1_letter_74 ?_
          obtain ⟨rfl, rfl, rfl, rfl⟩ := re4 h
          exact zb_iret hx hb hr hlk hP hS dX1_letter_77
        · replace h := it_f c7 h
          refine lv_aload_n hx hb dX1_letter_41 rfl (lv_at hl 0 rfl) ?_
          refine va_get (D := D) (ci := 1) (v := .int g_letterCount) (C := RX1) (T := TX1) (N := 12) hx hb hts zi_X1_letter_X1 hown hK.1 hP 0 rfl rfl 5 (by decide) (hts _ zk_X1_letter_0) (fun _ h9 => h9) rfl dX1_letter_42 ?_
          refine lv_aload_n hx hb dX1_letter_45 rfl (lv_at hl 0 rfl) ?_
          refine va_get (D := D) (ci := 1) (v := .ref (ad 22)) (C := RX1) (T := TX1) (N := 12) hx hb hts zi_X1_letter_X1 hown hK.1 hP 0 rfl rfl 4 (by decide) (hts _ zk_X1_letter_1) (fun _ h9 => h9) rfl dX1_letter_46 ?_
          refine va_alen (v := (96 : Int32)) hx hb hK.1 hP 22 0 rfl rfl rfl dX1_letter_49 ?_
          refine lv_icmp_ge (tgt := 63) hx hb dX1_letter_50 (by decide) (fun c8 => ?_) (fun c8 => ?_)
          · replace h := it_t c8 h
            refine lv_aload_n hx hb dX1_letter_63 rfl (lv_at hl 0 rfl) ?_
            refine lv_dup hx hb dX1_letter_64 rfl ?_
            refine va_get (D := D) (ci := 1) (v := .int g_letterCount) (C := RX1) (T := TX1) (N := 12) hx hb hts zi_X1_letter_X1 hown hK.1 hP 0 rfl rfl 5 (by decide) (hts _ zk_X1_letter_0) (fun _ h9 => h9) rfl dX1_letter_65 ?_
            refine lv_iconst (v := (1 : Int32)) hx hb dX1_letter_68 (by decide) ?_
            refine lv_iadd hx hb dX1_letter_69 ?_
            refine va_put (D := D) (ci := 1) (v := .int (g_letterCount + (1 : Int32))) (ty := .int) (C := RX1) (T := TX1) (N := 12) hx hb hts zi_X1_letter_X1 tyX1 tyX1_ok nmX1 hown hK.1 hP hD hS 0 rfl rfl 5 (by decide) (hts _ zk_X1_letter_0) (fun _ h9 => h9) rfl (by decide +kernel) rfl rfl (Nat.le_of_ble_eq_true rfl) dX1_letter_70 (fun H locs hP hD hS => ?_)
            have hP : va_P D zb_cl (zb_G cI ad g_now g_mind g_taken g_isTaken g_letters (g_letterCount + (1 : Int32)) g_told g_toldCount g_refusals g_costs g_gains g_seed) H := hP
            have hD : va_D A (zb_G cI ad g_now g_mind g_taken g_isTaken g_letters (g_letterCount + (1 : Int32)) g_told g_toldCount g_refusals g_costs g_gains g_seed) := hD
            refine lv_aload_n hx hb dX1_letter_73 rfl (lv_at hl 0 rfl) ?_
            refine va_get (D := D) (ci := 1) (v := .int (g_letterCount + (1 : Int32))) (C := RX1) (T := TX1) (N := 12) hx hb hts zi_X1_letter_X1 hown hK.1 hP 0 rfl rfl 5 (by decide) (hts _ zk_X1_letter_0) (fun _ h9 => h9) rfl dX1_letter_74 ?_
            obtain ⟨rfl, rfl, rfl, rfl⟩ := re4 h
            exact zb_iret hx hb hr hlk hP hS dX1_letter_77
          · replace h := it_f c8 h
            refine lv_aload_n hx hb dX1_letter_53 rfl (lv_at hl 0 rfl) ?_
            refine va_get (D := D) (ci := 1) (v := .ref (ad 22)) (C := RX1) (T := TX1) (N := 12) hx hb hts zi_X1_letter_X1 hown hK.1 hP 0 rfl rfl 4 (by decide) (hts _ zk_X1_letter_1) (fun _ h9 => h9) rfl dX1_letter_54 ?_
            refine lv_aload_n hx hb dX1_letter_57 rfl (lv_at hl 0 rfl) ?_
            refine va_get (D := D) (ci := 1) (v := .int g_letterCount) (C := RX1) (T := TX1) (N := 12) hx hb hts zi_X1_letter_X1 hown hK.1 hP 0 rfl rfl 5 (by decide) (hts _ zk_X1_letter_0) (fun _ h9 => h9) rfl dX1_letter_58 ?_
            refine lv_iload_n hx hb dX1_letter_61 rfl (lv_at hl 1 rfl) ?_
            obtain ⟨h9, h⟩ := it_g h
            refine va_iast hx hb hK.1 hP hD hS 22 0 rfl rfl h9 dX1_letter_62 (fun H locs hP hD hS => ?_)
            have hP : va_P D zb_cl (zb_G cI ad g_now g_mind g_taken g_isTaken (upd g_letters g_letterCount.toNatClampNeg v1) g_letterCount g_told g_toldCount g_refusals g_costs g_gains g_seed) H := hP
            have hD : va_D A (zb_G cI ad g_now g_mind g_taken g_isTaken (upd g_letters g_letterCount.toNatClampNeg v1) g_letterCount g_told g_toldCount g_refusals g_costs g_gains g_seed) := hD
            refine lv_aload_n hx hb dX1_letter_63 rfl (lv_at hl 0 rfl) ?_
            refine lv_dup hx hb dX1_letter_64 rfl ?_
            refine va_get (D := D) (ci := 1) (v := .int g_letterCount) (C := RX1) (T := TX1) (N := 12) hx hb hts zi_X1_letter_X1 hown hK.1 hP 0 rfl rfl 5 (by decide) (hts _ zk_X1_letter_0) (fun _ h9 => h9) rfl dX1_letter_65 ?_
            refine lv_iconst (v := (1 : Int32)) hx hb dX1_letter_68 (by decide) ?_
            refine lv_iadd hx hb dX1_letter_69 ?_
            refine va_put (D := D) (ci := 1) (v := .int (g_letterCount + (1 : Int32))) (ty := .int) (C := RX1) (T := TX1) (N := 12) hx hb hts zi_X1_letter_X1 tyX1 tyX1_ok nmX1 hown hK.1 hP hD hS 0 rfl rfl 5 (by decide) (hts _ zk_X1_letter_0) (fun _ h9 => h9) rfl (by decide +kernel) rfl rfl (Nat.le_of_ble_eq_true rfl) dX1_letter_70 (fun H locs hP hD hS => ?_)
            have hP : va_P D zb_cl (zb_G cI ad g_now g_mind g_taken g_isTaken (upd g_letters g_letterCount.toNatClampNeg v1) (g_letterCount + (1 : Int32)) g_told g_toldCount g_refusals g_costs g_gains g_seed) H := hP
            have hD : va_D A (zb_G cI ad g_now g_mind g_taken g_isTaken (upd g_letters g_letterCount.toNatClampNeg v1) (g_letterCount + (1 : Int32)) g_told g_toldCount g_refusals g_costs g_gains g_seed) := hD
            refine lv_aload_n hx hb dX1_letter_73 rfl (lv_at hl 0 rfl) ?_
            refine va_get (D := D) (ci := 1) (v := .int (g_letterCount + (1 : Int32))) (C := RX1) (T := TX1) (N := 12) hx hb hts zi_X1_letter_X1 hown hK.1 hP 0 rfl rfl 5 (by decide) (hts _ zk_X1_letter_0) (fun _ h9 => h9) rfl dX1_letter_74 ?_
            obtain ⟨rfl, rfl, rfl, rfl⟩ := re4 h
            exact zb_iret hx hb hr hlk hP hS dX1_letter_77
      · replace h := it_f c6 h
        refine lv_aload_n hx hb dX1_letter_27 rfl (lv_at hl 0 rfl) ?_
        refine lv_bipush (v := ((-6) : Int32)) hx hb dX1_letter_28 (by decide) ?_
        obtain ⟨r10, n11, g12, h⟩ := bo2 h
        refine zb_callV (As := [.int ((-6) : Int32)]) (rest := []) ⟨hx, hb, hml, hown, hts⟩ (zc_X1_refuse l D cI ad g_now g_mind g_taken g_isTaken g_letters g_letterCount g_told g_toldCount g_refusals g_costs g_gains g_seed ((-6) : Int32) r10 n11 g12) (cwV 1 hts gX1_letter_X1_refuse rfl rfl rfl hd_X1_refuse ⟨Nat.le_of_ble_eq_true rfl, Nat.le_of_ble_eq_true rfl⟩) hK hP hD hS hA (zb_sG) (q0 := 0) rfl rfl rfl hl.1 rfl (Nat.le_of_ble_eq_true rfl) dX1_letter_30 ⟨Nat.le_refl _, Nat.le_refl _⟩ (fun H locs hP hD hS => ?_)
        obtain ⟨rfl, rfl, rfl, rfl⟩ := re4 h
        exact zb_iret hx hb hr hlk hP hS dX1_letter_33
  · replace h := it_f c1 h
    refine lv_aload_n hx hb dX1_letter_4 rfl (lv_at hl 0 rfl) ?_
    refine lv_bipush (v := ((-4) : Int32)) hx hb dX1_letter_5 (by decide) ?_
    obtain ⟨r13, n14, g15, h⟩ := bo2 h
    refine zb_callV (As := [.int ((-4) : Int32)]) (rest := []) ⟨hx, hb, hml, hown, hts⟩ (zc_X1_refuse l D cI ad g_now g_mind g_taken g_isTaken g_letters g_letterCount g_told g_toldCount g_refusals g_costs g_gains g_seed ((-4) : Int32) r13 n14 g15) (cwV 1 hts gX1_letter_X1_refuse rfl rfl rfl hd_X1_refuse ⟨Nat.le_of_ble_eq_true rfl, Nat.le_of_ble_eq_true rfl⟩) hK hP hD hS hA (zb_sG) (q0 := 0) rfl rfl rfl hl.1 rfl (Nat.le_of_ble_eq_true rfl) dX1_letter_7 ⟨Nat.le_refl _, Nat.le_refl _⟩ (fun H locs hP hD hS => ?_)
    obtain ⟨rfl, rfl, rfl, rfl⟩ := re4 h
    exact zb_iret hx hb hr hlk hP hS dX1_letter_10
abbrev rm_X1_kindBy : Room := { frames := 4, cells := 0, slots := 0, locals := 91 }
theorem hd_X1_kindBy : yX1_kindBy.cls = RX1 ∧ yX1_kindBy.cls ≠ "java/lang/invoke/MethodHandle" ∧ yX1_kindBy.cls ≠ "java/lang/invoke/VarHandle" ∧ (parseMethodDescriptor yX1_kindBy.desc).map (fun d => d.parameters.length) = some 1 := by decide +kernel
set_option maxHeartbeats 4000000 in
set_option maxRecDepth 100000 in
theorem zc_X1_kindBy (l : Launch) (D : va_G) (cI : ClassId) (aK aV : Nat → Nat)  (v0 : Int32) (r0 : Int32) (h : zf_X1_kindBy v0 = some r0) : CnE l D cI aK aV yX1_kindBy wsX1_kindBy rm_X1_kindBy [.int v0] ([]) (some (.int r0)) ([]) := by
  refine zb_ofWE (cc := cX1_kindBy) (maxL := 1) (ret := (some .int)) (by decide) rfl (Nat.le_of_ble_eq_true rfl) ?_
  intro p e s m args below meth c A ls hx hb hr hml hts hown hlk hK hE hP hD hA hl
  have hS : va_S A s.heap s.heap [] := va_S.rf
  have hl : lv_has ls 1 [(0, .int v0)] := hl
  unfold zf_X1_kindBy at h
  refine lv_iload_n hx hb dX1_kindBy_0 rfl (lv_at hl 0 rfl) ?_
  refine lv_if_ge (tgt := 8) hx hb dX1_kindBy_1 (by decide) (fun c1 => ?_) (fun c1 => ?_)
  · replace h := it_t c1 h
    refine va_ldcS hx hb hown hE.2.2.2.2.2.2.2 dX1_kindBy_8 ?_
    refine lv_iload_n hx hb dX1_kindBy_10 rfl (lv_at hl 0 rfl) ?_
    refine lv_i2c (v := (v0.toUInt32 % 65536).toInt32) hx hb dX1_kindBy_11 rfl ?_
    obtain ⟨r2, g3, h⟩ := bo1 h
    refine zb_callVS (k := 4) (As := [.int (v0.toUInt32 % 65536).toInt32]) (rest := []) ⟨hx, hb, hml, hown, hts⟩ (zc_J0_indexOf_0f7a4 l D cI aK aV 4 (v0.toUInt32 % 65536).toInt32 r2 g3) (cwV 1 hts gX1_kindBy_J0_indexOf_0f7a4 rfl rfl rfl hd_J0_indexOf_0f7a4 ⟨Nat.le_of_ble_eq_true rfl, Nat.le_of_ble_eq_true rfl⟩) hK hE hP hD hS hA (zb_none _) (by decide) rfl hl.1 rfl (Nat.le_of_ble_eq_true rfl) dX1_kindBy_12 ⟨Nat.le_refl _, Nat.le_refl _⟩ (fun H locs hP hD hS => ?_)
    obtain rfl := re1 h
    exact zb_iret hx hb hr hlk hP hS dX1_kindBy_15
  · replace h := it_f c1 h
    refine lv_iconst (v := ((-1) : Int32)) hx hb dX1_kindBy_4 (by decide) ?_
    refine lv_goto (tgt := 15) hx hb dX1_kindBy_5 (by decide) ?_
    obtain rfl := re1 h
    exact zb_iret hx hb hr hlk hP hS dX1_kindBy_15
abbrev rm_X1_fits : Room := { frames := 5, cells := 0, slots := 0, locals := 111 }
theorem hd_X1_fits : yX1_fits.cls = RX1 ∧ yX1_fits.cls ≠ "java/lang/invoke/MethodHandle" ∧ yX1_fits.cls ≠ "java/lang/invoke/VarHandle" ∧ (parseMethodDescriptor yX1_fits.desc).map (fun d => d.parameters.length) = some 2 := by decide +kernel
set_option maxHeartbeats 4000000 in
set_option maxRecDepth 100000 in
theorem zc_X1_fits (l : Launch) (D : va_G) (cI : ClassId) (aK aV : Nat → Nat)  (v0 : Int32) (v1 : Int32) (r0 : Int32) (h : zf_X1_fits v0 v1 = some r0) : CnE l D cI aK aV yX1_fits wsX1_fits rm_X1_fits [.int v0, .int v1] ([]) (some (.int r0)) ([]) := by
  refine zb_ofWE (cc := cX1_fits) (maxL := 2) (ret := (some .boolean)) (by decide) rfl (Nat.le_of_ble_eq_true rfl) ?_
  intro p e s m args below meth c A ls hx hb hr hml hts hown hlk hK hE hP hD hA hl
  have hS : va_S A s.heap s.heap [] := va_S.rf
  have hl : lv_has ls 2 [(0, .int v0), (1, .int v1)] := hl
  unfold zf_X1_fits at h
  refine lv_iload_n hx hb dX1_fits_0 rfl (lv_at hl 1 rfl) ?_
  refine lv_bipush (v := (100 : Int32)) hx hb dX1_fits_1 (by decide) ?_
  refine lv_icmp_ne (tgt := 24) hx hb dX1_fits_3 (by decide) (fun c1 => ?_) (fun c1 => ?_)
  · replace h := it_f c1 h
    refine lv_iload_n hx hb dX1_fits_24 rfl (lv_at hl 1 rfl) ?_
    refine lv_bipush (v := (107 : Int32)) hx hb dX1_fits_25 (by decide) ?_
    refine lv_icmp_ne (tgt := 43) hx hb dX1_fits_27 (by decide) (fun c2 => ?_) (fun c2 => ?_)
    · replace h := it_f c2 h
      refine lv_iload_n hx hb dX1_fits_43 rfl (lv_at hl 0 rfl) ?_
      refine lv_iload_n hx hb dX1_fits_44 rfl (lv_at hl 1 rfl) ?_
      refine lv_icmp_ne (tgt := 52) hx hb dX1_fits_45 (by decide) (fun c3 => ?_) (fun c3 => ?_)
      · replace h := it_f c3 h
        refine lv_iconst (v := (0 : Int32)) hx hb dX1_fits_52 (by decide) ?_
        obtain rfl := re1 h
        exact zb_zret hx hb hr hlk rfl hP hS dX1_fits_53
      · replace h := it_t c3 h
        refine lv_iconst (v := (1 : Int32)) hx hb dX1_fits_48 (by decide) ?_
        refine lv_goto (tgt := 53) hx hb dX1_fits_49 (by decide) ?_
        obtain rfl := re1 h
        exact zb_zret hx hb hr hlk rfl hP hS dX1_fits_53
    · replace h := it_t c2 h
      refine lv_iload_n hx hb dX1_fits_30 rfl (lv_at hl 0 rfl) ?_
      obtain ⟨r4, g5, h⟩ := bo1 h
      refine zb_callSE (As := [.int v0]) (rest := []) ⟨hx, hb, hml, hown, hts⟩ (zc_X1_kindBy l D cI aK aV v0 r4 g5) (va_cwS 1 hts gX1_fits_X1_kindBy rfl rfl rfl hd_X1_kindBy.2 ⟨Nat.le_of_ble_eq_true rfl, Nat.le_of_ble_eq_true rfl⟩) hK hE hP hD hS hA (zb_none _) rfl hl.1 rfl (Nat.le_of_ble_eq_true rfl) dX1_fits_31 ⟨Nat.le_refl _, Nat.le_refl _⟩ (fun H locs hP hD hS => ?_)
      refine lv_if_lt (tgt := 41) hx hb dX1_fits_34 (by decide) (fun c6 => ?_) (fun c6 => ?_)
      · replace h := it_t c6 h
        refine lv_iconst (v := (0 : Int32)) hx hb dX1_fits_41 (by decide) ?_
        obtain rfl := re1 h
        exact zb_zret hx hb hr hlk rfl hP hS dX1_fits_42
      · replace h := it_f c6 h
        refine lv_iconst (v := (1 : Int32)) hx hb dX1_fits_37 (by decide) ?_
        refine lv_goto (tgt := 42) hx hb dX1_fits_38 (by decide) ?_
        obtain rfl := re1 h
        exact zb_zret hx hb hr hlk rfl hP hS dX1_fits_42
  · replace h := it_t c1 h
    refine lv_iload_n hx hb dX1_fits_6 rfl (lv_at hl 0 rfl) ?_
    refine lv_bipush (v := (48 : Int32)) hx hb dX1_fits_7 (by decide) ?_
    refine lv_icmp_lt (tgt := 22) hx hb dX1_fits_9 (by decide) (fun c7 => ?_) (fun c7 => ?_)
    · replace h := it_t c7 h
      refine lv_iconst (v := (0 : Int32)) hx hb dX1_fits_22 (by decide) ?_
      obtain rfl := re1 h
      exact zb_zret hx hb hr hlk rfl hP hS dX1_fits_23
    · replace h := it_f c7 h
      refine lv_iload_n hx hb dX1_fits_12 rfl (lv_at hl 0 rfl) ?_
      refine lv_bipush (v := (57 : Int32)) hx hb dX1_fits_13 (by decide) ?_
      refine lv_icmp_gt (tgt := 22) hx hb dX1_fits_15 (by decide) (fun c8 => ?_) (fun c8 => ?_)
      · replace h := it_t c8 h
        refine lv_iconst (v := (0 : Int32)) hx hb dX1_fits_22 (by decide) ?_
        obtain rfl := re1 h
        exact zb_zret hx hb hr hlk rfl hP hS dX1_fits_23
      · replace h := it_f c8 h
        refine lv_iconst (v := (1 : Int32)) hx hb dX1_fits_18 (by decide) ?_
        refine lv_goto (tgt := 23) hx hb dX1_fits_19 (by decide) ?_
        obtain rfl := re1 h
        exact zb_zret hx hb hr hlk rfl hP hS dX1_fits_23
abbrev rm_X1_formBehind : Room := { frames := 0, cells := 0, slots := 0, locals := 0 }
theorem hd_X1_formBehind : yX1_formBehind.cls = RX1 ∧ yX1_formBehind.cls ≠ "java/lang/invoke/MethodHandle" ∧ yX1_formBehind.cls ≠ "java/lang/invoke/VarHandle" ∧ (parseMethodDescriptor yX1_formBehind.desc).map (fun d => d.parameters.length) = some 1 := by decide +kernel
set_option maxHeartbeats 4000000 in
set_option maxRecDepth 100000 in
theorem zc_X1_formBehind (l : Launch) (D : va_G) (cI : ClassId) (aK aV : Nat → Nat)  (v0 : Int32) (r0 : Nat) (h : zf_X1_formBehind v0 = some r0) : CnE l D cI aK aV yX1_formBehind wsX1_formBehind rm_X1_formBehind [.int v0] ([]) (some (.ref (aK r0))) ([]) := by
  refine zb_ofWE (cc := cX1_formBehind) (maxL := 1) (ret := (some (.object "java/lang/String"))) (by decide) rfl (Nat.le_of_ble_eq_true rfl) ?_
  intro p e s m args below meth c A ls hx hb hr hml hts hown hlk hK hE hP hD hA hl
  have hS : va_S A s.heap s.heap [] := va_S.rf
  have hl : lv_has ls 1 [(0, .int v0)] := hl
  unfold zf_X1_formBehind at h
  refine lv_iload_n hx hb dX1_formBehind_0 rfl (lv_at hl 0 rfl) ?_
  by_cases c1 : v0 = (97 : Int32)
  · replace h := it_t c1 h
    have e9 : v0.toInt = 97 := by rw [c1]; rfl
    refine lv_lookup (tgt := 63) hx hb dX1_formBehind_1 (by decide) (by rw [e9]; try rfl) (by decide) ?_
    refine va_ldcS hx hb hown hE.2.2.2.2.1 dX1_formBehind_63 ?_
    obtain rfl := re1 h
    exact zb_aret hx hb hr hlk hP hS dX1_formBehind_65
  replace h := it_f c1 h
  by_cases c2 : v0 = (104 : Int32)
  · replace h := it_t c2 h
    have e9 : v0.toInt = 104 := by rw [c2]; rfl
    refine lv_lookup (tgt := 66) hx hb dX1_formBehind_1 (by decide) (by rw [e9]; try rfl) (by decide) ?_
    refine va_ldcS hx hb hown hE.2.2.2.2.2.1 dX1_formBehind_66 ?_
    obtain rfl := re1 h
    exact zb_aret hx hb hr hlk hP hS dX1_formBehind_68
  replace h := it_f c2 h
  by_cases c3 : v0 = (110 : Int32)
  · replace h := it_t c3 h
    have e9 : v0.toInt = 110 := by rw [c3]; rfl
    refine lv_lookup (tgt := 60) hx hb dX1_formBehind_1 (by decide) (by rw [e9]; try rfl) (by decide) ?_
    refine va_ldcS hx hb hown hE.2.2.2.1 dX1_formBehind_60 ?_
    obtain rfl := re1 h
    exact zb_aret hx hb hr hlk hP hS dX1_formBehind_62
  replace h := it_f c3 h
  by_cases c4 : v0 = (112 : Int32)
  · replace h := it_t c4 h
    have e9 : v0.toInt = 112 := by rw [c4]; rfl
    refine lv_lookup (tgt := 63) hx hb dX1_formBehind_1 (by decide) (by rw [e9]; try rfl) (by decide) ?_
    refine va_ldcS hx hb hown hE.2.2.2.2.1 dX1_formBehind_63 ?_
    obtain rfl := re1 h
    exact zb_aret hx hb hr hlk hP hS dX1_formBehind_65
  replace h := it_f c4 h
  by_cases c5 : v0 = (115 : Int32)
  · replace h := it_t c5 h
    have e9 : v0.toInt = 115 := by rw [c5]; rfl
    refine lv_lookup (tgt := 66) hx hb dX1_formBehind_1 (by decide) (by rw [e9]; try rfl) (by decide) ?_
    refine va_ldcS hx hb hown hE.2.2.2.2.2.1 dX1_formBehind_66 ?_
    obtain rfl := re1 h
    exact zb_aret hx hb hr hlk hP hS dX1_formBehind_68
  replace h := it_f c5 h
  by_cases c6 : v0 = (119 : Int32)
  · replace h := it_t c6 h
    have e9 : v0.toInt = 119 := by rw [c6]; rfl
    refine lv_lookup (tgt := 63) hx hb dX1_formBehind_1 (by decide) (by rw [e9]; try rfl) (by decide) ?_
    refine va_ldcS hx hb hown hE.2.2.2.2.1 dX1_formBehind_63 ?_
    obtain rfl := re1 h
    exact zb_aret hx hb hr hlk hP hS dX1_formBehind_65
  replace h := it_f c6 h
  have e_c1 := sw_ne (k := 97) rfl c1
  have e_c2 := sw_ne (k := 104) rfl c2
  have e_c3 := sw_ne (k := 110) rfl c3
  have e_c4 := sw_ne (k := 112) rfl c4
  have e_c5 := sw_ne (k := 115) rfl c5
  have e_c6 := sw_ne (k := 119) rfl c6
  refine lv_lookup (tgt := 69) hx hb dX1_formBehind_1 (by decide) (by simp only [Op.lookupswitch.offset]; rw [if_neg (fun q => e_c1 q.symm), if_neg (fun q => e_c2 q.symm), if_neg (fun q => e_c3 q.symm), if_neg (fun q => e_c4 q.symm), if_neg (fun q => e_c5 q.symm), if_neg (fun q => e_c6 q.symm)]) (by decide) ?_
  refine va_ldcS hx hb hown hE.2.2.2.2.2.2.1 dX1_formBehind_69 ?_
  obtain rfl := re1 h
  exact zb_aret hx hb hr hlk hP hS dX1_formBehind_71
abbrev rm_X1_letterAt : Room := { frames := 0, cells := 0, slots := 0, locals := 0 }
theorem hd_X1_letterAt : yX1_letterAt.cls = RX1 ∧ yX1_letterAt.cls ≠ "java/lang/invoke/MethodHandle" ∧ yX1_letterAt.cls ≠ "java/lang/invoke/VarHandle" ∧ (parseMethodDescriptor yX1_letterAt.desc).map (fun d => d.parameters.length) = some 1 := by decide +kernel
theorem zi_X1_letterAt_X1 : ∀ w ∈ wsX10, w ∈ wsX1_letterAt := fun _ h => List.mem_cons_of_mem _ (List.mem_append_right _ h)
theorem zk_X1_letterAt_0 : Cond.fieldLink RX1 42 "GroutingIsFollowed" "letterCount" "I" ∈ wsX1_letterAt := by decide +kernel
theorem zk_X1_letterAt_1 : Cond.fieldLink RX1 22 "GroutingIsFollowed" "letters" "[I" ∈ wsX1_letterAt := by decide +kernel
set_option maxHeartbeats 4000000 in
set_option maxRecDepth 100000 in
theorem zc_X1_letterAt (l : Launch) (D : va_G) (cI : ClassId) (ad : Nat → Nat) (g_now : BT) (g_mind : BT) (g_taken : BT) (g_isTaken : Int32) (g_letters : (Nat → Int32)) (g_letterCount : Int32) (g_told : (Nat → Int32)) (g_toldCount : Int32) (g_refusals : (Nat → Int32)) (g_costs : (Nat → Int32)) (g_gains : (Nat → Int32)) (g_seed : Int32) (v1 : Int32) (r0 : Int32) (h : zf_X1_letterAt g_letters g_letterCount v1 = some r0) : Cn l D cI yX1_letterAt wsX1_letterAt rm_X1_letterAt [.ref (ad 0), .int v1] (zb_G cI ad g_now g_mind g_taken g_isTaken g_letters g_letterCount g_told g_toldCount g_refusals g_costs g_gains g_seed) (some (.int r0)) (zb_G cI ad g_now g_mind g_taken g_isTaken g_letters g_letterCount g_told g_toldCount g_refusals g_costs g_gains g_seed) := by
  refine zb_ofW (cc := cX1_letterAt) (maxL := 2) (ret := (some .int)) (by decide) rfl (Nat.le_of_ble_eq_true rfl) ?_
  intro p e s m args below meth c A ls hx hb hr hml hts hown hlk hK hP hD hA hl
  have hS : va_S A s.heap s.heap [] := va_S.rf
  have hl : lv_has ls 2 [(0, .ref (ad 0)), (1, .int v1)] := hl
  unfold zf_X1_letterAt at h
  refine lv_iload_n hx hb dX1_letterAt_0 rfl (lv_at hl 1 rfl) ?_
  refine lv_if_lt (tgt := 30) hx hb dX1_letterAt_1 (by decide) (fun c1 => ?_) (fun c1 => ?_)
  · replace h := it_t c1 h
    refine lv_iconst (v := ((-1) : Int32)) hx hb dX1_letterAt_30 (by decide) ?_
    obtain rfl := re1 h
    exact zb_iret hx hb hr hlk hP hS dX1_letterAt_31
  · replace h := it_f c1 h
    refine lv_iload_n hx hb dX1_letterAt_4 rfl (lv_at hl 1 rfl) ?_
    refine lv_aload_n hx hb dX1_letterAt_5 rfl (lv_at hl 0 rfl) ?_
    refine va_get (D := D) (ci := 1) (v := .int g_letterCount) (C := RX1) (T := TX1) (N := 12) hx hb hts zi_X1_letterAt_X1 hown hK.1 hP 0 rfl rfl 5 (by decide) (hts _ zk_X1_letterAt_0) (fun _ h9 => h9) rfl dX1_letterAt_6 ?_
    refine lv_icmp_ge (tgt := 30) hx hb dX1_letterAt_9 (by decide) (fun c2 => ?_) (fun c2 => ?_)
    · replace h := it_t c2 h
      refine lv_iconst (v := ((-1) : Int32)) hx hb dX1_letterAt_30 (by decide) ?_
      obtain rfl := re1 h
      exact zb_iret hx hb hr hlk hP hS dX1_letterAt_31
    · replace h := it_f c2 h
      refine lv_iload_n hx hb dX1_letterAt_12 rfl (lv_at hl 1 rfl) ?_
      refine lv_aload_n hx hb dX1_letterAt_13 rfl (lv_at hl 0 rfl) ?_
      refine va_get (D := D) (ci := 1) (v := .ref (ad 22)) (C := RX1) (T := TX1) (N := 12) hx hb hts zi_X1_letterAt_X1 hown hK.1 hP 0 rfl rfl 4 (by decide) (hts _ zk_X1_letterAt_1) (fun _ h9 => h9) rfl dX1_letterAt_14 ?_
      refine va_alen (v := (96 : Int32)) hx hb hK.1 hP 22 0 rfl rfl rfl dX1_letterAt_17 ?_
      refine lv_icmp_ge (tgt := 30) hx hb dX1_letterAt_18 (by decide) (fun c3 => ?_) (fun c3 => ?_)
      · replace h := it_t c3 h
        refine lv_iconst (v := ((-1) : Int32)) hx hb dX1_letterAt_30 (by decide) ?_
        obtain rfl := re1 h
        exact zb_iret hx hb hr hlk hP hS dX1_letterAt_31
      · replace h := it_f c3 h
        refine lv_aload_n hx hb dX1_letterAt_21 rfl (lv_at hl 0 rfl) ?_
        refine va_get (D := D) (ci := 1) (v := .ref (ad 22)) (C := RX1) (T := TX1) (N := 12) hx hb hts zi_X1_letterAt_X1 hown hK.1 hP 0 rfl rfl 4 (by decide) (hts _ zk_X1_letterAt_1) (fun _ h9 => h9) rfl dX1_letterAt_22 ?_
        refine lv_iload_n hx hb dX1_letterAt_25 rfl (lv_at hl 1 rfl) ?_
        obtain ⟨h4, h⟩ := it_g h
        refine va_iald hx hb hK.1 hP 22 0 rfl rfl h4 dX1_letterAt_26 ?_
        refine lv_goto (tgt := 31) hx hb dX1_letterAt_27 (by decide) ?_
        obtain rfl := re1 h
        exact zb_iret hx hb hr hlk hP hS dX1_letterAt_31
abbrev rm_X1_placeAmiss : Room := { frames := 6, cells := 0, slots := 0, locals := 132 }
theorem hd_X1_placeAmiss : yX1_placeAmiss.cls = RX1 ∧ yX1_placeAmiss.cls ≠ "java/lang/invoke/MethodHandle" ∧ yX1_placeAmiss.cls ≠ "java/lang/invoke/VarHandle" ∧ (parseMethodDescriptor yX1_placeAmiss.desc).map (fun d => d.parameters.length) = some 0 := by decide +kernel
theorem zi_X1_placeAmiss_X1 : ∀ w ∈ wsX10, w ∈ wsX1_placeAmiss := fun _ h => List.mem_cons_of_mem _ (List.mem_append_right _ h)
theorem zk_X1_placeAmiss_0 : Cond.fieldLink RX1 42 "GroutingIsFollowed" "letterCount" "I" ∈ wsX1_placeAmiss := by decide +kernel
set_option maxHeartbeats 4000000 in
set_option maxRecDepth 100000 in
theorem zc_X1_placeAmiss (l : Launch) (D : va_G) (cI : ClassId) (aK aV : Nat → Nat) (ad : Nat → Nat) (g_now : BT) (g_mind : BT) (g_taken : BT) (g_isTaken : Int32) (g_letters : (Nat → Int32)) (g_letterCount : Int32) (g_told : (Nat → Int32)) (g_toldCount : Int32) (g_refusals : (Nat → Int32)) (g_costs : (Nat → Int32)) (g_gains : (Nat → Int32)) (g_seed : Int32) (r0 : Int32) (h : zf_X1_placeAmiss g_letters g_letterCount = some r0) : CnE l D cI aK aV yX1_placeAmiss wsX1_placeAmiss rm_X1_placeAmiss [.ref (ad 0)] (zb_G cI ad g_now g_mind g_taken g_isTaken g_letters g_letterCount g_told g_toldCount g_refusals g_costs g_gains g_seed) (some (.int r0)) (zb_G cI ad g_now g_mind g_taken g_isTaken g_letters g_letterCount g_told g_toldCount g_refusals g_costs g_gains g_seed) := by
  refine zb_ofWE (cc := cX1_placeAmiss) (maxL := 4) (ret := (some .int)) (by decide) rfl (Nat.le_of_ble_eq_true rfl) ?_
  intro p e s m args below meth c A ls hx hb hr hml hts hown hlk hK hE hP hD hA hl
  have hS : va_S A s.heap s.heap [] := va_S.rf
  have hl : lv_has ls 4 [(0, .ref (ad 0))] := hl
  unfold zf_X1_placeAmiss at h
  refine lv_aload_n hx hb dX1_placeAmiss_0 rfl (lv_at hl 0 rfl) ?_
  refine va_get (D := D) (ci := 1) (v := .int g_letterCount) (C := RX1) (T := TX1) (N := 12) hx hb hts zi_X1_placeAmiss_X1 hown hK.1 hP 0 rfl rfl 5 (by decide) (hts _ zk_X1_placeAmiss_0) (fun _ h9 => h9) rfl dX1_placeAmiss_1 ?_
  refine lv_if_ne (tgt := 9) hx hb dX1_placeAmiss_4 (by decide) (fun c1 => ?_) (fun c1 => ?_)
  · replace h := it_f c1 h
    refine lv_iconst (v := (0 : Int32)) hx hb dX1_placeAmiss_9 (by decide) ?_
    refine lv_istore_n (lv' := [(1, .int (0 : Int32)), (0, .ref (ad 0))]) hx hb dX1_placeAmiss_10 rfl hl (by decide) rfl (fun ls hl => ?_)
    have lp3 : ∀ (fu3 : Nat) (x2 : Int32) (H : Heap) (locs : List Loc) (hP : va_P D zb_cl (zb_G cI ad g_now g_mind g_taken g_isTaken g_letters g_letterCount g_told g_toldCount g_refusals g_costs g_gains g_seed) H) (hD : va_D A (zb_G cI ad g_now g_mind g_taken g_isTaken g_letters g_letterCount g_told g_toldCount g_refusals g_costs g_gains g_seed)) (hS : va_S A s.heap H locs) (ls : Array Slot) (hl : lv_has ls 4 [(0, .ref (ad 0)), (1, .int x2)]) (h : zl1 (zf_X1_placeAmiss_b11 g_letters g_letterCount) fu3 x2 = some r0), W p l e rm_X1_placeAmiss s m args below meth c H locs 0 0 (zb_Q below D (some (.int r0)) (zb_G cI ad g_now g_mind g_taken g_isTaken g_letters g_letterCount g_told g_toldCount g_refusals g_costs g_gains g_seed) A args s) (F0 m 11 ls []) := by
      intro fu3
      induction fu3 with
      | zero => intro x2 H locs hP hD hS ls hl h; exact zb_no h
      | succ fu3 ih3 =>
        intro x2 H locs hP hD hS ls hl h
        replace h : zf_X1_placeAmiss_b11 g_letters g_letterCount (zl1 (zf_X1_placeAmiss_b11 g_letters g_letterCount) fu3) x2 = some r0 := h
        unfold zf_X1_placeAmiss_b11 at h
        refine lv_iload_n hx hb dX1_placeAmiss_11 rfl (lv_at hl 1 rfl) ?_
        refine lv_aload_n hx hb dX1_placeAmiss_12 rfl (lv_at hl 0 rfl) ?_
        refine va_get (D := D) (ci := 1) (v := .int g_letterCount) (C := RX1) (T := TX1) (N := 12) hx hb hts zi_X1_placeAmiss_X1 hown hK.1 hP 0 rfl rfl 5 (by decide) (hts _ zk_X1_placeAmiss_0) (fun _ h9 => h9) rfl dX1_placeAmiss_13 ?_
        refine lv_icmp_ge (tgt := 80) hx hb dX1_placeAmiss_16 (by decide) (fun c4 => ?_) (fun c4 => ?_)
        · replace h := it_t c4 h
          refine lv_iconst (v := ((-1) : Int32)) hx hb dX1_placeAmiss_80 (by decide) ?_
          obtain rfl := re1 h
          exact zb_iret hx hb hr hlk hP hS dX1_placeAmiss_81
        · replace h := it_f c4 h
          refine lv_aload_n hx hb dX1_placeAmiss_19 rfl (lv_at hl 0 rfl) ?_
          refine lv_iload_n hx hb dX1_placeAmiss_20 rfl (lv_at hl 1 rfl) ?_
          obtain ⟨r5, g6, h⟩ := bo1 h
          refine zb_callV (As := [.int x2]) (rest := []) ⟨hx, hb, hml, hown, hts⟩ (zc_X1_letterAt l D cI ad g_now g_mind g_taken g_isTaken g_letters g_letterCount g_told g_toldCount g_refusals g_costs g_gains g_seed x2 r5 g6) (cwV 1 hts gX1_placeAmiss_X1_letterAt rfl rfl rfl hd_X1_letterAt ⟨Nat.le_of_ble_eq_true rfl, Nat.le_of_ble_eq_true rfl⟩) hK hP hD hS hA (zb_sG) (q0 := 0) rfl rfl rfl hl.1 rfl (Nat.le_of_ble_eq_true rfl) dX1_placeAmiss_21 ⟨Nat.le_refl _, Nat.le_refl _⟩ (fun H locs hP hD hS => ?_)
          obtain ⟨r7, g8, h⟩ := bo1 h
          refine zb_callSE (As := [.int r5]) (rest := []) ⟨hx, hb, hml, hown, hts⟩ (zc_X1_formBehind l D cI aK aV r5 r7 g8) (va_cwS 1 hts gX1_placeAmiss_X1_formBehind rfl rfl rfl hd_X1_formBehind.2 ⟨Nat.le_of_ble_eq_true rfl, Nat.le_of_ble_eq_true rfl⟩) hK hE hP hD hS hA (zb_none _) rfl hl.1 rfl (Nat.le_of_ble_eq_true rfl) dX1_placeAmiss_24 ⟨Nat.le_refl _, Nat.le_refl _⟩ (fun H locs hP hD hS => ?_)
          refine lv_astore_n (lv' := [(2, .ref (aK r7)), (0, .ref (ad 0)), (1, .int x2)]) hx hb dX1_placeAmiss_27 rfl hl (by decide) rfl (fun ls hl => ?_)
          refine lv_aload_n hx hb dX1_placeAmiss_28 rfl (lv_at hl 0 rfl) ?_
          obtain ⟨h9, h⟩ := it_n h
          obtain ⟨r10, g11, h⟩ := bo1 h
          refine zb_callVS (k := r7) (As := []) (rest := []) ⟨hx, hb, hml, hown, hts⟩ (zc_J0_isEmpty_aae02 l D cI aK aV r7 r10 g11) (cwV 0 hts gX1_placeAmiss_J0_isEmpty_aae02 rfl rfl rfl hd_J0_isEmpty_aae02 ⟨Nat.le_of_ble_eq_true rfl, Nat.le_of_ble_eq_true rfl⟩) hK hE hP hD hS hA (zb_none _) (Nat.lt_of_not_le h9) rfl hl.1 rfl (Nat.le_of_ble_eq_true rfl) dX1_placeAmiss_29 ⟨Nat.le_refl _, Nat.le_refl _⟩ (fun H locs hP hD hS => ?_)
          refine lv_if_eq (tgt := 37) hx hb dX1_placeAmiss_32 (by decide) (fun c12 => ?_) (fun c12 => ?_)
          · replace h := it_t c12 h
            refine lv_iinc (v := (x2 + (1 : Int32))) (lv' := [(1, .int (x2 + (1 : Int32))), (2, .ref (aK r7)), (0, .ref (ad 0))]) hx hb dX1_placeAmiss_37 hl (k := 2) rfl (by first | rfl | decide) (by decide) rfl (fun ls hl => ?_)
            refine lv_iconst (v := (0 : Int32)) hx hb dX1_placeAmiss_40 (by decide) ?_
            refine lv_istore_n (lv' := [(3, .int (0 : Int32)), (1, .int (x2 + (1 : Int32))), (2, .ref (aK r7)), (0, .ref (ad 0))]) hx hb dX1_placeAmiss_41 rfl hl (by decide) rfl (fun ls hl => ?_)
            have lp15 : ∀ (fu15 : Nat) (x13 : Int32) (x14 : Int32) (H : Heap) (locs : List Loc) (hP : va_P D zb_cl (zb_G cI ad g_now g_mind g_taken g_isTaken g_letters g_letterCount g_told g_toldCount g_refusals g_costs g_gains g_seed) H) (hD : va_D A (zb_G cI ad g_now g_mind g_taken g_isTaken g_letters g_letterCount g_told g_toldCount g_refusals g_costs g_gains g_seed)) (hS : va_S A s.heap H locs) (ls : Array Slot) (hl : lv_has ls 4 [(0, .ref (ad 0)), (1, .int x13), (2, .ref (aK r7)), (3, .int x14)]) (h : zl2 (zf_X1_placeAmiss_b42 (zl1 (zf_X1_placeAmiss_b11 g_letters g_letterCount) fu3) r7 g_letters g_letterCount) fu15 x13 x14 = some r0), W p l e rm_X1_placeAmiss s m args below meth c H locs 0 0 (zb_Q below D (some (.int r0)) (zb_G cI ad g_now g_mind g_taken g_isTaken g_letters g_letterCount g_told g_toldCount g_refusals g_costs g_gains g_seed) A args s) (F0 m 42 ls []) := by
              intro fu15
              induction fu15 with
              | zero => intro x13 x14 H locs hP hD hS ls hl h; exact zb_no h
              | succ fu15 ih15 =>
                intro x13 x14 H locs hP hD hS ls hl h
                replace h : zf_X1_placeAmiss_b42 (zl1 (zf_X1_placeAmiss_b11 g_letters g_letterCount) fu3) r7 g_letters g_letterCount (zl2 (zf_X1_placeAmiss_b42 (zl1 (zf_X1_placeAmiss_b11 g_letters g_letterCount) fu3) r7 g_letters g_letterCount) fu15) x13 x14 = some r0 := h
                unfold zf_X1_placeAmiss_b42 at h
                refine lv_iload_n hx hb dX1_placeAmiss_42 rfl (lv_at hl 3 rfl) ?_
                refine lv_aload_n hx hb dX1_placeAmiss_43 rfl (lv_at hl 2 rfl) ?_
                obtain ⟨h16, h⟩ := it_n h
                obtain ⟨r17, g18, h⟩ := bo1 h
                refine zb_callVS (k := r7) (As := []) (rest := [.int x14]) ⟨hx, hb, hml, hown, hts⟩ (zc_J0_length_8abf5 l D cI aK aV r7 r17 g18) (cwV 0 hts gX1_placeAmiss_J0_length_8abf5 rfl rfl rfl hd_J0_length_8abf5 ⟨Nat.le_of_ble_eq_true rfl, Nat.le_of_ble_eq_true rfl⟩) hK hE hP hD hS hA (zb_none _) (Nat.lt_of_not_le h16) rfl hl.1 rfl (Nat.le_of_ble_eq_true rfl) dX1_placeAmiss_44 ⟨Nat.le_refl _, Nat.le_refl _⟩ (fun H locs hP hD hS => ?_)
                refine lv_icmp_ge (tgt := 77) hx hb dX1_placeAmiss_47 (by decide) (fun c19 => ?_) (fun c19 => ?_)
                · replace h := it_t c19 h
                  refine lv_goto (tgt := 11) hx hb dX1_placeAmiss_77 (by decide) ?_
                  exact ih3 x13 _ _ hP hD hS ls (lv_sub hl [0, 1] rfl) h
                · replace h := it_f c19 h
                  refine lv_aload_n hx hb dX1_placeAmiss_50 rfl (lv_at hl 0 rfl) ?_
                  refine lv_iload_n hx hb dX1_placeAmiss_51 rfl (lv_at hl 1 rfl) ?_
                  obtain ⟨r20, g21, h⟩ := bo1 h
                  refine zb_callV (As := [.int x13]) (rest := []) ⟨hx, hb, hml, hown, hts⟩ (zc_X1_letterAt l D cI ad g_now g_mind g_taken g_isTaken g_letters g_letterCount g_told g_toldCount g_refusals g_costs g_gains g_seed x13 r20 g21) (cwV 1 hts gX1_placeAmiss_X1_letterAt rfl rfl rfl hd_X1_letterAt ⟨Nat.le_of_ble_eq_true rfl, Nat.le_of_ble_eq_true rfl⟩) hK hP hD hS hA (zb_sG) (q0 := 0) rfl rfl rfl hl.1 rfl (Nat.le_of_ble_eq_true rfl) dX1_placeAmiss_52 ⟨Nat.le_refl _, Nat.le_refl _⟩ (fun H locs hP hD hS => ?_)
                  refine lv_aload_n hx hb dX1_placeAmiss_55 rfl (lv_at hl 2 rfl) ?_
                  refine lv_iload_n hx hb dX1_placeAmiss_56 rfl (lv_at hl 3 rfl) ?_
                  obtain ⟨h22, h⟩ := it_n h
                  obtain ⟨r23, g24, h⟩ := bo1 h
                  refine zb_callVS (k := r7) (As := [.int x14]) (rest := [.int r20]) ⟨hx, hb, hml, hown, hts⟩ (zc_J0_charAt_5068e l D cI aK aV r7 x14 r23 g24) (cwV 1 hts gX1_placeAmiss_J0_charAt_5068e rfl rfl rfl hd_J0_charAt_5068e ⟨Nat.le_of_ble_eq_true rfl, Nat.le_of_ble_eq_true rfl⟩) hK hE hP hD hS hA (zb_none _) (Nat.lt_of_not_le h22) rfl hl.1 rfl (Nat.le_of_ble_eq_true rfl) dX1_placeAmiss_57 ⟨Nat.le_refl _, Nat.le_refl _⟩ (fun H locs hP hD hS => ?_)
                  obtain ⟨r25, g26, h⟩ := bo1 h
                  refine zb_callSE (As := [.int r20, .int r23]) (rest := []) ⟨hx, hb, hml, hown, hts⟩ (zc_X1_fits l D cI aK aV r20 r23 r25 g26) (va_cwS 2 hts gX1_placeAmiss_X1_fits rfl rfl rfl hd_X1_fits.2 ⟨Nat.le_of_ble_eq_true rfl, Nat.le_of_ble_eq_true rfl⟩) hK hE hP hD hS hA (zb_none _) rfl hl.1 rfl (Nat.le_of_ble_eq_true rfl) dX1_placeAmiss_60 ⟨Nat.le_refl _, Nat.le_refl _⟩ (fun H locs hP hD hS => ?_)
                  refine lv_if_ne (tgt := 68) hx hb dX1_placeAmiss_63 (by decide) (fun c27 => ?_) (fun c27 => ?_)
                  · replace h := it_f c27 h
                    refine lv_iinc (v := (x13 + (1 : Int32))) (lv' := [(1, .int (x13 + (1 : Int32))), (0, .ref (ad 0)), (2, .ref (aK r7)), (3, .int x14)]) hx hb dX1_placeAmiss_68 hl (k := 1) rfl (by first | rfl | decide) (by decide) rfl (fun ls hl => ?_)
                    refine lv_iinc (v := (x14 + (1 : Int32))) (lv' := [(3, .int (x14 + (1 : Int32))), (1, .int (x13 + (1 : Int32))), (0, .ref (ad 0)), (2, .ref (aK r7))]) hx hb dX1_placeAmiss_71 hl (k := 3) rfl (by first | rfl | decide) (by decide) rfl (fun ls hl => ?_)
                    refine lv_goto (tgt := 42) hx hb dX1_placeAmiss_74 (by decide) ?_
                    exact ih15 (x13 + (1 : Int32)) (x14 + (1 : Int32)) _ _ hP hD hS ls (lv_sub hl [2, 1, 3, 0] rfl) h
                  · replace h := it_t c27 h
                    refine lv_iload_n hx hb dX1_placeAmiss_66 rfl (lv_at hl 1 rfl) ?_
                    obtain rfl := re1 h
                    exact zb_iret hx hb hr hlk hP hS dX1_placeAmiss_67
            exact lp15 zb_FU (x2 + (1 : Int32)) (0 : Int32) _ _ hP hD hS ls (lv_sub hl [3, 1, 2, 0] rfl) h
          · replace h := it_f c12 h
            refine lv_iload_n hx hb dX1_placeAmiss_35 rfl (lv_at hl 2 rfl) ?_
            obtain rfl := re1 h
            exact zb_iret hx hb hr hlk hP hS dX1_placeAmiss_36
    exact lp3 zb_FU (0 : Int32) _ _ hP hD hS ls (lv_sub hl [1, 0] rfl) h
  · replace h := it_t c1 h
    refine lv_iconst (v := (0 : Int32)) hx hb dX1_placeAmiss_7 (by decide) ?_
    obtain rfl := re1 h
    exact zb_iret hx hb hr hlk hP hS dX1_placeAmiss_8
abbrev rm_X1_digit : Room := { frames := 1, cells := 0, slots := 0, locals := 21 }
theorem hd_X1_digit : yX1_digit.cls = RX1 ∧ yX1_digit.cls ≠ "java/lang/invoke/MethodHandle" ∧ yX1_digit.cls ≠ "java/lang/invoke/VarHandle" ∧ (parseMethodDescriptor yX1_digit.desc).map (fun d => d.parameters.length) = some 1 := by decide +kernel
set_option maxHeartbeats 4000000 in
set_option maxRecDepth 100000 in
theorem zc_X1_digit (l : Launch) (D : va_G) (cI : ClassId) (ad : Nat → Nat) (g_now : BT) (g_mind : BT) (g_taken : BT) (g_isTaken : Int32) (g_letters : (Nat → Int32)) (g_letterCount : Int32) (g_told : (Nat → Int32)) (g_toldCount : Int32) (g_refusals : (Nat → Int32)) (g_costs : (Nat → Int32)) (g_gains : (Nat → Int32)) (g_seed : Int32) (v1 : Int32) (r0 : Int32) (h : zf_X1_digit g_letters g_letterCount v1 = some r0) : Cn l D cI yX1_digit wsX1_digit rm_X1_digit [.ref (ad 0), .int v1] (zb_G cI ad g_now g_mind g_taken g_isTaken g_letters g_letterCount g_told g_toldCount g_refusals g_costs g_gains g_seed) (some (.int r0)) (zb_G cI ad g_now g_mind g_taken g_isTaken g_letters g_letterCount g_told g_toldCount g_refusals g_costs g_gains g_seed) := by
  refine zb_ofW (cc := cX1_digit) (maxL := 2) (ret := (some .int)) (by decide) rfl (Nat.le_of_ble_eq_true rfl) ?_
  intro p e s m args below meth c A ls hx hb hr hml hts hown hlk hK hP hD hA hl
  have hS : va_S A s.heap s.heap [] := va_S.rf
  have hl : lv_has ls 2 [(0, .ref (ad 0)), (1, .int v1)] := hl
  unfold zf_X1_digit at h
  refine lv_aload_n hx hb dX1_digit_0 rfl (lv_at hl 0 rfl) ?_
  refine lv_iload_n hx hb dX1_digit_1 rfl (lv_at hl 1 rfl) ?_
  obtain ⟨r1, g2, h⟩ := bo1 h
  refine zb_callV (As := [.int v1]) (rest := []) ⟨hx, hb, hml, hown, hts⟩ (zc_X1_letterAt l D cI ad g_now g_mind g_taken g_isTaken g_letters g_letterCount g_told g_toldCount g_refusals g_costs g_gains g_seed v1 r1 g2) (cwV 1 hts gX1_digit_X1_letterAt rfl rfl rfl hd_X1_letterAt ⟨Nat.le_of_ble_eq_true rfl, Nat.le_of_ble_eq_true rfl⟩) hK hP hD hS hA (zb_sG) (q0 := 0) rfl rfl rfl hl.1 rfl (Nat.le_of_ble_eq_true rfl) dX1_digit_2 ⟨Nat.le_refl _, Nat.le_refl _⟩ (fun H locs hP hD hS => ?_)
  refine lv_bipush (v := (48 : Int32)) hx hb dX1_digit_5 (by decide) ?_
  refine lv_isub hx hb dX1_digit_7 ?_
  obtain rfl := re1 h
  exact zb_iret hx hb hr hlk hP hS dX1_digit_8
abbrev rm_X1_number : Room := { frames := 2, cells := 0, slots := 0, locals := 42 }
theorem hd_X1_number : yX1_number.cls = RX1 ∧ yX1_number.cls ≠ "java/lang/invoke/MethodHandle" ∧ yX1_number.cls ≠ "java/lang/invoke/VarHandle" ∧ (parseMethodDescriptor yX1_number.desc).map (fun d => d.parameters.length) = some 1 := by decide +kernel
set_option maxHeartbeats 4000000 in
set_option maxRecDepth 100000 in
theorem zc_X1_number (l : Launch) (D : va_G) (cI : ClassId) (ad : Nat → Nat) (g_now : BT) (g_mind : BT) (g_taken : BT) (g_isTaken : Int32) (g_letters : (Nat → Int32)) (g_letterCount : Int32) (g_told : (Nat → Int32)) (g_toldCount : Int32) (g_refusals : (Nat → Int32)) (g_costs : (Nat → Int32)) (g_gains : (Nat → Int32)) (g_seed : Int32) (v1 : Int32) (r0 : Int32) (h : zf_X1_number g_letters g_letterCount v1 = some r0) : Cn l D cI yX1_number wsX1_number rm_X1_number [.ref (ad 0), .int v1] (zb_G cI ad g_now g_mind g_taken g_isTaken g_letters g_letterCount g_told g_toldCount g_refusals g_costs g_gains g_seed) (some (.int r0)) (zb_G cI ad g_now g_mind g_taken g_isTaken g_letters g_letterCount g_told g_toldCount g_refusals g_costs g_gains g_seed) := by
  refine zb_ofW (cc := cX1_number) (maxL := 2) (ret := (some .int)) (by decide) rfl (Nat.le_of_ble_eq_true rfl) ?_
  intro p e s m args below meth c A ls hx hb hr hml hts hown hlk hK hP hD hA hl
  have hS : va_S A s.heap s.heap [] := va_S.rf
  have hl : lv_has ls 2 [(0, .ref (ad 0)), (1, .int v1)] := hl
  unfold zf_X1_number at h
  refine lv_bipush (v := (10 : Int32)) hx hb dX1_number_0 (by decide) ?_
  refine lv_aload_n hx hb dX1_number_2 rfl (lv_at hl 0 rfl) ?_
  refine lv_iload_n hx hb dX1_number_3 rfl (lv_at hl 1 rfl) ?_
  obtain ⟨r1, g2, h⟩ := bo1 h
  refine zb_callV (As := [.int v1]) (rest := [.int (10 : Int32)]) ⟨hx, hb, hml, hown, hts⟩ (zc_X1_digit l D cI ad g_now g_mind g_taken g_isTaken g_letters g_letterCount g_told g_toldCount g_refusals g_costs g_gains g_seed v1 r1 g2) (cwV 1 hts gX1_number_X1_digit rfl rfl rfl hd_X1_digit ⟨Nat.le_of_ble_eq_true rfl, Nat.le_of_ble_eq_true rfl⟩) hK hP hD hS hA (zb_sG) (q0 := 0) rfl rfl rfl hl.1 rfl (Nat.le_of_ble_eq_true rfl) dX1_number_4 ⟨Nat.le_refl _, Nat.le_refl _⟩ (fun H locs hP hD hS => ?_)
  refine lv_imul hx hb dX1_number_7 ?_
  refine lv_aload_n hx hb dX1_number_8 rfl (lv_at hl 0 rfl) ?_
  refine lv_iload_n hx hb dX1_number_9 rfl (lv_at hl 1 rfl) ?_
  refine lv_iconst (v := (1 : Int32)) hx hb dX1_number_10 (by decide) ?_
  refine lv_iadd hx hb dX1_number_11 ?_
  obtain ⟨r3, g4, h⟩ := bo1 h
  refine zb_callV (As := [.int (v1 + (1 : Int32))]) (rest := [.int ((10 : Int32) * r1)]) ⟨hx, hb, hml, hown, hts⟩ (zc_X1_digit l D cI ad g_now g_mind g_taken g_isTaken g_letters g_letterCount g_told g_toldCount g_refusals g_costs g_gains g_seed (v1 + (1 : Int32)) r3 g4) (cwV 1 hts gX1_number_X1_digit rfl rfl rfl hd_X1_digit ⟨Nat.le_of_ble_eq_true rfl, Nat.le_of_ble_eq_true rfl⟩) hK hP hD hS hA (zb_sG) (q0 := 0) rfl rfl rfl hl.1 rfl (Nat.le_of_ble_eq_true rfl) dX1_number_12 ⟨Nat.le_refl _, Nat.le_refl _⟩ (fun H locs hP hD hS => ?_)
  refine lv_iadd hx hb dX1_number_15 ?_
  obtain rfl := re1 h
  exact zb_iret hx hb hr hlk hP hS dX1_number_16
abbrev rm_X1_isWay : Room := { frames := 0, cells := 0, slots := 0, locals := 0 }
theorem hd_X1_isWay : yX1_isWay.cls = RX1 ∧ yX1_isWay.cls ≠ "java/lang/invoke/MethodHandle" ∧ yX1_isWay.cls ≠ "java/lang/invoke/VarHandle" ∧ (parseMethodDescriptor yX1_isWay.desc).map (fun d => d.parameters.length) = some 1 := by decide +kernel
set_option maxHeartbeats 4000000 in
set_option maxRecDepth 100000 in
theorem zc_X1_isWay (l : Launch) (D : va_G) (cI : ClassId)  (v0 : Int32) (r0 : Int32) (h : zf_X1_isWay v0 = some r0) : Cn l D cI yX1_isWay wsX1_isWay rm_X1_isWay [.int v0] ([]) (some (.int r0)) ([]) := by
  refine zb_ofW (cc := cX1_isWay) (maxL := 1) (ret := (some .boolean)) (by decide) rfl (Nat.le_of_ble_eq_true rfl) ?_
  intro p e s m args below meth c A ls hx hb hr hml hts hown hlk hK hP hD hA hl
  have hS : va_S A s.heap s.heap [] := va_S.rf
  have hl : lv_has ls 1 [(0, .int v0)] := hl
  unfold zf_X1_isWay at h
  refine lv_iload_n hx hb dX1_isWay_0 rfl (lv_at hl 0 rfl) ?_
  refine lv_if_lt (tgt := 13) hx hb dX1_isWay_1 (by decide) (fun c1 => ?_) (fun c1 => ?_)
  · replace h := it_t c1 h
    refine lv_iconst (v := (0 : Int32)) hx hb dX1_isWay_13 (by decide) ?_
    obtain rfl := re1 h
    exact zb_zret hx hb hr hlk rfl hP hS dX1_isWay_14
  · replace h := it_f c1 h
    refine lv_iload_n hx hb dX1_isWay_4 rfl (lv_at hl 0 rfl) ?_
    refine lv_iconst (v := (4 : Int32)) hx hb dX1_isWay_5 (by decide) ?_
    refine lv_icmp_ge (tgt := 13) hx hb dX1_isWay_6 (by decide) (fun c2 => ?_) (fun c2 => ?_)
    · replace h := it_t c2 h
      refine lv_iconst (v := (0 : Int32)) hx hb dX1_isWay_13 (by decide) ?_
      obtain rfl := re1 h
      exact zb_zret hx hb hr hlk rfl hP hS dX1_isWay_14
    · replace h := it_f c2 h
      refine lv_iconst (v := (1 : Int32)) hx hb dX1_isWay_9 (by decide) ?_
      refine lv_goto (tgt := 14) hx hb dX1_isWay_10 (by decide) ?_
      obtain rfl := re1 h
      exact zb_zret hx hb hr hlk rfl hP hS dX1_isWay_14
abbrev rm_X1_tellComing : Room := { frames := 1, cells := 0, slots := 0, locals := 23 }
theorem hd_X1_tellComing : yX1_tellComing.cls = RX1 ∧ yX1_tellComing.cls ≠ "java/lang/invoke/MethodHandle" ∧ yX1_tellComing.cls ≠ "java/lang/invoke/VarHandle" ∧ (parseMethodDescriptor yX1_tellComing.desc).map (fun d => d.parameters.length) = some 2 := by decide +kernel
theorem zi_X1_tellComing_X1 : ∀ w ∈ wsX10, w ∈ wsX1_tellComing := fun _ h => List.mem_cons_of_mem _ (List.mem_append_left _ (List.mem_append_right _ h))
theorem zk_X1_tellComing_0 : Cond.fieldLink RX1 16 "GroutingIsFollowed" "mind" "LGroutingIsFollowed$Bath;" ∈ wsX1_tellComing := by decide +kernel
set_option maxHeartbeats 4000000 in
set_option maxRecDepth 100000 in
theorem zc_X1_tellComing (l : Launch) (D : va_G) (cI : ClassId) (ad : Nat → Nat) (g_now : BT) (g_mind : BT) (g_taken : BT) (g_isTaken : Int32) (g_letters : (Nat → Int32)) (g_letterCount : Int32) (g_told : (Nat → Int32)) (g_toldCount : Int32) (g_refusals : (Nat → Int32)) (g_costs : (Nat → Int32)) (g_gains : (Nat → Int32)) (g_seed : Int32) (v1 : Int32) (v2 : Int32) (r0 : Int32) (w_g_mind : BT) (h : zf_X1_tellComing g_mind v1 v2 = some (r0, w_g_mind)) : Cn l D cI yX1_tellComing wsX1_tellComing rm_X1_tellComing [.ref (ad 0), .int v1, .int v2] (zb_G cI ad g_now g_mind g_taken g_isTaken g_letters g_letterCount g_told g_toldCount g_refusals g_costs g_gains g_seed) (some (.int r0)) (zb_G cI ad g_now w_g_mind g_taken g_isTaken g_letters g_letterCount g_told g_toldCount g_refusals g_costs g_gains g_seed) := by
  refine zb_ofW (cc := cX1_tellComing) (maxL := 3) (ret := (some .boolean)) (by decide) rfl (Nat.le_of_ble_eq_true rfl) ?_
  intro p e s m args below meth c A ls hx hb hr hml hts hown hlk hK hP hD hA hl
  have hS : va_S A s.heap s.heap [] := va_S.rf
  have hl : lv_has ls 3 [(0, .ref (ad 0)), (1, .int v1), (2, .int v2)] := hl
  unfold zf_X1_tellComing at h
  refine lv_iload_n hx hb dX1_tellComing_0 rfl (lv_at hl 1 rfl) ?_
  obtain ⟨r1, g2, h⟩ := bo1 h
  refine zb_callS (As := [.int v1]) (rest := []) ⟨hx, hb, hml, hown, hts⟩ (zc_X1_isNode l D cI v1 r1 g2) (va_cwS 1 hts gX1_tellComing_X1_isNode rfl rfl rfl hd_X1_isNode.2 ⟨Nat.le_of_ble_eq_true rfl, Nat.le_of_ble_eq_true rfl⟩) hK hP hD hS hA (zb_none _) rfl hl.1 rfl (Nat.le_of_ble_eq_true rfl) dX1_tellComing_1 ⟨Nat.le_refl _, Nat.le_refl _⟩ (fun H locs hP hD hS => ?_)
  refine lv_if_eq (tgt := 24) hx hb dX1_tellComing_4 (by decide) (fun c3 => ?_) (fun c3 => ?_)
  · replace h := it_t c3 h
    refine lv_iconst (v := (0 : Int32)) hx hb dX1_tellComing_24 (by decide) ?_
    obtain ⟨rfl, rfl⟩ := re2 h
    exact zb_zret hx hb hr hlk rfl hP hS dX1_tellComing_25
  · replace h := it_f c3 h
    refine lv_iload_n hx hb dX1_tellComing_7 rfl (lv_at hl 2 rfl) ?_
    obtain ⟨r4, g5, h⟩ := bo1 h
    refine zb_callS (As := [.int v2]) (rest := []) ⟨hx, hb, hml, hown, hts⟩ (zc_X1_isWay l D cI v2 r4 g5) (va_cwS 1 hts gX1_tellComing_X1_isWay rfl rfl rfl hd_X1_isWay.2 ⟨Nat.le_of_ble_eq_true rfl, Nat.le_of_ble_eq_true rfl⟩) hK hP hD hS hA (zb_none _) rfl hl.1 rfl (Nat.le_of_ble_eq_true rfl) dX1_tellComing_8 ⟨Nat.le_refl _, Nat.le_refl _⟩ (fun H locs hP hD hS => ?_)
    refine lv_if_eq (tgt := 24) hx hb dX1_tellComing_11 (by decide) (fun c6 => ?_) (fun c6 => ?_)
    · replace h := it_t c6 h
      refine lv_iconst (v := (0 : Int32)) hx hb dX1_tellComing_24 (by decide) ?_
      obtain ⟨rfl, rfl⟩ := re2 h
      exact zb_zret hx hb hr hlk rfl hP hS dX1_tellComing_25
    · replace h := it_f c6 h
      refine lv_aload_n hx hb dX1_tellComing_14 rfl (lv_at hl 0 rfl) ?_
      refine va_get (D := D) (ci := 1) (v := .ref (ad 8)) (C := RX1) (T := TX1) (N := 12) hx hb hts zi_X1_tellComing_X1 hown hK.1 hP 0 rfl rfl 1 (by decide) (hts _ zk_X1_tellComing_0) (fun _ h9 => h9) rfl dX1_tellComing_15 ?_
      obtain ⟨r7, g8, h⟩ := bo1 h
      refine zb_callV (As := []) (rest := []) ⟨hx, hb, hml, hown, hts⟩ (zc_X0_isFull l D cI (ad 8) (ad 9) (ad 10) (ad 11) (ad 12) (ad 13) (ad 14) g_mind r7 g8) (cwV 0 hts gX1_tellComing_X0_isFull rfl rfl rfl hd_X0_isFull ⟨Nat.le_of_ble_eq_true rfl, Nat.le_of_ble_eq_true rfl⟩) hK hP hD hS hA (zb_cGm) (q0 := 0) rfl rfl rfl hl.1 rfl (Nat.le_of_ble_eq_true rfl) dX1_tellComing_18 ⟨Nat.le_refl _, Nat.le_refl _⟩ (fun H locs hP hD hS => ?_)
      refine lv_if_eq (tgt := 26) hx hb dX1_tellComing_21 (by decide) (fun c9 => ?_) (fun c9 => ?_)
      · replace h := it_t c9 h
        refine lv_aload_n hx hb dX1_tellComing_26 rfl (lv_at hl 0 rfl) ?_
        refine va_get (D := D) (ci := 1) (v := .ref (ad 8)) (C := RX1) (T := TX1) (N := 12) hx hb hts zi_X1_tellComing_X1 hown hK.1 hP 0 rfl rfl 1 (by decide) (hts _ zk_X1_tellComing_0) (fun _ h9 => h9) rfl dX1_tellComing_27 ?_
        refine lv_iload_n hx hb dX1_tellComing_30 rfl (lv_at hl 1 rfl) ?_
        refine lv_iload_n hx hb dX1_tellComing_31 rfl (lv_at hl 2 rfl) ?_
        obtain ⟨r10, n11, g12, h⟩ := bo2 h
        refine zb_callV (As := [.int v1, .int v2]) (rest := []) ⟨hx, hb, hml, hown, hts⟩ (zc_X0_add l D cI (ad 8) (ad 9) (ad 10) (ad 11) (ad 12) (ad 13) (ad 14) g_mind v1 v2 r10 n11 g12) (cwV 2 hts gX1_tellComing_X0_add rfl rfl rfl hd_X0_add ⟨Nat.le_of_ble_eq_true rfl, Nat.le_of_ble_eq_true rfl⟩) hK hP hD hS hA (zb_cGm) (q0 := 0) rfl rfl rfl hl.1 rfl (Nat.le_of_ble_eq_true rfl) dX1_tellComing_32 ⟨Nat.le_refl _, Nat.le_refl _⟩ (fun H locs hP hD hS => ?_)
        refine lv_pop hx hb dX1_tellComing_35 rfl ?_
        refine lv_iconst (v := (1 : Int32)) hx hb dX1_tellComing_36 (by decide) ?_
        obtain ⟨rfl, rfl⟩ := re2 h
        exact zb_zret hx hb hr hlk rfl hP hS dX1_tellComing_37
      · replace h := it_f c9 h
        refine lv_iconst (v := (0 : Int32)) hx hb dX1_tellComing_24 (by decide) ?_
        obtain ⟨rfl, rfl⟩ := re2 h
        exact zb_zret hx hb hr hlk rfl hP hS dX1_tellComing_25
abbrev rm_X1_tellHeading : Room := { frames := 2, cells := 0, slots := 0, locals := 43 }
theorem hd_X1_tellHeading : yX1_tellHeading.cls = RX1 ∧ yX1_tellHeading.cls ≠ "java/lang/invoke/MethodHandle" ∧ yX1_tellHeading.cls ≠ "java/lang/invoke/VarHandle" ∧ (parseMethodDescriptor yX1_tellHeading.desc).map (fun d => d.parameters.length) = some 2 := by decide +kernel
theorem zi_X1_tellHeading_X1 : ∀ w ∈ wsX10, w ∈ wsX1_tellHeading := fun _ h => List.mem_cons_of_mem _ (List.mem_append_left _ (List.mem_append_right _ h))
theorem zk_X1_tellHeading_0 : Cond.fieldLink RX1 16 "GroutingIsFollowed" "mind" "LGroutingIsFollowed$Bath;" ∈ wsX1_tellHeading := by decide +kernel
set_option maxHeartbeats 4000000 in
set_option maxRecDepth 100000 in
theorem zc_X1_tellHeading (l : Launch) (D : va_G) (cI : ClassId) (ad : Nat → Nat) (g_now : BT) (g_mind : BT) (g_taken : BT) (g_isTaken : Int32) (g_letters : (Nat → Int32)) (g_letterCount : Int32) (g_told : (Nat → Int32)) (g_toldCount : Int32) (g_refusals : (Nat → Int32)) (g_costs : (Nat → Int32)) (g_gains : (Nat → Int32)) (g_seed : Int32) (v1 : Int32) (v2 : Int32) (r0 : Int32) (w_g_mind : BT) (h : zf_X1_tellHeading g_mind v1 v2 = some (r0, w_g_mind)) : Cn l D cI yX1_tellHeading wsX1_tellHeading rm_X1_tellHeading [.ref (ad 0), .int v1, .int v2] (zb_G cI ad g_now g_mind g_taken g_isTaken g_letters g_letterCount g_told g_toldCount g_refusals g_costs g_gains g_seed) (some (.int r0)) (zb_G cI ad g_now w_g_mind g_taken g_isTaken g_letters g_letterCount g_told g_toldCount g_refusals g_costs g_gains g_seed) := by
  refine zb_ofW (cc := cX1_tellHeading) (maxL := 3) (ret := (some .boolean)) (by decide) rfl (Nat.le_of_ble_eq_true rfl) ?_
  intro p e s m args below meth c A ls hx hb hr hml hts hown hlk hK hP hD hA hl
  have hS : va_S A s.heap s.heap [] := va_S.rf
  have hl : lv_has ls 3 [(0, .ref (ad 0)), (1, .int v1), (2, .int v2)] := hl
  unfold zf_X1_tellHeading at h
  refine lv_aload_n hx hb dX1_tellHeading_0 rfl (lv_at hl 0 rfl) ?_
  refine va_get (D := D) (ci := 1) (v := .ref (ad 8)) (C := RX1) (T := TX1) (N := 12) hx hb hts zi_X1_tellHeading_X1 hown hK.1 hP 0 rfl rfl 1 (by decide) (hts _ zk_X1_tellHeading_0) (fun _ h9 => h9) rfl dX1_tellHeading_1 ?_
  refine lv_iload_n hx hb dX1_tellHeading_4 rfl (lv_at hl 1 rfl) ?_
  obtain ⟨r1, g2, h⟩ := bo1 h
  refine zb_callV (As := [.int v1]) (rest := []) ⟨hx, hb, hml, hown, hts⟩ (zc_X0_has l D cI (ad 8) (ad 9) (ad 10) (ad 11) (ad 12) (ad 13) (ad 14) g_mind v1 r1 g2) (cwV 1 hts gX1_tellHeading_X0_has rfl rfl rfl hd_X0_has ⟨Nat.le_of_ble_eq_true rfl, Nat.le_of_ble_eq_true rfl⟩) hK hP hD hS hA (zb_cGm) (q0 := 0) rfl rfl rfl hl.1 rfl (Nat.le_of_ble_eq_true rfl) dX1_tellHeading_5 ⟨Nat.le_refl _, Nat.le_refl _⟩ (fun H locs hP hD hS => ?_)
  refine lv_if_eq (tgt := 18) hx hb dX1_tellHeading_8 (by decide) (fun c3 => ?_) (fun c3 => ?_)
  · replace h := it_t c3 h
    refine lv_iconst (v := (0 : Int32)) hx hb dX1_tellHeading_18 (by decide) ?_
    obtain ⟨rfl, rfl⟩ := re2 h
    exact zb_zret hx hb hr hlk rfl hP hS dX1_tellHeading_19
  · replace h := it_f c3 h
    refine lv_iload_n hx hb dX1_tellHeading_11 rfl (lv_at hl 2 rfl) ?_
    obtain ⟨r4, g5, h⟩ := bo1 h
    refine zb_callS (As := [.int v2]) (rest := []) ⟨hx, hb, hml, hown, hts⟩ (zc_X1_isWay l D cI v2 r4 g5) (va_cwS 1 hts gX1_tellHeading_X1_isWay rfl rfl rfl hd_X1_isWay.2 ⟨Nat.le_of_ble_eq_true rfl, Nat.le_of_ble_eq_true rfl⟩) hK hP hD hS hA (zb_none _) rfl hl.1 rfl (Nat.le_of_ble_eq_true rfl) dX1_tellHeading_12 ⟨Nat.le_refl _, Nat.le_refl _⟩ (fun H locs hP hD hS => ?_)
    refine lv_if_ne (tgt := 20) hx hb dX1_tellHeading_15 (by decide) (fun c6 => ?_) (fun c6 => ?_)
    · replace h := it_f c6 h
      refine lv_aload_n hx hb dX1_tellHeading_20 rfl (lv_at hl 0 rfl) ?_
      refine va_get (D := D) (ci := 1) (v := .ref (ad 8)) (C := RX1) (T := TX1) (N := 12) hx hb hts zi_X1_tellHeading_X1 hown hK.1 hP 0 rfl rfl 1 (by decide) (hts _ zk_X1_tellHeading_0) (fun _ h9 => h9) rfl dX1_tellHeading_21 ?_
      refine lv_iload_n hx hb dX1_tellHeading_24 rfl (lv_at hl 1 rfl) ?_
      refine lv_iload_n hx hb dX1_tellHeading_25 rfl (lv_at hl 2 rfl) ?_
      obtain ⟨n7, g8, h⟩ := bo1 h
      refine zb_callV (As := [.int v1, .int v2]) (rest := []) ⟨hx, hb, hml, hown, hts⟩ (zc_X0_putHeading l D cI (ad 8) (ad 9) (ad 10) (ad 11) (ad 12) (ad 13) (ad 14) g_mind v1 v2 n7 g8) (cwV 2 hts gX1_tellHeading_X0_putHeading rfl rfl rfl hd_X0_putHeading ⟨Nat.le_of_ble_eq_true rfl, Nat.le_of_ble_eq_true rfl⟩) hK hP hD hS hA (zb_cGm) (q0 := 0) rfl rfl rfl hl.1 rfl (Nat.le_of_ble_eq_true rfl) dX1_tellHeading_26 ⟨Nat.le_refl _, Nat.le_refl _⟩ (fun H locs hP hD hS => ?_)
      refine lv_iconst (v := (1 : Int32)) hx hb dX1_tellHeading_29 (by decide) ?_
      obtain ⟨rfl, rfl⟩ := re2 h
      exact zb_zret hx hb hr hlk rfl hP hS dX1_tellHeading_30
    · replace h := it_t c6 h
      refine lv_iconst (v := (0 : Int32)) hx hb dX1_tellHeading_18 (by decide) ?_
      obtain ⟨rfl, rfl⟩ := re2 h
      exact zb_zret hx hb hr hlk rfl hP hS dX1_tellHeading_19
abbrev rm_X1_tellNode : Room := { frames := 2, cells := 0, slots := 0, locals := 42 }
theorem hd_X1_tellNode : yX1_tellNode.cls = RX1 ∧ yX1_tellNode.cls ≠ "java/lang/invoke/MethodHandle" ∧ yX1_tellNode.cls ≠ "java/lang/invoke/VarHandle" ∧ (parseMethodDescriptor yX1_tellNode.desc).map (fun d => d.parameters.length) = some 3 := by decide +kernel
theorem zi_X1_tellNode_X1 : ∀ w ∈ wsX10, w ∈ wsX1_tellNode := fun _ h => List.mem_cons_of_mem _ (List.mem_append_left _ (List.mem_append_right _ h))
theorem zk_X1_tellNode_0 : Cond.fieldLink RX1 16 "GroutingIsFollowed" "mind" "LGroutingIsFollowed$Bath;" ∈ wsX1_tellNode := by decide +kernel
set_option maxHeartbeats 4000000 in
set_option maxRecDepth 100000 in
theorem zc_X1_tellNode (l : Launch) (D : va_G) (cI : ClassId) (ad : Nat → Nat) (g_now : BT) (g_mind : BT) (g_taken : BT) (g_isTaken : Int32) (g_letters : (Nat → Int32)) (g_letterCount : Int32) (g_told : (Nat → Int32)) (g_toldCount : Int32) (g_refusals : (Nat → Int32)) (g_costs : (Nat → Int32)) (g_gains : (Nat → Int32)) (g_seed : Int32) (v1 : Int32) (v2 : Int32) (v3 : Int32) (r0 : Int32) (w_g_mind : BT) (h : zf_X1_tellNode g_mind v1 v2 v3 = some (r0, w_g_mind)) : Cn l D cI yX1_tellNode wsX1_tellNode rm_X1_tellNode [.ref (ad 0), .int v1, .int v2, .int v3] (zb_G cI ad g_now g_mind g_taken g_isTaken g_letters g_letterCount g_told g_toldCount g_refusals g_costs g_gains g_seed) (some (.int r0)) (zb_G cI ad g_now w_g_mind g_taken g_isTaken g_letters g_letterCount g_told g_toldCount g_refusals g_costs g_gains g_seed) := by
  refine zb_ofW (cc := cX1_tellNode) (maxL := 4) (ret := (some .boolean)) (by decide) rfl (Nat.le_of_ble_eq_true rfl) ?_
  intro p e s m args below meth c A ls hx hb hr hml hts hown hlk hK hP hD hA hl
  have hS : va_S A s.heap s.heap [] := va_S.rf
  have hl : lv_has ls 4 [(0, .ref (ad 0)), (1, .int v1), (2, .int v2), (3, .int v3)] := hl
  unfold zf_X1_tellNode at h
  refine lv_iload_n hx hb dX1_tellNode_0 rfl (lv_at hl 1 rfl) ?_
  obtain ⟨r1, g2, h⟩ := bo1 h
  refine zb_callS (As := [.int v1]) (rest := []) ⟨hx, hb, hml, hown, hts⟩ (zc_X1_isNode l D cI v1 r1 g2) (va_cwS 1 hts gX1_tellNode_X1_isNode rfl rfl rfl hd_X1_isNode.2 ⟨Nat.le_of_ble_eq_true rfl, Nat.le_of_ble_eq_true rfl⟩) hK hP hD hS hA (zb_none _) rfl hl.1 rfl (Nat.le_of_ble_eq_true rfl) dX1_tellNode_1 ⟨Nat.le_refl _, Nat.le_refl _⟩ (fun H locs hP hD hS => ?_)
  refine lv_if_ne (tgt := 9) hx hb dX1_tellNode_4 (by decide) (fun c3 => ?_) (fun c3 => ?_)
  · replace h := it_f c3 h
    refine lv_aload_n hx hb dX1_tellNode_9 rfl (lv_at hl 0 rfl) ?_
    refine va_get (D := D) (ci := 1) (v := .ref (ad 8)) (C := RX1) (T := TX1) (N := 12) hx hb hts zi_X1_tellNode_X1 hown hK.1 hP 0 rfl rfl 1 (by decide) (hts _ zk_X1_tellNode_0) (fun _ h9 => h9) rfl dX1_tellNode_10 ?_
    refine lv_iload_n hx hb dX1_tellNode_13 rfl (lv_at hl 1 rfl) ?_
    refine lv_iload_n hx hb dX1_tellNode_14 rfl (lv_at hl 2 rfl) ?_
    obtain ⟨n4, g5, h⟩ := bo1 h
    refine zb_callV (As := [.int v1, .int v2]) (rest := []) ⟨hx, hb, hml, hown, hts⟩ (zc_X0_putKind l D cI (ad 8) (ad 9) (ad 10) (ad 11) (ad 12) (ad 13) (ad 14) g_mind v1 v2 n4 g5) (cwV 2 hts gX1_tellNode_X0_putKind rfl rfl rfl hd_X0_putKind ⟨Nat.le_of_ble_eq_true rfl, Nat.le_of_ble_eq_true rfl⟩) hK hP hD hS hA (zb_cGm) (q0 := 0) rfl rfl rfl hl.1 rfl (Nat.le_of_ble_eq_true rfl) dX1_tellNode_15 ⟨Nat.le_refl _, Nat.le_refl _⟩ (fun H locs hP hD hS => ?_)
    refine lv_aload_n hx hb dX1_tellNode_18 rfl (lv_at hl 0 rfl) ?_
    refine va_get (D := D) (ci := 1) (v := .ref (ad 8)) (C := RX1) (T := TX1) (N := 12) hx hb hts zi_X1_tellNode_X1 hown hK.1 hP 0 rfl rfl 1 (by decide) (hts _ zk_X1_tellNode_0) (fun _ h9 => h9) rfl dX1_tellNode_19 ?_
    refine lv_iload_n hx hb dX1_tellNode_22 rfl (lv_at hl 1 rfl) ?_
    refine lv_iload_n hx hb dX1_tellNode_23 rfl (lv_at hl 3 rfl) ?_
    obtain ⟨n6, g7, h⟩ := bo1 h
    refine zb_callV (As := [.int v1, .int v3]) (rest := []) ⟨hx, hb, hml, hown, hts⟩ (zc_X0_putFigure l D cI (ad 8) (ad 9) (ad 10) (ad 11) (ad 12) (ad 13) (ad 14) n4 v1 v3 n6 g7) (cwV 2 hts gX1_tellNode_X0_putFigure rfl rfl rfl hd_X0_putFigure ⟨Nat.le_of_ble_eq_true rfl, Nat.le_of_ble_eq_true rfl⟩) hK hP hD hS hA (zb_cGm) (q0 := 0) rfl rfl rfl hl.1 rfl (Nat.le_of_ble_eq_true rfl) dX1_tellNode_24 ⟨Nat.le_refl _, Nat.le_refl _⟩ (fun H locs hP hD hS => ?_)
    refine lv_iconst (v := (1 : Int32)) hx hb dX1_tellNode_27 (by decide) ?_
    obtain ⟨rfl, rfl⟩ := re2 h
    exact zb_zret hx hb hr hlk rfl hP hS dX1_tellNode_28
  · replace h := it_t c3 h
    refine lv_iconst (v := (0 : Int32)) hx hb dX1_tellNode_7 (by decide) ?_
    obtain ⟨rfl, rfl⟩ := re2 h
    exact zb_zret hx hb hr hlk rfl hP hS dX1_tellNode_8
abbrev rm_X1_tellPlace : Room := { frames := 2, cells := 0, slots := 0, locals := 43 }
theorem hd_X1_tellPlace : yX1_tellPlace.cls = RX1 ∧ yX1_tellPlace.cls ≠ "java/lang/invoke/MethodHandle" ∧ yX1_tellPlace.cls ≠ "java/lang/invoke/VarHandle" ∧ (parseMethodDescriptor yX1_tellPlace.desc).map (fun d => d.parameters.length) = some 2 := by decide +kernel
theorem zi_X1_tellPlace_X1 : ∀ w ∈ wsX10, w ∈ wsX1_tellPlace := fun _ h => List.mem_cons_of_mem _ (List.mem_append_left _ (List.mem_append_right _ h))
theorem zk_X1_tellPlace_0 : Cond.fieldLink RX1 16 "GroutingIsFollowed" "mind" "LGroutingIsFollowed$Bath;" ∈ wsX1_tellPlace := by decide +kernel
set_option maxHeartbeats 4000000 in
set_option maxRecDepth 100000 in
theorem zc_X1_tellPlace (l : Launch) (D : va_G) (cI : ClassId) (ad : Nat → Nat) (g_now : BT) (g_mind : BT) (g_taken : BT) (g_isTaken : Int32) (g_letters : (Nat → Int32)) (g_letterCount : Int32) (g_told : (Nat → Int32)) (g_toldCount : Int32) (g_refusals : (Nat → Int32)) (g_costs : (Nat → Int32)) (g_gains : (Nat → Int32)) (g_seed : Int32) (v1 : Int32) (v2 : Int32) (r0 : Int32) (w_g_mind : BT) (h : zf_X1_tellPlace g_mind v1 v2 = some (r0, w_g_mind)) : Cn l D cI yX1_tellPlace wsX1_tellPlace rm_X1_tellPlace [.ref (ad 0), .int v1, .int v2] (zb_G cI ad g_now g_mind g_taken g_isTaken g_letters g_letterCount g_told g_toldCount g_refusals g_costs g_gains g_seed) (some (.int r0)) (zb_G cI ad g_now w_g_mind g_taken g_isTaken g_letters g_letterCount g_told g_toldCount g_refusals g_costs g_gains g_seed) := by
  refine zb_ofW (cc := cX1_tellPlace) (maxL := 3) (ret := (some .boolean)) (by decide) rfl (Nat.le_of_ble_eq_true rfl) ?_
  intro p e s m args below meth c A ls hx hb hr hml hts hown hlk hK hP hD hA hl
  have hS : va_S A s.heap s.heap [] := va_S.rf
  have hl : lv_has ls 3 [(0, .ref (ad 0)), (1, .int v1), (2, .int v2)] := hl
  unfold zf_X1_tellPlace at h
  refine lv_aload_n hx hb dX1_tellPlace_0 rfl (lv_at hl 0 rfl) ?_
  refine va_get (D := D) (ci := 1) (v := .ref (ad 8)) (C := RX1) (T := TX1) (N := 12) hx hb hts zi_X1_tellPlace_X1 hown hK.1 hP 0 rfl rfl 1 (by decide) (hts _ zk_X1_tellPlace_0) (fun _ h9 => h9) rfl dX1_tellPlace_1 ?_
  refine lv_iload_n hx hb dX1_tellPlace_4 rfl (lv_at hl 1 rfl) ?_
  obtain ⟨r1, g2, h⟩ := bo1 h
  refine zb_callV (As := [.int v1]) (rest := []) ⟨hx, hb, hml, hown, hts⟩ (zc_X0_has l D cI (ad 8) (ad 9) (ad 10) (ad 11) (ad 12) (ad 13) (ad 14) g_mind v1 r1 g2) (cwV 1 hts gX1_tellPlace_X0_has rfl rfl rfl hd_X0_has ⟨Nat.le_of_ble_eq_true rfl, Nat.le_of_ble_eq_true rfl⟩) hK hP hD hS hA (zb_cGm) (q0 := 0) rfl rfl rfl hl.1 rfl (Nat.le_of_ble_eq_true rfl) dX1_tellPlace_5 ⟨Nat.le_refl _, Nat.le_refl _⟩ (fun H locs hP hD hS => ?_)
  refine lv_if_eq (tgt := 18) hx hb dX1_tellPlace_8 (by decide) (fun c3 => ?_) (fun c3 => ?_)
  · replace h := it_t c3 h
    refine lv_iconst (v := (0 : Int32)) hx hb dX1_tellPlace_18 (by decide) ?_
    obtain ⟨rfl, rfl⟩ := re2 h
    exact zb_zret hx hb hr hlk rfl hP hS dX1_tellPlace_19
  · replace h := it_f c3 h
    refine lv_iload_n hx hb dX1_tellPlace_11 rfl (lv_at hl 2 rfl) ?_
    obtain ⟨r4, g5, h⟩ := bo1 h
    refine zb_callS (As := [.int v2]) (rest := []) ⟨hx, hb, hml, hown, hts⟩ (zc_X1_isNode l D cI v2 r4 g5) (va_cwS 1 hts gX1_tellPlace_X1_isNode rfl rfl rfl hd_X1_isNode.2 ⟨Nat.le_of_ble_eq_true rfl, Nat.le_of_ble_eq_true rfl⟩) hK hP hD hS hA (zb_none _) rfl hl.1 rfl (Nat.le_of_ble_eq_true rfl) dX1_tellPlace_12 ⟨Nat.le_refl _, Nat.le_refl _⟩ (fun H locs hP hD hS => ?_)
    refine lv_if_ne (tgt := 20) hx hb dX1_tellPlace_15 (by decide) (fun c6 => ?_) (fun c6 => ?_)
    · replace h := it_f c6 h
      refine lv_aload_n hx hb dX1_tellPlace_20 rfl (lv_at hl 0 rfl) ?_
      refine va_get (D := D) (ci := 1) (v := .ref (ad 8)) (C := RX1) (T := TX1) (N := 12) hx hb hts zi_X1_tellPlace_X1 hown hK.1 hP 0 rfl rfl 1 (by decide) (hts _ zk_X1_tellPlace_0) (fun _ h9 => h9) rfl dX1_tellPlace_21 ?_
      refine lv_iload_n hx hb dX1_tellPlace_24 rfl (lv_at hl 1 rfl) ?_
      refine lv_iload_n hx hb dX1_tellPlace_25 rfl (lv_at hl 2 rfl) ?_
      obtain ⟨n7, g8, h⟩ := bo1 h
      refine zb_callV (As := [.int v1, .int v2]) (rest := []) ⟨hx, hb, hml, hown, hts⟩ (zc_X0_putPlace l D cI (ad 8) (ad 9) (ad 10) (ad 11) (ad 12) (ad 13) (ad 14) g_mind v1 v2 n7 g8) (cwV 2 hts gX1_tellPlace_X0_putPlace rfl rfl rfl hd_X0_putPlace ⟨Nat.le_of_ble_eq_true rfl, Nat.le_of_ble_eq_true rfl⟩) hK hP hD hS hA (zb_cGm) (q0 := 0) rfl rfl rfl hl.1 rfl (Nat.le_of_ble_eq_true rfl) dX1_tellPlace_26 ⟨Nat.le_refl _, Nat.le_refl _⟩ (fun H locs hP hD hS => ?_)
      refine lv_iconst (v := (1 : Int32)) hx hb dX1_tellPlace_29 (by decide) ?_
      obtain ⟨rfl, rfl⟩ := re2 h
      exact zb_zret hx hb hr hlk rfl hP hS dX1_tellPlace_30
    · replace h := it_t c6 h
      refine lv_iconst (v := (0 : Int32)) hx hb dX1_tellPlace_18 (by decide) ?_
      obtain ⟨rfl, rfl⟩ := re2 h
      exact zb_zret hx hb hr hlk rfl hP hS dX1_tellPlace_19
abbrev rm_X1_outside : Room := { frames := 0, cells := 0, slots := 0, locals := 0 }
theorem hd_X1_outside : yX1_outside.cls = RX1 ∧ yX1_outside.cls ≠ "java/lang/invoke/MethodHandle" ∧ yX1_outside.cls ≠ "java/lang/invoke/VarHandle" ∧ (parseMethodDescriptor yX1_outside.desc).map (fun d => d.parameters.length) = some 3 := by decide +kernel
set_option maxHeartbeats 4000000 in
set_option maxRecDepth 100000 in
theorem zc_X1_outside (l : Launch) (D : va_G) (cI : ClassId)  (v0 : Int32) (v1 : Int32) (v2 : Int32) (r0 : Int32) (h : zf_X1_outside v0 v1 v2 = some r0) : Cn l D cI yX1_outside wsX1_outside rm_X1_outside [.int v0, .int v1, .int v2] ([]) (some (.int r0)) ([]) := by
  refine zb_ofW (cc := cX1_outside) (maxL := 3) (ret := (some .int)) (by decide) rfl (Nat.le_of_ble_eq_true rfl) ?_
  intro p e s m args below meth c A ls hx hb hr hml hts hown hlk hK hP hD hA hl
  have hS : va_S A s.heap s.heap [] := va_S.rf
  have hl : lv_has ls 3 [(0, .int v0), (1, .int v1), (2, .int v2)] := hl
  unfold zf_X1_outside at h
  refine lv_iload_n hx hb dX1_outside_0 rfl (lv_at hl 0 rfl) ?_
  refine lv_iload_n hx hb dX1_outside_1 rfl (lv_at hl 1 rfl) ?_
  refine lv_icmp_ge (tgt := 8) hx hb dX1_outside_2 (by decide) (fun c1 => ?_) (fun c1 => ?_)
  · replace h := it_t c1 h
    refine lv_iload_n hx hb dX1_outside_8 rfl (lv_at hl 0 rfl) ?_
    refine lv_iload_n hx hb dX1_outside_9 rfl (lv_at hl 2 rfl) ?_
    refine lv_icmp_le (tgt := 18) hx hb dX1_outside_10 (by decide) (fun c2 => ?_) (fun c2 => ?_)
    · replace h := it_t c2 h
      refine lv_iconst (v := (0 : Int32)) hx hb dX1_outside_18 (by decide) ?_
      obtain rfl := re1 h
      exact zb_iret hx hb hr hlk hP hS dX1_outside_19
    · replace h := it_f c2 h
      refine lv_bipush (v := ((-6) : Int32)) hx hb dX1_outside_13 (by decide) ?_
      refine lv_goto (tgt := 19) hx hb dX1_outside_15 (by decide) ?_
      obtain rfl := re1 h
      exact zb_iret hx hb hr hlk hP hS dX1_outside_19
  · replace h := it_f c1 h
    refine lv_bipush (v := ((-4) : Int32)) hx hb dX1_outside_5 (by decide) ?_
    obtain rfl := re1 h
    exact zb_iret hx hb hr hlk hP hS dX1_outside_7
abbrev rm_X1_tellSteps : Room := { frames := 3, cells := 0, slots := 0, locals := 72 }
theorem hd_X1_tellSteps : yX1_tellSteps.cls = RX1 ∧ yX1_tellSteps.cls ≠ "java/lang/invoke/MethodHandle" ∧ yX1_tellSteps.cls ≠ "java/lang/invoke/VarHandle" ∧ (parseMethodDescriptor yX1_tellSteps.desc).map (fun d => d.parameters.length) = some 1 := by decide +kernel
theorem zi_X1_tellSteps_X1 : ∀ w ∈ wsX10, w ∈ wsX1_tellSteps := fun _ h => List.mem_cons_of_mem _ (List.mem_append_left _ (List.mem_append_right _ h))
theorem zk_X1_tellSteps_0 : Cond.fieldLink RX1 16 "GroutingIsFollowed" "mind" "LGroutingIsFollowed$Bath;" ∈ wsX1_tellSteps := by decide +kernel
set_option maxHeartbeats 4000000 in
set_option maxRecDepth 100000 in
theorem zc_X1_tellSteps (l : Launch) (D : va_G) (cI : ClassId) (ad : Nat → Nat) (g_now : BT) (g_mind : BT) (g_taken : BT) (g_isTaken : Int32) (g_letters : (Nat → Int32)) (g_letterCount : Int32) (g_told : (Nat → Int32)) (g_toldCount : Int32) (g_refusals : (Nat → Int32)) (g_costs : (Nat → Int32)) (g_gains : (Nat → Int32)) (g_seed : Int32) (v1 : Int32) (r0 : Int32) (w_g_mind : BT) (h : zf_X1_tellSteps g_mind v1 = some (r0, w_g_mind)) : Cn l D cI yX1_tellSteps wsX1_tellSteps rm_X1_tellSteps [.ref (ad 0), .int v1] (zb_G cI ad g_now g_mind g_taken g_isTaken g_letters g_letterCount g_told g_toldCount g_refusals g_costs g_gains g_seed) (some (.int r0)) (zb_G cI ad g_now w_g_mind g_taken g_isTaken g_letters g_letterCount g_told g_toldCount g_refusals g_costs g_gains g_seed) := by
  refine zb_ofW (cc := cX1_tellSteps) (maxL := 2) (ret := (some .boolean)) (by decide) rfl (Nat.le_of_ble_eq_true rfl) ?_
  intro p e s m args below meth c A ls hx hb hr hml hts hown hlk hK hP hD hA hl
  have hS : va_S A s.heap s.heap [] := va_S.rf
  have hl : lv_has ls 2 [(0, .ref (ad 0)), (1, .int v1)] := hl
  unfold zf_X1_tellSteps at h
  refine lv_iload_n hx hb dX1_tellSteps_0 rfl (lv_at hl 1 rfl) ?_
  refine lv_iconst (v := (1 : Int32)) hx hb dX1_tellSteps_1 (by decide) ?_
  refine lv_bipush (v := (60 : Int32)) hx hb dX1_tellSteps_2 (by decide) ?_
  obtain ⟨r1, g2, h⟩ := bo1 h
  refine zb_callS (As := [.int v1, .int (1 : Int32), .int (60 : Int32)]) (rest := []) ⟨hx, hb, hml, hown, hts⟩ (zc_X1_outside l D cI v1 (1 : Int32) (60 : Int32) r1 g2) (va_cwS 3 hts gX1_tellSteps_X1_outside rfl rfl rfl hd_X1_outside.2 ⟨Nat.le_of_ble_eq_true rfl, Nat.le_of_ble_eq_true rfl⟩) hK hP hD hS hA (zb_none _) rfl hl.1 rfl (Nat.le_of_ble_eq_true rfl) dX1_tellSteps_4 ⟨Nat.le_refl _, Nat.le_refl _⟩ (fun H locs hP hD hS => ?_)
  refine lv_if_ne (tgt := 25) hx hb dX1_tellSteps_7 (by decide) (fun c3 => ?_) (fun c3 => ?_)
  · replace h := it_f c3 h
    refine lv_iconst (v := (0 : Int32)) hx hb dX1_tellSteps_25 (by decide) ?_
    obtain ⟨rfl, rfl⟩ := re2 h
    exact zb_zret hx hb hr hlk rfl hP hS dX1_tellSteps_26
  · replace h := it_t c3 h
    refine lv_aload_n hx hb dX1_tellSteps_10 rfl (lv_at hl 0 rfl) ?_
    refine va_get (D := D) (ci := 1) (v := .ref (ad 8)) (C := RX1) (T := TX1) (N := 12) hx hb hts zi_X1_tellSteps_X1 hown hK.1 hP 0 rfl rfl 1 (by decide) (hts _ zk_X1_tellSteps_0) (fun _ h9 => h9) rfl dX1_tellSteps_11 ?_
    obtain ⟨r4, g5, h⟩ := bo1 h
    refine zb_callV (As := []) (rest := []) ⟨hx, hb, hml, hown, hts⟩ (zc_X0_stepCount l D cI (ad 8) (ad 9) (ad 10) (ad 11) (ad 12) (ad 13) (ad 14) g_mind r4 g5) (cwV 0 hts gX1_tellSteps_X0_stepCount rfl rfl rfl hd_X0_stepCount ⟨Nat.le_of_ble_eq_true rfl, Nat.le_of_ble_eq_true rfl⟩) hK hP hD hS hA (zb_cGm) (q0 := 0) rfl rfl rfl hl.1 rfl (Nat.le_of_ble_eq_true rfl) dX1_tellSteps_14 ⟨Nat.le_refl _, Nat.le_refl _⟩ (fun H locs hP hD hS => ?_)
    refine lv_iload_n hx hb dX1_tellSteps_17 rfl (lv_at hl 1 rfl) ?_
    refine lv_iadd hx hb dX1_tellSteps_18 ?_
    refine lv_sipush (v := (999 : Int32)) hx hb dX1_tellSteps_19 (by decide) ?_
    refine lv_icmp_le (tgt := 27) hx hb dX1_tellSteps_22 (by decide) (fun c6 => ?_) (fun c6 => ?_)
    · replace h := it_t c6 h
      refine lv_aload_n hx hb dX1_tellSteps_27 rfl (lv_at hl 0 rfl) ?_
      refine va_get (D := D) (ci := 1) (v := .ref (ad 8)) (C := RX1) (T := TX1) (N := 12) hx hb hts zi_X1_tellSteps_X1 hown hK.1 hP 0 rfl rfl 1 (by decide) (hts _ zk_X1_tellSteps_0) (fun _ h9 => h9) rfl dX1_tellSteps_28 ?_
      refine lv_iload_n hx hb dX1_tellSteps_31 rfl (lv_at hl 1 rfl) ?_
      refine lv_iconst (v := (0 : Int32)) hx hb dX1_tellSteps_32 (by decide) ?_
      obtain ⟨n7, g8, h⟩ := bo1 h
      refine zb_callV (As := [.int v1, .int (0 : Int32)]) (rest := []) ⟨hx, hb, hml, hown, hts⟩ (zc_X0_goOn l D cI (ad 8) (ad 9) (ad 10) (ad 11) (ad 12) (ad 13) (ad 14) g_mind v1 (0 : Int32) n7 g8) (cwV 2 hts gX1_tellSteps_X0_goOn rfl rfl rfl hd_X0_goOn ⟨Nat.le_of_ble_eq_true rfl, Nat.le_of_ble_eq_true rfl⟩) hK hP hD hS hA (zb_cGm) (q0 := 0) rfl rfl rfl hl.1 rfl (Nat.le_of_ble_eq_true rfl) dX1_tellSteps_33 ⟨Nat.le_refl _, Nat.le_refl _⟩ (fun H locs hP hD hS => ?_)
      refine lv_iconst (v := (1 : Int32)) hx hb dX1_tellSteps_36 (by decide) ?_
      obtain ⟨rfl, rfl⟩ := re2 h
      exact zb_zret hx hb hr hlk rfl hP hS dX1_tellSteps_37
    · replace h := it_f c6 h
      refine lv_iconst (v := (0 : Int32)) hx hb dX1_tellSteps_25 (by decide) ?_
      obtain ⟨rfl, rfl⟩ := re2 h
      exact zb_zret hx hb hr hlk rfl hP hS dX1_tellSteps_26
abbrev rm_X1_tellWet : Room := { frames := 2, cells := 0, slots := 0, locals := 42 }
theorem hd_X1_tellWet : yX1_tellWet.cls = RX1 ∧ yX1_tellWet.cls ≠ "java/lang/invoke/MethodHandle" ∧ yX1_tellWet.cls ≠ "java/lang/invoke/VarHandle" ∧ (parseMethodDescriptor yX1_tellWet.desc).map (fun d => d.parameters.length) = some 2 := by decide +kernel
theorem zi_X1_tellWet_X1 : ∀ w ∈ wsX10, w ∈ wsX1_tellWet := fun _ h => List.mem_cons_of_mem _ (List.mem_append_left _ (List.mem_append_right _ h))
theorem zk_X1_tellWet_0 : Cond.fieldLink RX1 16 "GroutingIsFollowed" "mind" "LGroutingIsFollowed$Bath;" ∈ wsX1_tellWet := by decide +kernel
set_option maxHeartbeats 4000000 in
set_option maxRecDepth 100000 in
theorem zc_X1_tellWet (l : Launch) (D : va_G) (cI : ClassId) (ad : Nat → Nat) (g_now : BT) (g_mind : BT) (g_taken : BT) (g_isTaken : Int32) (g_letters : (Nat → Int32)) (g_letterCount : Int32) (g_told : (Nat → Int32)) (g_toldCount : Int32) (g_refusals : (Nat → Int32)) (g_costs : (Nat → Int32)) (g_gains : (Nat → Int32)) (g_seed : Int32) (v1 : Int32) (v2 : Int32) (r0 : Int32) (w_g_mind : BT) (h : zf_X1_tellWet g_mind v1 v2 = some (r0, w_g_mind)) : Cn l D cI yX1_tellWet wsX1_tellWet rm_X1_tellWet [.ref (ad 0), .int v1, .int v2] (zb_G cI ad g_now g_mind g_taken g_isTaken g_letters g_letterCount g_told g_toldCount g_refusals g_costs g_gains g_seed) (some (.int r0)) (zb_G cI ad g_now w_g_mind g_taken g_isTaken g_letters g_letterCount g_told g_toldCount g_refusals g_costs g_gains g_seed) := by
  refine zb_ofW (cc := cX1_tellWet) (maxL := 3) (ret := (some .boolean)) (by decide) rfl (Nat.le_of_ble_eq_true rfl) ?_
  intro p e s m args below meth c A ls hx hb hr hml hts hown hlk hK hP hD hA hl
  have hS : va_S A s.heap s.heap [] := va_S.rf
  have hl : lv_has ls 3 [(0, .ref (ad 0)), (1, .int v1), (2, .int v2)] := hl
  unfold zf_X1_tellWet at h
  refine lv_iload_n hx hb dX1_tellWet_0 rfl (lv_at hl 1 rfl) ?_
  obtain ⟨r1, g2, h⟩ := bo1 h
  refine zb_callS (As := [.int v1]) (rest := []) ⟨hx, hb, hml, hown, hts⟩ (zc_X1_isNode l D cI v1 r1 g2) (va_cwS 1 hts gX1_tellWet_X1_isNode rfl rfl rfl hd_X1_isNode.2 ⟨Nat.le_of_ble_eq_true rfl, Nat.le_of_ble_eq_true rfl⟩) hK hP hD hS hA (zb_none _) rfl hl.1 rfl (Nat.le_of_ble_eq_true rfl) dX1_tellWet_1 ⟨Nat.le_refl _, Nat.le_refl _⟩ (fun H locs hP hD hS => ?_)
  refine lv_if_ne (tgt := 9) hx hb dX1_tellWet_4 (by decide) (fun c3 => ?_) (fun c3 => ?_)
  · replace h := it_f c3 h
    refine lv_aload_n hx hb dX1_tellWet_9 rfl (lv_at hl 0 rfl) ?_
    refine va_get (D := D) (ci := 1) (v := .ref (ad 8)) (C := RX1) (T := TX1) (N := 12) hx hb hts zi_X1_tellWet_X1 hown hK.1 hP 0 rfl rfl 1 (by decide) (hts _ zk_X1_tellWet_0) (fun _ h9 => h9) rfl dX1_tellWet_10 ?_
    refine lv_iload_n hx hb dX1_tellWet_13 rfl (lv_at hl 1 rfl) ?_
    refine lv_iload_n hx hb dX1_tellWet_14 rfl (lv_at hl 2 rfl) ?_
    obtain ⟨n4, g5, h⟩ := bo1 h
    refine zb_callV (As := [.int v1, .int v2]) (rest := []) ⟨hx, hb, hml, hown, hts⟩ (zc_X0_putWet l D cI (ad 8) (ad 9) (ad 10) (ad 11) (ad 12) (ad 13) (ad 14) g_mind v1 v2 n4 g5) (cwV 2 hts gX1_tellWet_X0_putWet rfl rfl rfl hd_X0_putWet ⟨Nat.le_of_ble_eq_true rfl, Nat.le_of_ble_eq_true rfl⟩) hK hP hD hS hA (zb_cGm) (q0 := 0) rfl rfl rfl hl.1 rfl (Nat.le_of_ble_eq_true rfl) dX1_tellWet_15 ⟨Nat.le_refl _, Nat.le_refl _⟩ (fun H locs hP hD hS => ?_)
    refine lv_iconst (v := (1 : Int32)) hx hb dX1_tellWet_18 (by decide) ?_
    obtain ⟨rfl, rfl⟩ := re2 h
    exact zb_zret hx hb hr hlk rfl hP hS dX1_tellWet_19
  · replace h := it_t c3 h
    refine lv_iconst (v := (0 : Int32)) hx hb dX1_tellWet_7 (by decide) ?_
    obtain ⟨rfl, rfl⟩ := re2 h
    exact zb_zret hx hb hr hlk rfl hP hS dX1_tellWet_8
abbrev rm_X1_tellOne : Room := { frames := 5, cells := 0, slots := 0, locals := 111 }
theorem hd_X1_tellOne : yX1_tellOne.cls = RX1 ∧ yX1_tellOne.cls ≠ "java/lang/invoke/MethodHandle" ∧ yX1_tellOne.cls ≠ "java/lang/invoke/VarHandle" ∧ (parseMethodDescriptor yX1_tellOne.desc).map (fun d => d.parameters.length) = some 1 := by decide +kernel
set_option maxHeartbeats 4000000 in
set_option maxRecDepth 100000 in
theorem zc_X1_tellOne (l : Launch) (D : va_G) (cI : ClassId) (aK aV : Nat → Nat) (ad : Nat → Nat) (g_now : BT) (g_mind : BT) (g_taken : BT) (g_isTaken : Int32) (g_letters : (Nat → Int32)) (g_letterCount : Int32) (g_told : (Nat → Int32)) (g_toldCount : Int32) (g_refusals : (Nat → Int32)) (g_costs : (Nat → Int32)) (g_gains : (Nat → Int32)) (g_seed : Int32) (v1 : Int32) (r0 : Int32) (w_g_mind : BT) (h : zf_X1_tellOne g_mind g_letters g_letterCount v1 = some (r0, w_g_mind)) : CnE l D cI aK aV yX1_tellOne wsX1_tellOne rm_X1_tellOne [.ref (ad 0), .int v1] (zb_G cI ad g_now g_mind g_taken g_isTaken g_letters g_letterCount g_told g_toldCount g_refusals g_costs g_gains g_seed) (some (.int r0)) (zb_G cI ad g_now w_g_mind g_taken g_isTaken g_letters g_letterCount g_told g_toldCount g_refusals g_costs g_gains g_seed) := by
  refine zb_ofWE (cc := cX1_tellOne) (maxL := 2) (ret := (some .boolean)) (by decide) rfl (Nat.le_of_ble_eq_true rfl) ?_
  intro p e s m args below meth c A ls hx hb hr hml hts hown hlk hK hE hP hD hA hl
  have hS : va_S A s.heap s.heap [] := va_S.rf
  have hl : lv_has ls 2 [(0, .ref (ad 0)), (1, .int v1)] := hl
  unfold zf_X1_tellOne at h
  refine lv_aload_n hx hb dX1_tellOne_0 rfl (lv_at hl 0 rfl) ?_
  refine lv_iload_n hx hb dX1_tellOne_1 rfl (lv_at hl 1 rfl) ?_
  obtain ⟨r1, g2, h⟩ := bo1 h
  refine zb_callV (As := [.int v1]) (rest := []) ⟨hx, hb, hml, hown, hts⟩ (zc_X1_letterAt l D cI ad g_now g_mind g_taken g_isTaken g_letters g_letterCount g_told g_toldCount g_refusals g_costs g_gains g_seed v1 r1 g2) (cwV 1 hts gX1_tellOne_X1_letterAt rfl rfl rfl hd_X1_letterAt ⟨Nat.le_of_ble_eq_true rfl, Nat.le_of_ble_eq_true rfl⟩) hK hP hD hS hA (zb_sG) (q0 := 0) rfl rfl rfl hl.1 rfl (Nat.le_of_ble_eq_true rfl) dX1_tellOne_2 ⟨Nat.le_refl _, Nat.le_refl _⟩ (fun H locs hP hD hS => ?_)
  by_cases c3 : r1 = (97 : Int32)
  · replace h := it_t c3 h
    have e9 : r1.toInt = 97 := by rw [c3]; rfl
    refine lv_lookup (tgt := 142) hx hb dX1_tellOne_5 (by decide) (by rw [e9]; try rfl) (by decide) ?_
    refine lv_aload_n hx hb dX1_tellOne_142 rfl (lv_at hl 0 rfl) ?_
    refine lv_aload_n hx hb dX1_tellOne_143 rfl (lv_at hl 0 rfl) ?_
    refine lv_iload_n hx hb dX1_tellOne_144 rfl (lv_at hl 1 rfl) ?_
    refine lv_iconst (v := (1 : Int32)) hx hb dX1_tellOne_145 (by decide) ?_
    refine lv_iadd hx hb dX1_tellOne_146 ?_
    obtain ⟨r4, g5, h⟩ := bo1 h
    refine zb_callV (As := [.int (v1 + (1 : Int32))]) (rest := [.ref (ad 0)]) ⟨hx, hb, hml, hown, hts⟩ (zc_X1_digit l D cI ad g_now g_mind g_taken g_isTaken g_letters g_letterCount g_told g_toldCount g_refusals g_costs g_gains g_seed (v1 + (1 : Int32)) r4 g5) (cwV 1 hts gX1_tellOne_X1_digit rfl rfl rfl hd_X1_digit ⟨Nat.le_of_ble_eq_true rfl, Nat.le_of_ble_eq_true rfl⟩) hK hP hD hS hA (zb_sG) (q0 := 0) rfl rfl rfl hl.1 rfl (Nat.le_of_ble_eq_true rfl) dX1_tellOne_147 ⟨Nat.le_refl _, Nat.le_refl _⟩ (fun H locs hP hD hS => ?_)
    refine lv_aload_n hx hb dX1_tellOne_150 rfl (lv_at hl 0 rfl) ?_
    refine lv_iload_n hx hb dX1_tellOne_151 rfl (lv_at hl 1 rfl) ?_
    refine lv_iconst (v := (2 : Int32)) hx hb dX1_tellOne_152 (by decide) ?_
    refine lv_iadd hx hb dX1_tellOne_153 ?_
    obtain ⟨r6, g7, h⟩ := bo1 h
    refine zb_callV (As := [.int (v1 + (2 : Int32))]) (rest := [.int r4, .ref (ad 0)]) ⟨hx, hb, hml, hown, hts⟩ (zc_X1_number l D cI ad g_now g_mind g_taken g_isTaken g_letters g_letterCount g_told g_toldCount g_refusals g_costs g_gains g_seed (v1 + (2 : Int32)) r6 g7) (cwV 1 hts gX1_tellOne_X1_number rfl rfl rfl hd_X1_number ⟨Nat.le_of_ble_eq_true rfl, Nat.le_of_ble_eq_true rfl⟩) hK hP hD hS hA (zb_sG) (q0 := 0) rfl rfl rfl hl.1 rfl (Nat.le_of_ble_eq_true rfl) dX1_tellOne_154 ⟨Nat.le_refl _, Nat.le_refl _⟩ (fun H locs hP hD hS => ?_)
    obtain ⟨r8, n9, g10, h⟩ := bo2 h
    refine zb_callV (As := [.int r4, .int r6]) (rest := []) ⟨hx, hb, hml, hown, hts⟩ (zc_X1_tellPlace l D cI ad g_now g_mind g_taken g_isTaken g_letters g_letterCount g_told g_toldCount g_refusals g_costs g_gains g_seed r4 r6 r8 n9 g10) (cwV 2 hts gX1_tellOne_X1_tellPlace rfl rfl rfl hd_X1_tellPlace ⟨Nat.le_of_ble_eq_true rfl, Nat.le_of_ble_eq_true rfl⟩) hK hP hD hS hA (zb_sG) (q0 := 0) rfl rfl rfl hl.1 rfl (Nat.le_of_ble_eq_true rfl) dX1_tellOne_157 ⟨Nat.le_refl _, Nat.le_refl _⟩ (fun H locs hP hD hS => ?_)
    obtain ⟨hz, h⟩ := it_z h
    obtain ⟨rfl, rfl⟩ := re2 h
    exact zb_zret hx hb hr hlk hz hP hS dX1_tellOne_160
  replace h := it_f c3 h
  by_cases c11 : r1 = (104 : Int32)
  · replace h := it_t c11 h
    have e9 : r1.toInt = 104 := by rw [c11]; rfl
    refine lv_lookup (tgt := 123) hx hb dX1_tellOne_5 (by decide) (by rw [e9]; try rfl) (by decide) ?_
    refine lv_aload_n hx hb dX1_tellOne_123 rfl (lv_at hl 0 rfl) ?_
    refine lv_aload_n hx hb dX1_tellOne_124 rfl (lv_at hl 0 rfl) ?_
    refine lv_iload_n hx hb dX1_tellOne_125 rfl (lv_at hl 1 rfl) ?_
    refine lv_iconst (v := (1 : Int32)) hx hb dX1_tellOne_126 (by decide) ?_
    refine lv_iadd hx hb dX1_tellOne_127 ?_
    obtain ⟨r12, g13, h⟩ := bo1 h
    refine zb_callV (As := [.int (v1 + (1 : Int32))]) (rest := [.ref (ad 0)]) ⟨hx, hb, hml, hown, hts⟩ (zc_X1_digit l D cI ad g_now g_mind g_taken g_isTaken g_letters g_letterCount g_told g_toldCount g_refusals g_costs g_gains g_seed (v1 + (1 : Int32)) r12 g13) (cwV 1 hts gX1_tellOne_X1_digit rfl rfl rfl hd_X1_digit ⟨Nat.le_of_ble_eq_true rfl, Nat.le_of_ble_eq_true rfl⟩) hK hP hD hS hA (zb_sG) (q0 := 0) rfl rfl rfl hl.1 rfl (Nat.le_of_ble_eq_true rfl) dX1_tellOne_128 ⟨Nat.le_refl _, Nat.le_refl _⟩ (fun H locs hP hD hS => ?_)
    refine lv_aload_n hx hb dX1_tellOne_131 rfl (lv_at hl 0 rfl) ?_
    refine lv_iload_n hx hb dX1_tellOne_132 rfl (lv_at hl 1 rfl) ?_
    refine lv_iconst (v := (2 : Int32)) hx hb dX1_tellOne_133 (by decide) ?_
    refine lv_iadd hx hb dX1_tellOne_134 ?_
    obtain ⟨r14, g15, h⟩ := bo1 h
    refine zb_callV (As := [.int (v1 + (2 : Int32))]) (rest := [.int r12, .ref (ad 0)]) ⟨hx, hb, hml, hown, hts⟩ (zc_X1_digit l D cI ad g_now g_mind g_taken g_isTaken g_letters g_letterCount g_told g_toldCount g_refusals g_costs g_gains g_seed (v1 + (2 : Int32)) r14 g15) (cwV 1 hts gX1_tellOne_X1_digit rfl rfl rfl hd_X1_digit ⟨Nat.le_of_ble_eq_true rfl, Nat.le_of_ble_eq_true rfl⟩) hK hP hD hS hA (zb_sG) (q0 := 0) rfl rfl rfl hl.1 rfl (Nat.le_of_ble_eq_true rfl) dX1_tellOne_135 ⟨Nat.le_refl _, Nat.le_refl _⟩ (fun H locs hP hD hS => ?_)
    obtain ⟨r16, n17, g18, h⟩ := bo2 h
    refine zb_callV (As := [.int r12, .int r14]) (rest := []) ⟨hx, hb, hml, hown, hts⟩ (zc_X1_tellHeading l D cI ad g_now g_mind g_taken g_isTaken g_letters g_letterCount g_told g_toldCount g_refusals g_costs g_gains g_seed r12 r14 r16 n17 g18) (cwV 2 hts gX1_tellOne_X1_tellHeading rfl rfl rfl hd_X1_tellHeading ⟨Nat.le_of_ble_eq_true rfl, Nat.le_of_ble_eq_true rfl⟩) hK hP hD hS hA (zb_sG) (q0 := 0) rfl rfl rfl hl.1 rfl (Nat.le_of_ble_eq_true rfl) dX1_tellOne_138 ⟨Nat.le_refl _, Nat.le_refl _⟩ (fun H locs hP hD hS => ?_)
    obtain ⟨hz, h⟩ := it_z h
    obtain ⟨rfl, rfl⟩ := re2 h
    exact zb_zret hx hb hr hlk hz hP hS dX1_tellOne_141
  replace h := it_f c11 h
  by_cases c19 : r1 = (110 : Int32)
  · replace h := it_t c19 h
    have e9 : r1.toInt = 110 := by rw [c19]; rfl
    refine lv_lookup (tgt := 56) hx hb dX1_tellOne_5 (by decide) (by rw [e9]; try rfl) (by decide) ?_
    refine lv_aload_n hx hb dX1_tellOne_56 rfl (lv_at hl 0 rfl) ?_
    refine lv_aload_n hx hb dX1_tellOne_57 rfl (lv_at hl 0 rfl) ?_
    refine lv_iload_n hx hb dX1_tellOne_58 rfl (lv_at hl 1 rfl) ?_
    refine lv_iconst (v := (1 : Int32)) hx hb dX1_tellOne_59 (by decide) ?_
    refine lv_iadd hx hb dX1_tellOne_60 ?_
    obtain ⟨r20, g21, h⟩ := bo1 h
    refine zb_callV (As := [.int (v1 + (1 : Int32))]) (rest := [.ref (ad 0)]) ⟨hx, hb, hml, hown, hts⟩ (zc_X1_number l D cI ad g_now g_mind g_taken g_isTaken g_letters g_letterCount g_told g_toldCount g_refusals g_costs g_gains g_seed (v1 + (1 : Int32)) r20 g21) (cwV 1 hts gX1_tellOne_X1_number rfl rfl rfl hd_X1_number ⟨Nat.le_of_ble_eq_true rfl, Nat.le_of_ble_eq_true rfl⟩) hK hP hD hS hA (zb_sG) (q0 := 0) rfl rfl rfl hl.1 rfl (Nat.le_of_ble_eq_true rfl) dX1_tellOne_61 ⟨Nat.le_refl _, Nat.le_refl _⟩ (fun H locs hP hD hS => ?_)
    refine lv_aload_n hx hb dX1_tellOne_64 rfl (lv_at hl 0 rfl) ?_
    refine lv_iload_n hx hb dX1_tellOne_65 rfl (lv_at hl 1 rfl) ?_
    refine lv_iconst (v := (3 : Int32)) hx hb dX1_tellOne_66 (by decide) ?_
    refine lv_iadd hx hb dX1_tellOne_67 ?_
    obtain ⟨r22, g23, h⟩ := bo1 h
    refine zb_callV (As := [.int (v1 + (3 : Int32))]) (rest := [.int r20, .ref (ad 0)]) ⟨hx, hb, hml, hown, hts⟩ (zc_X1_letterAt l D cI ad g_now g_mind g_taken g_isTaken g_letters g_letterCount g_told g_toldCount g_refusals g_costs g_gains g_seed (v1 + (3 : Int32)) r22 g23) (cwV 1 hts gX1_tellOne_X1_letterAt rfl rfl rfl hd_X1_letterAt ⟨Nat.le_of_ble_eq_true rfl, Nat.le_of_ble_eq_true rfl⟩) hK hP hD hS hA (zb_sG) (q0 := 0) rfl rfl rfl hl.1 rfl (Nat.le_of_ble_eq_true rfl) dX1_tellOne_68 ⟨Nat.le_refl _, Nat.le_refl _⟩ (fun H locs hP hD hS => ?_)
    obtain ⟨r24, g25, h⟩ := bo1 h
    refine zb_callSE (As := [.int r22]) (rest := [.int r20, .ref (ad 0)]) ⟨hx, hb, hml, hown, hts⟩ (zc_X1_kindBy l D cI aK aV r22 r24 g25) (va_cwS 1 hts gX1_tellOne_X1_kindBy rfl rfl rfl hd_X1_kindBy.2 ⟨Nat.le_of_ble_eq_true rfl, Nat.le_of_ble_eq_true rfl⟩) hK hE hP hD hS hA (zb_none _) rfl hl.1 rfl (Nat.le_of_ble_eq_true rfl) dX1_tellOne_71 ⟨Nat.le_refl _, Nat.le_refl _⟩ (fun H locs hP hD hS => ?_)
    refine lv_aload_n hx hb dX1_tellOne_74 rfl (lv_at hl 0 rfl) ?_
    refine lv_iload_n hx hb dX1_tellOne_75 rfl (lv_at hl 1 rfl) ?_
    refine lv_iconst (v := (4 : Int32)) hx hb dX1_tellOne_76 (by decide) ?_
    refine lv_iadd hx hb dX1_tellOne_77 ?_
    obtain ⟨r26, g27, h⟩ := bo1 h
    refine zb_callV (As := [.int (v1 + (4 : Int32))]) (rest := [.int r24, .int r20, .ref (ad 0)]) ⟨hx, hb, hml, hown, hts⟩ (zc_X1_digit l D cI ad g_now g_mind g_taken g_isTaken g_letters g_letterCount g_told g_toldCount g_refusals g_costs g_gains g_seed (v1 + (4 : Int32)) r26 g27) (cwV 1 hts gX1_tellOne_X1_digit rfl rfl rfl hd_X1_digit ⟨Nat.le_of_ble_eq_true rfl, Nat.le_of_ble_eq_true rfl⟩) hK hP hD hS hA (zb_sG) (q0 := 0) rfl rfl rfl hl.1 rfl (Nat.le_of_ble_eq_true rfl) dX1_tellOne_78 ⟨Nat.le_refl _, Nat.le_refl _⟩ (fun H locs hP hD hS => ?_)
    obtain ⟨r28, n29, g30, h⟩ := bo2 h
    refine zb_callV (As := [.int r20, .int r24, .int r26]) (rest := []) ⟨hx, hb, hml, hown, hts⟩ (zc_X1_tellNode l D cI ad g_now g_mind g_taken g_isTaken g_letters g_letterCount g_told g_toldCount g_refusals g_costs g_gains g_seed r20 r24 r26 r28 n29 g30) (cwV 3 hts gX1_tellOne_X1_tellNode rfl rfl rfl hd_X1_tellNode ⟨Nat.le_of_ble_eq_true rfl, Nat.le_of_ble_eq_true rfl⟩) hK hP hD hS hA (zb_sG) (q0 := 0) rfl rfl rfl hl.1 rfl (Nat.le_of_ble_eq_true rfl) dX1_tellOne_81 ⟨Nat.le_refl _, Nat.le_refl _⟩ (fun H locs hP hD hS => ?_)
    obtain ⟨hz, h⟩ := it_z h
    obtain ⟨rfl, rfl⟩ := re2 h
    exact zb_zret hx hb hr hlk hz hP hS dX1_tellOne_84
  replace h := it_f c19 h
  by_cases c31 : r1 = (112 : Int32)
  · replace h := it_t c31 h
    have e9 : r1.toInt = 112 := by rw [c31]; rfl
    refine lv_lookup (tgt := 104) hx hb dX1_tellOne_5 (by decide) (by rw [e9]; try rfl) (by decide) ?_
    refine lv_aload_n hx hb dX1_tellOne_104 rfl (lv_at hl 0 rfl) ?_
    refine lv_aload_n hx hb dX1_tellOne_105 rfl (lv_at hl 0 rfl) ?_
    refine lv_iload_n hx hb dX1_tellOne_106 rfl (lv_at hl 1 rfl) ?_
    refine lv_iconst (v := (1 : Int32)) hx hb dX1_tellOne_107 (by decide) ?_
    refine lv_iadd hx hb dX1_tellOne_108 ?_
    obtain ⟨r32, g33, h⟩ := bo1 h
    refine zb_callV (As := [.int (v1 + (1 : Int32))]) (rest := [.ref (ad 0)]) ⟨hx, hb, hml, hown, hts⟩ (zc_X1_number l D cI ad g_now g_mind g_taken g_isTaken g_letters g_letterCount g_told g_toldCount g_refusals g_costs g_gains g_seed (v1 + (1 : Int32)) r32 g33) (cwV 1 hts gX1_tellOne_X1_number rfl rfl rfl hd_X1_number ⟨Nat.le_of_ble_eq_true rfl, Nat.le_of_ble_eq_true rfl⟩) hK hP hD hS hA (zb_sG) (q0 := 0) rfl rfl rfl hl.1 rfl (Nat.le_of_ble_eq_true rfl) dX1_tellOne_109 ⟨Nat.le_refl _, Nat.le_refl _⟩ (fun H locs hP hD hS => ?_)
    refine lv_aload_n hx hb dX1_tellOne_112 rfl (lv_at hl 0 rfl) ?_
    refine lv_iload_n hx hb dX1_tellOne_113 rfl (lv_at hl 1 rfl) ?_
    refine lv_iconst (v := (3 : Int32)) hx hb dX1_tellOne_114 (by decide) ?_
    refine lv_iadd hx hb dX1_tellOne_115 ?_
    obtain ⟨r34, g35, h⟩ := bo1 h
    refine zb_callV (As := [.int (v1 + (3 : Int32))]) (rest := [.int r32, .ref (ad 0)]) ⟨hx, hb, hml, hown, hts⟩ (zc_X1_digit l D cI ad g_now g_mind g_taken g_isTaken g_letters g_letterCount g_told g_toldCount g_refusals g_costs g_gains g_seed (v1 + (3 : Int32)) r34 g35) (cwV 1 hts gX1_tellOne_X1_digit rfl rfl rfl hd_X1_digit ⟨Nat.le_of_ble_eq_true rfl, Nat.le_of_ble_eq_true rfl⟩) hK hP hD hS hA (zb_sG) (q0 := 0) rfl rfl rfl hl.1 rfl (Nat.le_of_ble_eq_true rfl) dX1_tellOne_116 ⟨Nat.le_refl _, Nat.le_refl _⟩ (fun H locs hP hD hS => ?_)
    obtain ⟨r36, n37, g38, h⟩ := bo2 h
    refine zb_callV (As := [.int r32, .int r34]) (rest := []) ⟨hx, hb, hml, hown, hts⟩ (zc_X1_tellComing l D cI ad g_now g_mind g_taken g_isTaken g_letters g_letterCount g_told g_toldCount g_refusals g_costs g_gains g_seed r32 r34 r36 n37 g38) (cwV 2 hts gX1_tellOne_X1_tellComing rfl rfl rfl hd_X1_tellComing ⟨Nat.le_of_ble_eq_true rfl, Nat.le_of_ble_eq_true rfl⟩) hK hP hD hS hA (zb_sG) (q0 := 0) rfl rfl rfl hl.1 rfl (Nat.le_of_ble_eq_true rfl) dX1_tellOne_119 ⟨Nat.le_refl _, Nat.le_refl _⟩ (fun H locs hP hD hS => ?_)
    obtain ⟨hz, h⟩ := it_z h
    obtain ⟨rfl, rfl⟩ := re2 h
    exact zb_zret hx hb hr hlk hz hP hS dX1_tellOne_122
  replace h := it_f c31 h
  by_cases c39 : r1 = (119 : Int32)
  · replace h := it_t c39 h
    have e9 : r1.toInt = 119 := by rw [c39]; rfl
    refine lv_lookup (tgt := 85) hx hb dX1_tellOne_5 (by decide) (by rw [e9]; try rfl) (by decide) ?_
    refine lv_aload_n hx hb dX1_tellOne_85 rfl (lv_at hl 0 rfl) ?_
    refine lv_aload_n hx hb dX1_tellOne_86 rfl (lv_at hl 0 rfl) ?_
    refine lv_iload_n hx hb dX1_tellOne_87 rfl (lv_at hl 1 rfl) ?_
    refine lv_iconst (v := (1 : Int32)) hx hb dX1_tellOne_88 (by decide) ?_
    refine lv_iadd hx hb dX1_tellOne_89 ?_
    obtain ⟨r40, g41, h⟩ := bo1 h
    refine zb_callV (As := [.int (v1 + (1 : Int32))]) (rest := [.ref (ad 0)]) ⟨hx, hb, hml, hown, hts⟩ (zc_X1_number l D cI ad g_now g_mind g_taken g_isTaken g_letters g_letterCount g_told g_toldCount g_refusals g_costs g_gains g_seed (v1 + (1 : Int32)) r40 g41) (cwV 1 hts gX1_tellOne_X1_number rfl rfl rfl hd_X1_number ⟨Nat.le_of_ble_eq_true rfl, Nat.le_of_ble_eq_true rfl⟩) hK hP hD hS hA (zb_sG) (q0 := 0) rfl rfl rfl hl.1 rfl (Nat.le_of_ble_eq_true rfl) dX1_tellOne_90 ⟨Nat.le_refl _, Nat.le_refl _⟩ (fun H locs hP hD hS => ?_)
    refine lv_aload_n hx hb dX1_tellOne_93 rfl (lv_at hl 0 rfl) ?_
    refine lv_iload_n hx hb dX1_tellOne_94 rfl (lv_at hl 1 rfl) ?_
    refine lv_iconst (v := (3 : Int32)) hx hb dX1_tellOne_95 (by decide) ?_
    refine lv_iadd hx hb dX1_tellOne_96 ?_
    obtain ⟨r42, g43, h⟩ := bo1 h
    refine zb_callV (As := [.int (v1 + (3 : Int32))]) (rest := [.int r40, .ref (ad 0)]) ⟨hx, hb, hml, hown, hts⟩ (zc_X1_digit l D cI ad g_now g_mind g_taken g_isTaken g_letters g_letterCount g_told g_toldCount g_refusals g_costs g_gains g_seed (v1 + (3 : Int32)) r42 g43) (cwV 1 hts gX1_tellOne_X1_digit rfl rfl rfl hd_X1_digit ⟨Nat.le_of_ble_eq_true rfl, Nat.le_of_ble_eq_true rfl⟩) hK hP hD hS hA (zb_sG) (q0 := 0) rfl rfl rfl hl.1 rfl (Nat.le_of_ble_eq_true rfl) dX1_tellOne_97 ⟨Nat.le_refl _, Nat.le_refl _⟩ (fun H locs hP hD hS => ?_)
    obtain ⟨r44, n45, g46, h⟩ := bo2 h
    refine zb_callV (As := [.int r40, .int r42]) (rest := []) ⟨hx, hb, hml, hown, hts⟩ (zc_X1_tellWet l D cI ad g_now g_mind g_taken g_isTaken g_letters g_letterCount g_told g_toldCount g_refusals g_costs g_gains g_seed r40 r42 r44 n45 g46) (cwV 2 hts gX1_tellOne_X1_tellWet rfl rfl rfl hd_X1_tellWet ⟨Nat.le_of_ble_eq_true rfl, Nat.le_of_ble_eq_true rfl⟩) hK hP hD hS hA (zb_sG) (q0 := 0) rfl rfl rfl hl.1 rfl (Nat.le_of_ble_eq_true rfl) dX1_tellOne_100 ⟨Nat.le_refl _, Nat.le_refl _⟩ (fun H locs hP hD hS => ?_)
    obtain ⟨hz, h⟩ := it_z h
    obtain ⟨rfl, rfl⟩ := re2 h
    exact zb_zret hx hb hr hlk hz hP hS dX1_tellOne_103
  replace h := it_f c39 h
  have e_c3 := sw_ne (k := 97) rfl c3
  have e_c11 := sw_ne (k := 104) rfl c11
  have e_c19 := sw_ne (k := 110) rfl c19
  have e_c31 := sw_ne (k := 112) rfl c31
  have e_c39 := sw_ne (k := 119) rfl c39
  refine lv_lookup (tgt := 161) hx hb dX1_tellOne_5 (by decide) (by simp only [Op.lookupswitch.offset]; rw [if_neg (fun q => e_c3 q.symm), if_neg (fun q => e_c11 q.symm), if_neg (fun q => e_c19 q.symm), if_neg (fun q => e_c31 q.symm), if_neg (fun q => e_c39 q.symm)]) (by decide) ?_
  refine lv_aload_n hx hb dX1_tellOne_161 rfl (lv_at hl 0 rfl) ?_
  refine lv_aload_n hx hb dX1_tellOne_162 rfl (lv_at hl 0 rfl) ?_
  refine lv_iload_n hx hb dX1_tellOne_163 rfl (lv_at hl 1 rfl) ?_
  refine lv_iconst (v := (1 : Int32)) hx hb dX1_tellOne_164 (by decide) ?_
  refine lv_iadd hx hb dX1_tellOne_165 ?_
  obtain ⟨r47, g48, h⟩ := bo1 h
  refine zb_callV (As := [.int (v1 + (1 : Int32))]) (rest := [.ref (ad 0)]) ⟨hx, hb, hml, hown, hts⟩ (zc_X1_number l D cI ad g_now g_mind g_taken g_isTaken g_letters g_letterCount g_told g_toldCount g_refusals g_costs g_gains g_seed (v1 + (1 : Int32)) r47 g48) (cwV 1 hts gX1_tellOne_X1_number rfl rfl rfl hd_X1_number ⟨Nat.le_of_ble_eq_true rfl, Nat.le_of_ble_eq_true rfl⟩) hK hP hD hS hA (zb_sG) (q0 := 0) rfl rfl rfl hl.1 rfl (Nat.le_of_ble_eq_true rfl) dX1_tellOne_166 ⟨Nat.le_refl _, Nat.le_refl _⟩ (fun H locs hP hD hS => ?_)
  obtain ⟨r49, n50, g51, h⟩ := bo2 h
  refine zb_callV (As := [.int r47]) (rest := []) ⟨hx, hb, hml, hown, hts⟩ (zc_X1_tellSteps l D cI ad g_now g_mind g_taken g_isTaken g_letters g_letterCount g_told g_toldCount g_refusals g_costs g_gains g_seed r47 r49 n50 g51) (cwV 1 hts gX1_tellOne_X1_tellSteps rfl rfl rfl hd_X1_tellSteps ⟨Nat.le_of_ble_eq_true rfl, Nat.le_of_ble_eq_true rfl⟩) hK hP hD hS hA (zb_sG) (q0 := 0) rfl rfl rfl hl.1 rfl (Nat.le_of_ble_eq_true rfl) dX1_tellOne_169 ⟨Nat.le_refl _, Nat.le_refl _⟩ (fun H locs hP hD hS => ?_)
  obtain ⟨hz, h⟩ := it_z h
  obtain ⟨rfl, rfl⟩ := re2 h
  exact zb_zret hx hb hr hlk hz hP hS dX1_tellOne_172
abbrev rm_X1_tellAll : Room := { frames := 6, cells := 0, slots := 0, locals := 132 }
theorem hd_X1_tellAll : yX1_tellAll.cls = RX1 ∧ yX1_tellAll.cls ≠ "java/lang/invoke/MethodHandle" ∧ yX1_tellAll.cls ≠ "java/lang/invoke/VarHandle" ∧ (parseMethodDescriptor yX1_tellAll.desc).map (fun d => d.parameters.length) = some 0 := by decide +kernel
theorem zi_X1_tellAll_X1 : ∀ w ∈ wsX10, w ∈ wsX1_tellAll := fun _ h => List.mem_cons_of_mem _ (List.mem_append_left _ (List.mem_append_right _ h))
theorem zk_X1_tellAll_0 : Cond.fieldLink RX1 16 "GroutingIsFollowed" "mind" "LGroutingIsFollowed$Bath;" ∈ wsX1_tellAll := by decide +kernel
theorem zk_X1_tellAll_1 : Cond.fieldLink RX1 10 "GroutingIsFollowed" "now" "LGroutingIsFollowed$Bath;" ∈ wsX1_tellAll := by decide +kernel
theorem zk_X1_tellAll_2 : Cond.fieldLink RX1 42 "GroutingIsFollowed" "letterCount" "I" ∈ wsX1_tellAll := by decide +kernel
set_option maxHeartbeats 4000000 in
set_option maxRecDepth 100000 in
theorem zc_X1_tellAll (l : Launch) (D : va_G) (cI : ClassId) (aK aV : Nat → Nat) (ad : Nat → Nat) (g_now : BT) (g_mind : BT) (g_taken : BT) (g_isTaken : Int32) (g_letters : (Nat → Int32)) (g_letterCount : Int32) (g_told : (Nat → Int32)) (g_toldCount : Int32) (g_refusals : (Nat → Int32)) (g_costs : (Nat → Int32)) (g_gains : (Nat → Int32)) (g_seed : Int32) (r0 : Int32) (w_g_now : BT) (w_g_mind : BT) (h : zf_X1_tellAll g_now g_mind g_letters g_letterCount = some (r0, w_g_now, w_g_mind)) : CnE l D cI aK aV yX1_tellAll wsX1_tellAll rm_X1_tellAll [.ref (ad 0)] (zb_G cI ad g_now g_mind g_taken g_isTaken g_letters g_letterCount g_told g_toldCount g_refusals g_costs g_gains g_seed) (some (.int r0)) (zb_G cI ad w_g_now w_g_mind g_taken g_isTaken g_letters g_letterCount g_told g_toldCount g_refusals g_costs g_gains g_seed) := by
  refine zb_ofWE (cc := cX1_tellAll) (maxL := 3) (ret := (some .int)) (by decide) rfl (Nat.le_of_ble_eq_true rfl) ?_
  intro p e s m args below meth c A ls hx hb hr hml hts hown hlk hK hE hP hD hA hl
  have hS : va_S A s.heap s.heap [] := va_S.rf
  have hl : lv_has ls 3 [(0, .ref (ad 0))] := hl
  unfold zf_X1_tellAll at h
  have j59 : ∀ (x1 : Int32) (x2 : BT) (x3 : BT) (H : Heap) (locs : List Loc) (hP : va_P D zb_cl (zb_G cI ad x2 x3 g_taken g_isTaken g_letters g_letterCount g_told g_toldCount g_refusals g_costs g_gains g_seed) H) (hD : va_D A (zb_G cI ad x2 x3 g_taken g_isTaken g_letters g_letterCount g_told g_toldCount g_refusals g_costs g_gains g_seed)) (hS : va_S A s.heap H locs) (ls : Array Slot) (hl : lv_has ls 3 [(0, .ref (ad 0)), (1, .int x1)]) (h : zf_X1_tellAll_j59 x1 x2 x3 = some (r0, w_g_now, w_g_mind)), W p l e rm_X1_tellAll s m args below meth c H locs 0 0 (zb_Q below D (some (.int r0)) (zb_G cI ad w_g_now w_g_mind g_taken g_isTaken g_letters g_letterCount g_told g_toldCount g_refusals g_costs g_gains g_seed) A args s) (F0 m 59 ls []) := by
    intro x1 x2 x3 H locs hP hD hS ls hl h
    unfold zf_X1_tellAll_j59 at h
    refine lv_aload_n hx hb dX1_tellAll_59 rfl (lv_at hl 0 rfl) ?_
    refine va_get (D := D) (ci := 1) (v := .ref (ad 1)) (C := RX1) (T := TX1) (N := 12) hx hb hts zi_X1_tellAll_X1 hown hK.1 hP 0 rfl rfl 0 (by decide) (hts _ zk_X1_tellAll_1) (fun _ h9 => h9) rfl dX1_tellAll_60 ?_
    refine lv_aload_n hx hb dX1_tellAll_63 rfl (lv_at hl 0 rfl) ?_
    refine va_get (D := D) (ci := 1) (v := .ref (ad 8)) (C := RX1) (T := TX1) (N := 12) hx hb hts zi_X1_tellAll_X1 hown hK.1 hP 0 rfl rfl 1 (by decide) (hts _ zk_X1_tellAll_0) (fun _ h9 => h9) rfl dX1_tellAll_64 ?_
    obtain ⟨n4, g5, h⟩ := bo1 h
    refine zb_callV (As := [.ref (ad 8)]) (rest := []) ⟨hx, hb, hml, hown, hts⟩ (zc_X0_becomes l D cI (ad 1) (ad 2) (ad 3) (ad 4) (ad 5) (ad 6) (ad 7) (ad 8) (ad 9) (ad 10) (ad 11) (ad 12) (ad 13) (ad 14) x2 x3 n4 g5) (cwV 1 hts gX1_tellAll_X0_becomes rfl rfl rfl hd_X0_becomes ⟨Nat.le_of_ble_eq_true rfl, Nat.le_of_ble_eq_true rfl⟩) hK hP hD hS hA (zb_cGnm) (q0 := 0) rfl rfl rfl hl.1 rfl (Nat.le_of_ble_eq_true rfl) dX1_tellAll_67 ⟨Nat.le_refl _, Nat.le_refl _⟩ (fun H locs hP hD hS => ?_)
    refine lv_iload_n hx hb dX1_tellAll_70 rfl (lv_at hl 1 rfl) ?_
    obtain ⟨rfl, rfl, rfl⟩ := re3 h
    exact zb_iret hx hb hr hlk hP hS dX1_tellAll_71
  refine lv_aload_n hx hb dX1_tellAll_0 rfl (lv_at hl 0 rfl) ?_
  refine va_get (D := D) (ci := 1) (v := .ref (ad 8)) (C := RX1) (T := TX1) (N := 12) hx hb hts zi_X1_tellAll_X1 hown hK.1 hP 0 rfl rfl 1 (by decide) (hts _ zk_X1_tellAll_0) (fun _ h9 => h9) rfl dX1_tellAll_1 ?_
  refine lv_aload_n hx hb dX1_tellAll_4 rfl (lv_at hl 0 rfl) ?_
  refine va_get (D := D) (ci := 1) (v := .ref (ad 1)) (C := RX1) (T := TX1) (N := 12) hx hb hts zi_X1_tellAll_X1 hown hK.1 hP 0 rfl rfl 0 (by decide) (hts _ zk_X1_tellAll_1) (fun _ h9 => h9) rfl dX1_tellAll_5 ?_
  obtain ⟨n6, g7, h⟩ := bo1 h
  refine zb_callV (As := [.ref (ad 1)]) (rest := []) ⟨hx, hb, hml, hown, hts⟩ (zc_X0_becomes l D cI (ad 8) (ad 9) (ad 10) (ad 11) (ad 12) (ad 13) (ad 14) (ad 1) (ad 2) (ad 3) (ad 4) (ad 5) (ad 6) (ad 7) g_mind g_now n6 g7) (cwV 1 hts gX1_tellAll_X0_becomes rfl rfl rfl hd_X0_becomes ⟨Nat.le_of_ble_eq_true rfl, Nat.le_of_ble_eq_true rfl⟩) hK hP hD hS hA (zb_cGmn) (q0 := 0) rfl rfl rfl hl.1 rfl (Nat.le_of_ble_eq_true rfl) dX1_tellAll_8 ⟨Nat.le_refl _, Nat.le_refl _⟩ (fun H locs hP hD hS => ?_)
  refine lv_iconst (v := (0 : Int32)) hx hb dX1_tellAll_11 (by decide) ?_
  refine lv_istore_n (lv' := [(1, .int (0 : Int32)), (0, .ref (ad 0))]) hx hb dX1_tellAll_12 rfl hl (by decide) rfl (fun ls hl => ?_)
  refine lv_iconst (v := (0 : Int32)) hx hb dX1_tellAll_13 (by decide) ?_
  refine lv_istore_n (lv' := [(2, .int (0 : Int32)), (1, .int (0 : Int32)), (0, .ref (ad 0))]) hx hb dX1_tellAll_14 rfl hl (by decide) rfl (fun ls hl => ?_)
  have lp11 : ∀ (fu11 : Nat) (x8 : Int32) (x9 : Int32) (x10 : BT) (H : Heap) (locs : List Loc) (hP : va_P D zb_cl (zb_G cI ad g_now x10 g_taken g_isTaken g_letters g_letterCount g_told g_toldCount g_refusals g_costs g_gains g_seed) H) (hD : va_D A (zb_G cI ad g_now x10 g_taken g_isTaken g_letters g_letterCount g_told g_toldCount g_refusals g_costs g_gains g_seed)) (hS : va_S A s.heap H locs) (ls : Array Slot) (hl : lv_has ls 3 [(0, .ref (ad 0)), (1, .int x8), (2, .int x9)]) (h : zl3 (zf_X1_tellAll_b15 g_now g_letters g_letterCount) fu11 x8 x9 x10 = some (r0, w_g_now, w_g_mind)), W p l e rm_X1_tellAll s m args below meth c H locs 0 0 (zb_Q below D (some (.int r0)) (zb_G cI ad w_g_now w_g_mind g_taken g_isTaken g_letters g_letterCount g_told g_toldCount g_refusals g_costs g_gains g_seed) A args s) (F0 m 15 ls []) := by
    intro fu11
    induction fu11 with
    | zero => intro x8 x9 x10 H locs hP hD hS ls hl h; exact zb_no h
    | succ fu11 ih11 =>
      intro x8 x9 x10 H locs hP hD hS ls hl h
      replace h : zf_X1_tellAll_b15 g_now g_letters g_letterCount (zl3 (zf_X1_tellAll_b15 g_now g_letters g_letterCount) fu11) x8 x9 x10 = some (r0, w_g_now, w_g_mind) := h
      unfold zf_X1_tellAll_b15 at h
      refine lv_iload_n hx hb dX1_tellAll_15 rfl (lv_at hl 2 rfl) ?_
      refine lv_aload_n hx hb dX1_tellAll_16 rfl (lv_at hl 0 rfl) ?_
      refine va_get (D := D) (ci := 1) (v := .int g_letterCount) (C := RX1) (T := TX1) (N := 12) hx hb hts zi_X1_tellAll_X1 hown hK.1 hP 0 rfl rfl 5 (by decide) (hts _ zk_X1_tellAll_2) (fun _ h9 => h9) rfl dX1_tellAll_17 ?_
      refine lv_icmp_ge (tgt := 59) hx hb dX1_tellAll_20 (by decide) (fun c12 => ?_) (fun c12 => ?_)
      · replace h := it_t c12 h
        exact j59 x8 g_now x10 _ _ hP hD hS ls (lv_sub hl [0, 1] rfl) h
      · replace h := it_f c12 h
        refine lv_aload_n hx hb dX1_tellAll_23 rfl (lv_at hl 0 rfl) ?_
        refine lv_iload_n hx hb dX1_tellAll_24 rfl (lv_at hl 2 rfl) ?_
        obtain ⟨r13, n14, g15, h⟩ := bo2 h
        refine zb_callVE (As := [.int x9]) (rest := []) ⟨hx, hb, hml, hown, hts⟩ (zc_X1_tellOne l D cI aK aV ad g_now x10 g_taken g_isTaken g_letters g_letterCount g_told g_toldCount g_refusals g_costs g_gains g_seed x9 r13 n14 g15) (cwV 1 hts gX1_tellAll_X1_tellOne rfl rfl rfl hd_X1_tellOne ⟨Nat.le_of_ble_eq_true rfl, Nat.le_of_ble_eq_true rfl⟩) hK hE hP hD hS hA (zb_sG) (q0 := 0) rfl rfl rfl hl.1 rfl (Nat.le_of_ble_eq_true rfl) dX1_tellAll_25 ⟨Nat.le_refl _, Nat.le_refl _⟩ (fun H locs hP hD hS => ?_)
        refine lv_if_ne (tgt := 37) hx hb dX1_tellAll_28 (by decide) (fun c16 => ?_) (fun c16 => ?_)
        · replace h := it_f c16 h
          refine lv_iinc (v := (x8 + (1 : Int32))) (lv' := [(1, .int (x8 + (1 : Int32))), (0, .ref (ad 0)), (2, .int x9)]) hx hb dX1_tellAll_37 hl (k := 1) rfl (by first | rfl | decide) (by decide) rfl (fun ls hl => ?_)
          refine lv_iload_n hx hb dX1_tellAll_40 rfl (lv_at hl 2 rfl) ?_
          refine lv_iconst (v := (1 : Int32)) hx hb dX1_tellAll_41 (by decide) ?_
          refine lv_aload_n hx hb dX1_tellAll_42 rfl (lv_at hl 1 rfl) ?_
          refine lv_iload_n hx hb dX1_tellAll_43 rfl (lv_at hl 2 rfl) ?_
          obtain ⟨r17, g18, h⟩ := bo1 h
          refine zb_callV (As := [.int x9]) (rest := [.int (1 : Int32), .int x9]) ⟨hx, hb, hml, hown, hts⟩ (zc_X1_letterAt l D cI ad g_now n14 g_taken g_isTaken g_letters g_letterCount g_told g_toldCount g_refusals g_costs g_gains g_seed x9 r17 g18) (cwV 1 hts gX1_tellAll_X1_letterAt rfl rfl rfl hd_X1_letterAt ⟨Nat.le_of_ble_eq_true rfl, Nat.le_of_ble_eq_true rfl⟩) hK hP hD hS hA (zb_sG) (q0 := 0) rfl rfl rfl hl.1 rfl (Nat.le_of_ble_eq_true rfl) dX1_tellAll_44 ⟨Nat.le_refl _, Nat.le_refl _⟩ (fun H locs hP hD hS => ?_)
          obtain ⟨r19, g20, h⟩ := bo1 h
          refine zb_callSE (As := [.int r17]) (rest := [.int (1 : Int32), .int x9]) ⟨hx, hb, hml, hown, hts⟩ (zc_X1_formBehind l D cI aK aV r17 r19 g20) (va_cwS 1 hts gX1_tellAll_X1_formBehind rfl rfl rfl hd_X1_formBehind.2 ⟨Nat.le_of_ble_eq_true rfl, Nat.le_of_ble_eq_true rfl⟩) hK hE hP hD hS hA (zb_none _) rfl hl.1 rfl (Nat.le_of_ble_eq_true rfl) dX1_tellAll_47 ⟨Nat.le_refl _, Nat.le_refl _⟩ (fun H locs hP hD hS => ?_)
          obtain ⟨h21, h⟩ := it_n h
          obtain ⟨r22, g23, h⟩ := bo1 h
          refine zb_callVS (k := r19) (As := []) (rest := [.int (1 : Int32), .int x9]) ⟨hx, hb, hml, hown, hts⟩ (zc_J0_length_8abf5 l D cI aK aV r19 r22 g23) (cwV 0 hts gX1_tellAll_J0_length_8abf5 rfl rfl rfl hd_J0_length_8abf5 ⟨Nat.le_of_ble_eq_true rfl, Nat.le_of_ble_eq_true rfl⟩) hK hE hP hD hS hA (zb_none _) (Nat.lt_of_not_le h21) rfl hl.1 rfl (Nat.le_of_ble_eq_true rfl) dX1_tellAll_50 ⟨Nat.le_refl _, Nat.le_refl _⟩ (fun H locs hP hD hS => ?_)
          refine lv_iadd hx hb dX1_tellAll_53 ?_
          refine lv_iadd hx hb dX1_tellAll_54 ?_
          refine lv_istore_n (lv' := [(2, .int (x9 + ((1 : Int32) + r22))), (1, .int (x8 + (1 : Int32))), (0, .ref (ad 0))]) hx hb dX1_tellAll_55 rfl hl (by decide) rfl (fun ls hl => ?_)
          refine lv_goto (tgt := 15) hx hb dX1_tellAll_56 (by decide) ?_
          exact ih11 (x8 + (1 : Int32)) (x9 + ((1 : Int32) + r22)) n14 _ _ hP hD hS ls (lv_sub hl [2, 1, 0] rfl) h
        · replace h := it_t c16 h
          refine lv_sipush (v := ((-2000) : Int32)) hx hb dX1_tellAll_31 (by decide) ?_
          refine lv_iload_n hx hb dX1_tellAll_34 rfl (lv_at hl 2 rfl) ?_
          refine lv_isub hx hb dX1_tellAll_35 ?_
          obtain ⟨rfl, rfl, rfl⟩ := re3 h
          exact zb_iret hx hb hr hlk hP hS dX1_tellAll_36
  exact lp11 zb_FU (0 : Int32) (0 : Int32) n6 _ _ hP hD hS ls (lv_sub hl [2, 1, 0] rfl) h
abbrev rm_X1_wall : Room := { frames := 7, cells := 0, slots := 0, locals := 155 }
theorem hd_X1_wall : yX1_wall.cls = RX1 ∧ yX1_wall.cls ≠ "java/lang/invoke/MethodHandle" ∧ yX1_wall.cls ≠ "java/lang/invoke/VarHandle" ∧ (parseMethodDescriptor yX1_wall.desc).map (fun d => d.parameters.length) = some 0 := by decide +kernel
theorem zi_X1_wall_X1 : ∀ w ∈ wsX10, w ∈ wsX1_wall := fun _ h => List.mem_cons_of_mem _ (List.mem_append_left _ (List.mem_append_right _ h))
theorem zk_X1_wall_0 : Cond.fieldLink RX1 42 "GroutingIsFollowed" "letterCount" "I" ∈ wsX1_wall := by decide +kernel
set_option maxHeartbeats 4000000 in
set_option maxRecDepth 100000 in
theorem zc_X1_wall (l : Launch) (D : va_G) (cI : ClassId) (aK aV : Nat → Nat) (ad : Nat → Nat) (g_now : BT) (g_mind : BT) (g_taken : BT) (g_isTaken : Int32) (g_letters : (Nat → Int32)) (g_letterCount : Int32) (g_told : (Nat → Int32)) (g_toldCount : Int32) (g_refusals : (Nat → Int32)) (g_costs : (Nat → Int32)) (g_gains : (Nat → Int32)) (g_seed : Int32) (r0 : Int32) (w_g_now : BT) (w_g_mind : BT) (w_g_letterCount : Int32) (h : zf_X1_wall g_now g_mind g_letters g_letterCount = some (r0, w_g_now, w_g_mind, w_g_letterCount)) : CnE l D cI aK aV yX1_wall wsX1_wall rm_X1_wall [.ref (ad 0)] (zb_G cI ad g_now g_mind g_taken g_isTaken g_letters g_letterCount g_told g_toldCount g_refusals g_costs g_gains g_seed) (some (.int r0)) (zb_G cI ad w_g_now w_g_mind g_taken g_isTaken g_letters w_g_letterCount g_told g_toldCount g_refusals g_costs g_gains g_seed) := by
  refine zb_ofWE (cc := cX1_wall) (maxL := 3) (ret := (some .int)) (by decide) rfl (Nat.le_of_ble_eq_true rfl) ?_
  intro p e s m args below meth c A ls hx hb hr hml hts hown hlk hK hE hP hD hA hl
  have hS : va_S A s.heap s.heap [] := va_S.rf
  have hl : lv_has ls 3 [(0, .ref (ad 0))] := hl
  unfold zf_X1_wall at h
  refine lv_aload_n hx hb dX1_wall_0 rfl (lv_at hl 0 rfl) ?_
  obtain ⟨r1, g2, h⟩ := bo1 h
  refine zb_callVE (As := []) (rest := []) ⟨hx, hb, hml, hown, hts⟩ (zc_X1_placeAmiss l D cI aK aV ad g_now g_mind g_taken g_isTaken g_letters g_letterCount g_told g_toldCount g_refusals g_costs g_gains g_seed r1 g2) (cwV 0 hts gX1_wall_X1_placeAmiss rfl rfl rfl hd_X1_placeAmiss ⟨Nat.le_of_ble_eq_true rfl, Nat.le_of_ble_eq_true rfl⟩) hK hE hP hD hS hA (zb_sG) (q0 := 0) rfl rfl rfl hl.1 rfl (Nat.le_of_ble_eq_true rfl) dX1_wall_1 ⟨Nat.le_refl _, Nat.le_refl _⟩ (fun H locs hP hD hS => ?_)
  refine lv_istore_n (lv' := [(1, .int r1), (0, .ref (ad 0))]) hx hb dX1_wall_4 rfl hl (by decide) rfl (fun ls hl => ?_)
  refine lv_iload_n hx hb dX1_wall_5 rfl (lv_at hl 0 rfl) ?_
  refine lv_if_lt (tgt := 17) hx hb dX1_wall_6 (by decide) (fun c3 => ?_) (fun c3 => ?_)
  · replace h := it_t c3 h
    refine lv_aload_n hx hb dX1_wall_17 rfl (lv_at hl 1 rfl) ?_
    obtain ⟨r4, n5, n6, g7, h⟩ := bo3 h
    refine zb_callVE (As := []) (rest := []) ⟨hx, hb, hml, hown, hts⟩ (zc_X1_tellAll l D cI aK aV ad g_now g_mind g_taken g_isTaken g_letters g_letterCount g_told g_toldCount g_refusals g_costs g_gains g_seed r4 n5 n6 g7) (cwV 0 hts gX1_wall_X1_tellAll rfl rfl rfl hd_X1_tellAll ⟨Nat.le_of_ble_eq_true rfl, Nat.le_of_ble_eq_true rfl⟩) hK hE hP hD hS hA (zb_sG) (q0 := 0) rfl rfl rfl hl.1 rfl (Nat.le_of_ble_eq_true rfl) dX1_wall_18 ⟨Nat.le_refl _, Nat.le_refl _⟩ (fun H locs hP hD hS => ?_)
    refine lv_istore_n (lv' := [(2, .int r4), (1, .int r1), (0, .ref (ad 0))]) hx hb dX1_wall_21 rfl hl (by decide) rfl (fun ls hl => ?_)
    refine lv_aload_n hx hb dX1_wall_22 rfl (lv_at hl 2 rfl) ?_
    refine lv_iconst (v := (0 : Int32)) hx hb dX1_wall_23 (by decide) ?_
    refine va_put (D := D) (ci := 1) (v := .int (0 : Int32)) (ty := .int) (C := RX1) (T := TX1) (N := 12) hx hb hts zi_X1_wall_X1 tyX1 tyX1_ok nmX1 hown hK.1 hP hD hS 0 rfl rfl 5 (by decide) (hts _ zk_X1_wall_0) (fun _ h9 => h9) rfl (by decide +kernel) rfl rfl (Nat.le_of_ble_eq_true rfl) dX1_wall_24 (fun H locs hP hD hS => ?_)
    have hP : va_P D zb_cl (zb_G cI ad n5 n6 g_taken g_isTaken g_letters (0 : Int32) g_told g_toldCount g_refusals g_costs g_gains g_seed) H := hP
    have hD : va_D A (zb_G cI ad n5 n6 g_taken g_isTaken g_letters (0 : Int32) g_told g_toldCount g_refusals g_costs g_gains g_seed) := hD
    refine lv_iload_n hx hb dX1_wall_27 rfl (lv_at hl 0 rfl) ?_
    obtain ⟨rfl, rfl, rfl, rfl⟩ := re4 h
    exact zb_iret hx hb hr hlk hP hS dX1_wall_28
  · replace h := it_f c3 h
    refine lv_sipush (v := ((-1000) : Int32)) hx hb dX1_wall_9 (by decide) ?_
    refine lv_iload_n hx hb dX1_wall_12 rfl (lv_at hl 0 rfl) ?_
    refine lv_isub hx hb dX1_wall_13 ?_
    refine lv_goto (tgt := 21) hx hb dX1_wall_14 (by decide) ?_
    refine lv_istore_n (lv' := [(2, .int (((-1000) : Int32) - r1)), (1, .int r1), (0, .ref (ad 0))]) hx hb dX1_wall_21 rfl hl (by decide) rfl (fun ls hl => ?_)
    refine lv_aload_n hx hb dX1_wall_22 rfl (lv_at hl 2 rfl) ?_
    refine lv_iconst (v := (0 : Int32)) hx hb dX1_wall_23 (by decide) ?_
    refine va_put (D := D) (ci := 1) (v := .int (0 : Int32)) (ty := .int) (C := RX1) (T := TX1) (N := 12) hx hb hts zi_X1_wall_X1 tyX1 tyX1_ok nmX1 hown hK.1 hP hD hS 0 rfl rfl 5 (by decide) (hts _ zk_X1_wall_0) (fun _ h9 => h9) rfl (by decide +kernel) rfl rfl (Nat.le_of_ble_eq_true rfl) dX1_wall_24 (fun H locs hP hD hS => ?_)
    have hP : va_P D zb_cl (zb_G cI ad g_now g_mind g_taken g_isTaken g_letters (0 : Int32) g_told g_toldCount g_refusals g_costs g_gains g_seed) H := hP
    have hD : va_D A (zb_G cI ad g_now g_mind g_taken g_isTaken g_letters (0 : Int32) g_told g_toldCount g_refusals g_costs g_gains g_seed) := hD
    refine lv_iload_n hx hb dX1_wall_27 rfl (lv_at hl 0 rfl) ?_
    obtain ⟨rfl, rfl, rfl, rfl⟩ := re4 h
    exact zb_iret hx hb hr hlk hP hS dX1_wall_28
abbrev rm_X1_node : Room := { frames := 2, cells := 0, slots := 0, locals := 41 }
theorem hd_X1_node : yX1_node.cls = RX1 ∧ yX1_node.cls ≠ "java/lang/invoke/MethodHandle" ∧ yX1_node.cls ≠ "java/lang/invoke/VarHandle" ∧ (parseMethodDescriptor yX1_node.desc).map (fun d => d.parameters.length) = some 2 := by decide +kernel
theorem zi_X1_node_X1 : ∀ w ∈ wsX10, w ∈ wsX1_node := fun _ h => List.mem_cons_of_mem _ (List.mem_append_left _ (List.mem_append_right _ h))
theorem zk_X1_node_0 : Cond.fieldLink RX1 10 "GroutingIsFollowed" "now" "LGroutingIsFollowed$Bath;" ∈ wsX1_node := by decide +kernel
set_option maxHeartbeats 4000000 in
set_option maxRecDepth 100000 in
theorem zc_X1_node (l : Launch) (D : va_G) (cI : ClassId) (ad : Nat → Nat) (g_now : BT) (g_mind : BT) (g_taken : BT) (g_isTaken : Int32) (g_letters : (Nat → Int32)) (g_letterCount : Int32) (g_told : (Nat → Int32)) (g_toldCount : Int32) (g_refusals : (Nat → Int32)) (g_costs : (Nat → Int32)) (g_gains : (Nat → Int32)) (g_seed : Int32) (v1 : Int32) (v2 : Int32) (r0 : Int32) (w_g_refusals : (Nat → Int32)) (h : zf_X1_node g_now g_refusals v1 v2 = some (r0, w_g_refusals)) : Cn l D cI yX1_node wsX1_node rm_X1_node [.ref (ad 0), .int v1, .int v2] (zb_G cI ad g_now g_mind g_taken g_isTaken g_letters g_letterCount g_told g_toldCount g_refusals g_costs g_gains g_seed) (some (.int r0)) (zb_G cI ad g_now g_mind g_taken g_isTaken g_letters g_letterCount g_told g_toldCount w_g_refusals g_costs g_gains g_seed) := by
  refine zb_ofW (cc := cX1_node) (maxL := 3) (ret := (some .int)) (by decide) rfl (Nat.le_of_ble_eq_true rfl) ?_
  intro p e s m args below meth c A ls hx hb hr hml hts hown hlk hK hP hD hA hl
  have hS : va_S A s.heap s.heap [] := va_S.rf
  have hl : lv_has ls 3 [(0, .ref (ad 0)), (1, .int v1), (2, .int v2)] := hl
  unfold zf_X1_node at h
  refine lv_iload_n hx hb dX1_node_0 rfl (lv_at hl 1 rfl) ?_
  obtain ⟨r1, g2, h⟩ := bo1 h
  refine zb_callS (As := [.int v1]) (rest := []) ⟨hx, hb, hml, hown, hts⟩ (zc_X1_isNode l D cI v1 r1 g2) (va_cwS 1 hts gX1_node_X1_isNode rfl rfl rfl hd_X1_isNode.2 ⟨Nat.le_of_ble_eq_true rfl, Nat.le_of_ble_eq_true rfl⟩) hK hP hD hS hA (zb_none _) rfl hl.1 rfl (Nat.le_of_ble_eq_true rfl) dX1_node_1 ⟨Nat.le_refl _, Nat.le_refl _⟩ (fun H locs hP hD hS => ?_)
  refine lv_if_ne (tgt := 13) hx hb dX1_node_4 (by decide) (fun c3 => ?_) (fun c3 => ?_)
  · replace h := it_f c3 h
    refine lv_iload_n hx hb dX1_node_13 rfl (lv_at hl 2 rfl) ?_
    refine lv_if_ne (tgt := 26) hx hb dX1_node_14 (by decide) (fun c4 => ?_) (fun c4 => ?_)
    · replace h := it_f c4 h
      refine lv_iload_n hx hb dX1_node_26 rfl (lv_at hl 2 rfl) ?_
      refine lv_iconst (v := (1 : Int32)) hx hb dX1_node_27 (by decide) ?_
      refine lv_icmp_ne (tgt := 40) hx hb dX1_node_28 (by decide) (fun c5 => ?_) (fun c5 => ?_)
      · replace h := it_f c5 h
        refine lv_iload_n hx hb dX1_node_40 rfl (lv_at hl 2 rfl) ?_
        refine lv_iconst (v := (2 : Int32)) hx hb dX1_node_41 (by decide) ?_
        refine lv_icmp_ne (tgt := 54) hx hb dX1_node_42 (by decide) (fun c6 => ?_) (fun c6 => ?_)
        · replace h := it_f c6 h
          refine lv_aload_n hx hb dX1_node_54 rfl (lv_at hl 0 rfl) ?_
          refine lv_bipush (v := ((-2) : Int32)) hx hb dX1_node_55 (by decide) ?_
          obtain ⟨r7, n8, g9, h⟩ := bo2 h
          refine zb_callV (As := [.int ((-2) : Int32)]) (rest := []) ⟨hx, hb, hml, hown, hts⟩ (zc_X1_refuse l D cI ad g_now g_mind g_taken g_isTaken g_letters g_letterCount g_told g_toldCount g_refusals g_costs g_gains g_seed ((-2) : Int32) r7 n8 g9) (cwV 1 hts gX1_node_X1_refuse rfl rfl rfl hd_X1_refuse ⟨Nat.le_of_ble_eq_true rfl, Nat.le_of_ble_eq_true rfl⟩) hK hP hD hS hA (zb_sG) (q0 := 0) rfl rfl rfl hl.1 rfl (Nat.le_of_ble_eq_true rfl) dX1_node_57 ⟨Nat.le_refl _, Nat.le_refl _⟩ (fun H locs hP hD hS => ?_)
          obtain ⟨rfl, rfl⟩ := re2 h
          exact zb_iret hx hb hr hlk hP hS dX1_node_60
        · replace h := it_t c6 h
          refine lv_aload_n hx hb dX1_node_45 rfl (lv_at hl 0 rfl) ?_
          refine va_get (D := D) (ci := 1) (v := .ref (ad 1)) (C := RX1) (T := TX1) (N := 12) hx hb hts zi_X1_node_X1 hown hK.1 hP 0 rfl rfl 0 (by decide) (hts _ zk_X1_node_0) (fun _ h9 => h9) rfl dX1_node_46 ?_
          refine lv_iload_n hx hb dX1_node_49 rfl (lv_at hl 1 rfl) ?_
          obtain ⟨r10, g11, h⟩ := bo1 h
          refine zb_callV (As := [.int v1]) (rest := []) ⟨hx, hb, hml, hown, hts⟩ (zc_X0_wetOf l D cI (ad 1) (ad 2) (ad 3) (ad 4) (ad 5) (ad 6) (ad 7) g_now v1 r10 g11) (cwV 1 hts gX1_node_X0_wetOf rfl rfl rfl hd_X0_wetOf ⟨Nat.le_of_ble_eq_true rfl, Nat.le_of_ble_eq_true rfl⟩) hK hP hD hS hA (zb_cGn) (q0 := 0) rfl rfl rfl hl.1 rfl (Nat.le_of_ble_eq_true rfl) dX1_node_50 ⟨Nat.le_refl _, Nat.le_refl _⟩ (fun H locs hP hD hS => ?_)
          obtain ⟨rfl, rfl⟩ := re2 h
          exact zb_iret hx hb hr hlk hP hS dX1_node_53
      · replace h := it_t c5 h
        refine lv_aload_n hx hb dX1_node_31 rfl (lv_at hl 0 rfl) ?_
        refine va_get (D := D) (ci := 1) (v := .ref (ad 1)) (C := RX1) (T := TX1) (N := 12) hx hb hts zi_X1_node_X1 hown hK.1 hP 0 rfl rfl 0 (by decide) (hts _ zk_X1_node_0) (fun _ h9 => h9) rfl dX1_node_32 ?_
        refine lv_iload_n hx hb dX1_node_35 rfl (lv_at hl 1 rfl) ?_
        obtain ⟨r12, g13, h⟩ := bo1 h
        refine zb_callV (As := [.int v1]) (rest := []) ⟨hx, hb, hml, hown, hts⟩ (zc_X0_figureOf l D cI (ad 1) (ad 2) (ad 3) (ad 4) (ad 5) (ad 6) (ad 7) g_now v1 r12 g13) (cwV 1 hts gX1_node_X0_figureOf rfl rfl rfl hd_X0_figureOf ⟨Nat.le_of_ble_eq_true rfl, Nat.le_of_ble_eq_true rfl⟩) hK hP hD hS hA (zb_cGn) (q0 := 0) rfl rfl rfl hl.1 rfl (Nat.le_of_ble_eq_true rfl) dX1_node_36 ⟨Nat.le_refl _, Nat.le_refl _⟩ (fun H locs hP hD hS => ?_)
        obtain ⟨rfl, rfl⟩ := re2 h
        exact zb_iret hx hb hr hlk hP hS dX1_node_39
    · replace h := it_t c4 h
      refine lv_aload_n hx hb dX1_node_17 rfl (lv_at hl 0 rfl) ?_
      refine va_get (D := D) (ci := 1) (v := .ref (ad 1)) (C := RX1) (T := TX1) (N := 12) hx hb hts zi_X1_node_X1 hown hK.1 hP 0 rfl rfl 0 (by decide) (hts _ zk_X1_node_0) (fun _ h9 => h9) rfl dX1_node_18 ?_
      refine lv_iload_n hx hb dX1_node_21 rfl (lv_at hl 1 rfl) ?_
      obtain ⟨r14, g15, h⟩ := bo1 h
      refine zb_callV (As := [.int v1]) (rest := []) ⟨hx, hb, hml, hown, hts⟩ (zc_X0_kindOf l D cI (ad 1) (ad 2) (ad 3) (ad 4) (ad 5) (ad 6) (ad 7) g_now v1 r14 g15) (cwV 1 hts gX1_node_X0_kindOf rfl rfl rfl hd_X0_kindOf ⟨Nat.le_of_ble_eq_true rfl, Nat.le_of_ble_eq_true rfl⟩) hK hP hD hS hA (zb_cGn) (q0 := 0) rfl rfl rfl hl.1 rfl (Nat.le_of_ble_eq_true rfl) dX1_node_22 ⟨Nat.le_refl _, Nat.le_refl _⟩ (fun H locs hP hD hS => ?_)
      obtain ⟨rfl, rfl⟩ := re2 h
      exact zb_iret hx hb hr hlk hP hS dX1_node_25
  · replace h := it_t c3 h
    refine lv_aload_n hx hb dX1_node_7 rfl (lv_at hl 0 rfl) ?_
    refine lv_iconst (v := ((-1) : Int32)) hx hb dX1_node_8 (by decide) ?_
    obtain ⟨r16, n17, g18, h⟩ := bo2 h
    refine zb_callV (As := [.int ((-1) : Int32)]) (rest := []) ⟨hx, hb, hml, hown, hts⟩ (zc_X1_refuse l D cI ad g_now g_mind g_taken g_isTaken g_letters g_letterCount g_told g_toldCount g_refusals g_costs g_gains g_seed ((-1) : Int32) r16 n17 g18) (cwV 1 hts gX1_node_X1_refuse rfl rfl rfl hd_X1_refuse ⟨Nat.le_of_ble_eq_true rfl, Nat.le_of_ble_eq_true rfl⟩) hK hP hD hS hA (zb_sG) (q0 := 0) rfl rfl rfl hl.1 rfl (Nat.le_of_ble_eq_true rfl) dX1_node_9 ⟨Nat.le_refl _, Nat.le_refl _⟩ (fun H locs hP hD hS => ?_)
    obtain ⟨rfl, rfl⟩ := re2 h
    exact zb_iret hx hb hr hlk hP hS dX1_node_12
abbrev rm_X1_person : Room := { frames := 3, cells := 0, slots := 0, locals := 64 }
theorem hd_X1_person : yX1_person.cls = RX1 ∧ yX1_person.cls ≠ "java/lang/invoke/MethodHandle" ∧ yX1_person.cls ≠ "java/lang/invoke/VarHandle" ∧ (parseMethodDescriptor yX1_person.desc).map (fun d => d.parameters.length) = some 2 := by decide +kernel
theorem zi_X1_person_X1 : ∀ w ∈ wsX10, w ∈ wsX1_person := fun _ h => List.mem_cons_of_mem _ (List.mem_append_left _ (List.mem_append_right _ h))
theorem zk_X1_person_0 : Cond.fieldLink RX1 10 "GroutingIsFollowed" "now" "LGroutingIsFollowed$Bath;" ∈ wsX1_person := by decide +kernel
set_option maxHeartbeats 4000000 in
set_option maxRecDepth 100000 in
theorem zc_X1_person (l : Launch) (D : va_G) (cI : ClassId) (ad : Nat → Nat) (g_now : BT) (g_mind : BT) (g_taken : BT) (g_isTaken : Int32) (g_letters : (Nat → Int32)) (g_letterCount : Int32) (g_told : (Nat → Int32)) (g_toldCount : Int32) (g_refusals : (Nat → Int32)) (g_costs : (Nat → Int32)) (g_gains : (Nat → Int32)) (g_seed : Int32) (v1 : Int32) (v2 : Int32) (r0 : Int32) (w_g_refusals : (Nat → Int32)) (h : zf_X1_person g_now g_refusals v1 v2 = some (r0, w_g_refusals)) : Cn l D cI yX1_person wsX1_person rm_X1_person [.ref (ad 0), .int v1, .int v2] (zb_G cI ad g_now g_mind g_taken g_isTaken g_letters g_letterCount g_told g_toldCount g_refusals g_costs g_gains g_seed) (some (.int r0)) (zb_G cI ad g_now g_mind g_taken g_isTaken g_letters g_letterCount g_told g_toldCount w_g_refusals g_costs g_gains g_seed) := by
  refine zb_ofW (cc := cX1_person) (maxL := 3) (ret := (some .int)) (by decide) rfl (Nat.le_of_ble_eq_true rfl) ?_
  intro p e s m args below meth c A ls hx hb hr hml hts hown hlk hK hP hD hA hl
  have hS : va_S A s.heap s.heap [] := va_S.rf
  have hl : lv_has ls 3 [(0, .ref (ad 0)), (1, .int v1), (2, .int v2)] := hl
  unfold zf_X1_person at h
  refine lv_aload_n hx hb dX1_person_0 rfl (lv_at hl 0 rfl) ?_
  refine va_get (D := D) (ci := 1) (v := .ref (ad 1)) (C := RX1) (T := TX1) (N := 12) hx hb hts zi_X1_person_X1 hown hK.1 hP 0 rfl rfl 0 (by decide) (hts _ zk_X1_person_0) (fun _ h9 => h9) rfl dX1_person_1 ?_
  refine lv_iload_n hx hb dX1_person_4 rfl (lv_at hl 1 rfl) ?_
  obtain ⟨r1, g2, h⟩ := bo1 h
  refine zb_callV (As := [.int v1]) (rest := []) ⟨hx, hb, hml, hown, hts⟩ (zc_X0_has l D cI (ad 1) (ad 2) (ad 3) (ad 4) (ad 5) (ad 6) (ad 7) g_now v1 r1 g2) (cwV 1 hts gX1_person_X0_has rfl rfl rfl hd_X0_has ⟨Nat.le_of_ble_eq_true rfl, Nat.le_of_ble_eq_true rfl⟩) hK hP hD hS hA (zb_cGn) (q0 := 0) rfl rfl rfl hl.1 rfl (Nat.le_of_ble_eq_true rfl) dX1_person_5 ⟨Nat.le_refl _, Nat.le_refl _⟩ (fun H locs hP hD hS => ?_)
  refine lv_if_ne (tgt := 17) hx hb dX1_person_8 (by decide) (fun c3 => ?_) (fun c3 => ?_)
  · replace h := it_f c3 h
    refine lv_iload_n hx hb dX1_person_17 rfl (lv_at hl 2 rfl) ?_
    refine lv_if_lt (tgt := 26) hx hb dX1_person_18 (by decide) (fun c4 => ?_) (fun c4 => ?_)
    · replace h := it_t c4 h
      refine lv_aload_n hx hb dX1_person_26 rfl (lv_at hl 0 rfl) ?_
      refine lv_bipush (v := ((-2) : Int32)) hx hb dX1_person_27 (by decide) ?_
      obtain ⟨r5, n6, g7, h⟩ := bo2 h
      refine zb_callV (As := [.int ((-2) : Int32)]) (rest := []) ⟨hx, hb, hml, hown, hts⟩ (zc_X1_refuse l D cI ad g_now g_mind g_taken g_isTaken g_letters g_letterCount g_told g_toldCount g_refusals g_costs g_gains g_seed ((-2) : Int32) r5 n6 g7) (cwV 1 hts gX1_person_X1_refuse rfl rfl rfl hd_X1_refuse ⟨Nat.le_of_ble_eq_true rfl, Nat.le_of_ble_eq_true rfl⟩) hK hP hD hS hA (zb_sG) (q0 := 0) rfl rfl rfl hl.1 rfl (Nat.le_of_ble_eq_true rfl) dX1_person_29 ⟨Nat.le_refl _, Nat.le_refl _⟩ (fun H locs hP hD hS => ?_)
      obtain ⟨rfl, rfl⟩ := re2 h
      exact zb_iret hx hb hr hlk hP hS dX1_person_32
    · replace h := it_f c4 h
      refine lv_iload_n hx hb dX1_person_21 rfl (lv_at hl 2 rfl) ?_
      refine lv_iconst (v := (3 : Int32)) hx hb dX1_person_22 (by decide) ?_
      refine lv_icmp_le (tgt := 33) hx hb dX1_person_23 (by decide) (fun c8 => ?_) (fun c8 => ?_)
      · replace h := it_t c8 h
        refine lv_iload_n hx hb dX1_person_33 rfl (lv_at hl 2 rfl) ?_
        refine lv_iconst (v := (3 : Int32)) hx hb dX1_person_34 (by decide) ?_
        refine lv_icmp_ne (tgt := 49) hx hb dX1_person_35 (by decide) (fun c9 => ?_) (fun c9 => ?_)
        · replace h := it_f c9 h
          refine lv_aload_n hx hb dX1_person_49 rfl (lv_at hl 0 rfl) ?_
          refine va_get (D := D) (ci := 1) (v := .ref (ad 1)) (C := RX1) (T := TX1) (N := 12) hx hb hts zi_X1_person_X1 hown hK.1 hP 0 rfl rfl 0 (by decide) (hts _ zk_X1_person_0) (fun _ h9 => h9) rfl dX1_person_50 ?_
          refine lv_iload_n hx hb dX1_person_53 rfl (lv_at hl 1 rfl) ?_
          refine lv_iload_n hx hb dX1_person_54 rfl (lv_at hl 2 rfl) ?_
          obtain ⟨r10, g11, h⟩ := bo1 h
          refine zb_callV (As := [.int v1, .int v2]) (rest := []) ⟨hx, hb, hml, hown, hts⟩ (zc_X0_ofPerson l D cI (ad 1) (ad 2) (ad 3) (ad 4) (ad 5) (ad 6) (ad 7) g_now v1 v2 r10 g11) (cwV 2 hts gX1_person_X0_ofPerson rfl rfl rfl hd_X0_ofPerson ⟨Nat.le_of_ble_eq_true rfl, Nat.le_of_ble_eq_true rfl⟩) hK hP hD hS hA (zb_cGn) (q0 := 0) rfl rfl rfl hl.1 rfl (Nat.le_of_ble_eq_true rfl) dX1_person_55 ⟨Nat.le_refl _, Nat.le_refl _⟩ (fun H locs hP hD hS => ?_)
          obtain ⟨rfl, rfl⟩ := re2 h
          exact zb_iret hx hb hr hlk hP hS dX1_person_58
        · replace h := it_t c9 h
          refine lv_aload_n hx hb dX1_person_38 rfl (lv_at hl 0 rfl) ?_
          refine va_get (D := D) (ci := 1) (v := .ref (ad 1)) (C := RX1) (T := TX1) (N := 12) hx hb hts zi_X1_person_X1 hown hK.1 hP 0 rfl rfl 0 (by decide) (hts _ zk_X1_person_0) (fun _ h9 => h9) rfl dX1_person_39 ?_
          refine lv_iload_n hx hb dX1_person_42 rfl (lv_at hl 1 rfl) ?_
          obtain ⟨r12, g13, h⟩ := bo1 h
          refine zb_callV (As := [.int v1]) (rest := []) ⟨hx, hb, hml, hown, hts⟩ (zc_X0_wayNext l D cI (ad 1) (ad 2) (ad 3) (ad 4) (ad 5) (ad 6) (ad 7) g_now v1 r12 g13) (cwV 1 hts gX1_person_X0_wayNext rfl rfl rfl hd_X0_wayNext ⟨Nat.le_of_ble_eq_true rfl, Nat.le_of_ble_eq_true rfl⟩) hK hP hD hS hA (zb_cGn) (q0 := 0) rfl rfl rfl hl.1 rfl (Nat.le_of_ble_eq_true rfl) dX1_person_43 ⟨Nat.le_refl _, Nat.le_refl _⟩ (fun H locs hP hD hS => ?_)
          refine lv_goto (tgt := 58) hx hb dX1_person_46 (by decide) ?_
          obtain ⟨rfl, rfl⟩ := re2 h
          exact zb_iret hx hb hr hlk hP hS dX1_person_58
      · replace h := it_f c8 h
        refine lv_aload_n hx hb dX1_person_26 rfl (lv_at hl 0 rfl) ?_
        refine lv_bipush (v := ((-2) : Int32)) hx hb dX1_person_27 (by decide) ?_
        obtain ⟨r14, n15, g16, h⟩ := bo2 h
        refine zb_callV (As := [.int ((-2) : Int32)]) (rest := []) ⟨hx, hb, hml, hown, hts⟩ (zc_X1_refuse l D cI ad g_now g_mind g_taken g_isTaken g_letters g_letterCount g_told g_toldCount g_refusals g_costs g_gains g_seed ((-2) : Int32) r14 n15 g16) (cwV 1 hts gX1_person_X1_refuse rfl rfl rfl hd_X1_refuse ⟨Nat.le_of_ble_eq_true rfl, Nat.le_of_ble_eq_true rfl⟩) hK hP hD hS hA (zb_sG) (q0 := 0) rfl rfl rfl hl.1 rfl (Nat.le_of_ble_eq_true rfl) dX1_person_29 ⟨Nat.le_refl _, Nat.le_refl _⟩ (fun H locs hP hD hS => ?_)
        obtain ⟨rfl, rfl⟩ := re2 h
        exact zb_iret hx hb hr hlk hP hS dX1_person_32
  · replace h := it_t c3 h
    refine lv_aload_n hx hb dX1_person_11 rfl (lv_at hl 0 rfl) ?_
    refine lv_iconst (v := ((-1) : Int32)) hx hb dX1_person_12 (by decide) ?_
    obtain ⟨r17, n18, g19, h⟩ := bo2 h
    refine zb_callV (As := [.int ((-1) : Int32)]) (rest := []) ⟨hx, hb, hml, hown, hts⟩ (zc_X1_refuse l D cI ad g_now g_mind g_taken g_isTaken g_letters g_letterCount g_told g_toldCount g_refusals g_costs g_gains g_seed ((-1) : Int32) r17 n18 g19) (cwV 1 hts gX1_person_X1_refuse rfl rfl rfl hd_X1_refuse ⟨Nat.le_of_ble_eq_true rfl, Nat.le_of_ble_eq_true rfl⟩) hK hP hD hS hA (zb_sG) (q0 := 0) rfl rfl rfl hl.1 rfl (Nat.le_of_ble_eq_true rfl) dX1_person_13 ⟨Nat.le_refl _, Nat.le_refl _⟩ (fun H locs hP hD hS => ?_)
    obtain ⟨rfl, rfl⟩ := re2 h
    exact zb_iret hx hb hr hlk hP hS dX1_person_16
abbrev rm_X1_isKind : Room := { frames := 0, cells := 0, slots := 0, locals := 0 }
theorem hd_X1_isKind : yX1_isKind.cls = RX1 ∧ yX1_isKind.cls ≠ "java/lang/invoke/MethodHandle" ∧ yX1_isKind.cls ≠ "java/lang/invoke/VarHandle" ∧ (parseMethodDescriptor yX1_isKind.desc).map (fun d => d.parameters.length) = some 1 := by decide +kernel
set_option maxHeartbeats 4000000 in
set_option maxRecDepth 100000 in
theorem zc_X1_isKind (l : Launch) (D : va_G) (cI : ClassId)  (v0 : Int32) (r0 : Int32) (h : zf_X1_isKind v0 = some r0) : Cn l D cI yX1_isKind wsX1_isKind rm_X1_isKind [.int v0] ([]) (some (.int r0)) ([]) := by
  refine zb_ofW (cc := cX1_isKind) (maxL := 1) (ret := (some .boolean)) (by decide) rfl (Nat.le_of_ble_eq_true rfl) ?_
  intro p e s m args below meth c A ls hx hb hr hml hts hown hlk hK hP hD hA hl
  have hS : va_S A s.heap s.heap [] := va_S.rf
  have hl : lv_has ls 1 [(0, .int v0)] := hl
  unfold zf_X1_isKind at h
  refine lv_iload_n hx hb dX1_isKind_0 rfl (lv_at hl 0 rfl) ?_
  refine lv_if_lt (tgt := 14) hx hb dX1_isKind_1 (by decide) (fun c1 => ?_) (fun c1 => ?_)
  · replace h := it_t c1 h
    refine lv_iconst (v := (0 : Int32)) hx hb dX1_isKind_14 (by decide) ?_
    obtain rfl := re1 h
    exact zb_zret hx hb hr hlk rfl hP hS dX1_isKind_15
  · replace h := it_f c1 h
    refine lv_iload_n hx hb dX1_isKind_4 rfl (lv_at hl 0 rfl) ?_
    refine lv_bipush (v := (6 : Int32)) hx hb dX1_isKind_5 (by decide) ?_
    refine lv_icmp_ge (tgt := 14) hx hb dX1_isKind_7 (by decide) (fun c2 => ?_) (fun c2 => ?_)
    · replace h := it_t c2 h
      refine lv_iconst (v := (0 : Int32)) hx hb dX1_isKind_14 (by decide) ?_
      obtain rfl := re1 h
      exact zb_zret hx hb hr hlk rfl hP hS dX1_isKind_15
    · replace h := it_f c2 h
      refine lv_iconst (v := (1 : Int32)) hx hb dX1_isKind_10 (by decide) ?_
      refine lv_goto (tgt := 15) hx hb dX1_isKind_11 (by decide) ?_
      obtain rfl := re1 h
      exact zb_zret hx hb hr hlk rfl hP hS dX1_isKind_15
abbrev rm_X1_lays : Room := { frames := 2, cells := 0, slots := 0, locals := 42 }
theorem hd_X1_lays : yX1_lays.cls = RX1 ∧ yX1_lays.cls ≠ "java/lang/invoke/MethodHandle" ∧ yX1_lays.cls ≠ "java/lang/invoke/VarHandle" ∧ (parseMethodDescriptor yX1_lays.desc).map (fun d => d.parameters.length) = some 3 := by decide +kernel
theorem zi_X1_lays_X1 : ∀ w ∈ wsX10, w ∈ wsX1_lays := fun _ h => List.mem_cons_of_mem _ (List.mem_append_left _ (List.mem_append_right _ h))
theorem zk_X1_lays_0 : Cond.fieldLink RX1 10 "GroutingIsFollowed" "now" "LGroutingIsFollowed$Bath;" ∈ wsX1_lays := by decide +kernel
set_option maxHeartbeats 4000000 in
set_option maxRecDepth 100000 in
theorem zc_X1_lays (l : Launch) (D : va_G) (cI : ClassId) (ad : Nat → Nat) (g_now : BT) (g_mind : BT) (g_taken : BT) (g_isTaken : Int32) (g_letters : (Nat → Int32)) (g_letterCount : Int32) (g_told : (Nat → Int32)) (g_toldCount : Int32) (g_refusals : (Nat → Int32)) (g_costs : (Nat → Int32)) (g_gains : (Nat → Int32)) (g_seed : Int32) (v1 : Int32) (v2 : Int32) (v3 : Int32) (r0 : Int32) (w_g_now : BT) (w_g_refusals : (Nat → Int32)) (h : zf_X1_lays g_now g_refusals v1 v2 v3 = some (r0, w_g_now, w_g_refusals)) : Cn l D cI yX1_lays wsX1_lays rm_X1_lays [.ref (ad 0), .int v1, .int v2, .int v3] (zb_G cI ad g_now g_mind g_taken g_isTaken g_letters g_letterCount g_told g_toldCount g_refusals g_costs g_gains g_seed) (some (.int r0)) (zb_G cI ad w_g_now g_mind g_taken g_isTaken g_letters g_letterCount g_told g_toldCount w_g_refusals g_costs g_gains g_seed) := by
  refine zb_ofW (cc := cX1_lays) (maxL := 6) (ret := (some .int)) (by decide) rfl (Nat.le_of_ble_eq_true rfl) ?_
  intro p e s m args below meth c A ls hx hb hr hml hts hown hlk hK hP hD hA hl
  have hS : va_S A s.heap s.heap [] := va_S.rf
  have hl : lv_has ls 6 [(0, .ref (ad 0)), (1, .int v1), (2, .int v2), (3, .int v3)] := hl
  unfold zf_X1_lays at h
  refine lv_iload_n hx hb dX1_lays_0 rfl (lv_at hl 1 rfl) ?_
  obtain ⟨r1, g2, h⟩ := bo1 h
  refine zb_callS (As := [.int v1]) (rest := []) ⟨hx, hb, hml, hown, hts⟩ (zc_X1_isNode l D cI v1 r1 g2) (va_cwS 1 hts gX1_lays_X1_isNode rfl rfl rfl hd_X1_isNode.2 ⟨Nat.le_of_ble_eq_true rfl, Nat.le_of_ble_eq_true rfl⟩) hK hP hD hS hA (zb_none _) rfl hl.1 rfl (Nat.le_of_ble_eq_true rfl) dX1_lays_1 ⟨Nat.le_refl _, Nat.le_refl _⟩ (fun H locs hP hD hS => ?_)
  refine lv_if_ne (tgt := 13) hx hb dX1_lays_4 (by decide) (fun c3 => ?_) (fun c3 => ?_)
  · replace h := it_f c3 h
    refine lv_iload_n hx hb dX1_lays_13 rfl (lv_at hl 2 rfl) ?_
    obtain ⟨r4, g5, h⟩ := bo1 h
    refine zb_callS (As := [.int v2]) (rest := []) ⟨hx, hb, hml, hown, hts⟩ (zc_X1_isKind l D cI v2 r4 g5) (va_cwS 1 hts gX1_lays_X1_isKind rfl rfl rfl hd_X1_isKind.2 ⟨Nat.le_of_ble_eq_true rfl, Nat.le_of_ble_eq_true rfl⟩) hK hP hD hS hA (zb_none _) rfl hl.1 rfl (Nat.le_of_ble_eq_true rfl) dX1_lays_14 ⟨Nat.le_refl _, Nat.le_refl _⟩ (fun H locs hP hD hS => ?_)
    refine lv_if_ne (tgt := 27) hx hb dX1_lays_17 (by decide) (fun c6 => ?_) (fun c6 => ?_)
    · replace h := it_f c6 h
      refine lv_iload_n hx hb dX1_lays_27 rfl (lv_at hl 3 rfl) ?_
      refine lv_iconst (v := (0 : Int32)) hx hb dX1_lays_28 (by decide) ?_
      refine lv_bipush (v := (9 : Int32)) hx hb dX1_lays_29 (by decide) ?_
      obtain ⟨r7, g8, h⟩ := bo1 h
      refine zb_callS (As := [.int v3, .int (0 : Int32), .int (9 : Int32)]) (rest := []) ⟨hx, hb, hml, hown, hts⟩ (zc_X1_outside l D cI v3 (0 : Int32) (9 : Int32) r7 g8) (va_cwS 3 hts gX1_lays_X1_outside rfl rfl rfl hd_X1_outside.2 ⟨Nat.le_of_ble_eq_true rfl, Nat.le_of_ble_eq_true rfl⟩) hK hP hD hS hA (zb_none _) rfl hl.1 rfl (Nat.le_of_ble_eq_true rfl) dX1_lays_31 ⟨Nat.le_refl _, Nat.le_refl _⟩ (fun H locs hP hD hS => ?_)
      refine lv_istore (lv' := [(4, .int r7), (0, .ref (ad 0)), (1, .int v1), (2, .int v2), (3, .int v3)]) hx hb dX1_lays_34 hl (by decide) rfl (fun ls hl => ?_)
      refine lv_iload hx hb dX1_lays_36 (lv_at hl 0 rfl) ?_
      refine lv_if_eq (tgt := 48) hx hb dX1_lays_38 (by decide) (fun c9 => ?_) (fun c9 => ?_)
      · replace h := it_t c9 h
        refine lv_bipush (v := (10 : Int32)) hx hb dX1_lays_48 (by decide) ?_
        refine lv_aload_n hx hb dX1_lays_50 rfl (lv_at hl 1 rfl) ?_
        refine va_get (D := D) (ci := 1) (v := .ref (ad 1)) (C := RX1) (T := TX1) (N := 12) hx hb hts zi_X1_lays_X1 hown hK.1 hP 0 rfl rfl 0 (by decide) (hts _ zk_X1_lays_0) (fun _ h9 => h9) rfl dX1_lays_51 ?_
        refine lv_iload_n hx hb dX1_lays_54 rfl (lv_at hl 2 rfl) ?_
        obtain ⟨r10, g11, h⟩ := bo1 h
        refine zb_callV (As := [.int v1]) (rest := [.int (10 : Int32)]) ⟨hx, hb, hml, hown, hts⟩ (zc_X0_kindOf l D cI (ad 1) (ad 2) (ad 3) (ad 4) (ad 5) (ad 6) (ad 7) g_now v1 r10 g11) (cwV 1 hts gX1_lays_X0_kindOf rfl rfl rfl hd_X0_kindOf ⟨Nat.le_of_ble_eq_true rfl, Nat.le_of_ble_eq_true rfl⟩) hK hP hD hS hA (zb_cGn) (q0 := 0) rfl rfl rfl hl.1 rfl (Nat.le_of_ble_eq_true rfl) dX1_lays_55 ⟨Nat.le_refl _, Nat.le_refl _⟩ (fun H locs hP hD hS => ?_)
        refine lv_imul hx hb dX1_lays_58 ?_
        refine lv_aload_n hx hb dX1_lays_59 rfl (lv_at hl 1 rfl) ?_
        refine va_get (D := D) (ci := 1) (v := .ref (ad 1)) (C := RX1) (T := TX1) (N := 12) hx hb hts zi_X1_lays_X1 hown hK.1 hP 0 rfl rfl 0 (by decide) (hts _ zk_X1_lays_0) (fun _ h9 => h9) rfl dX1_lays_60 ?_
        refine lv_iload_n hx hb dX1_lays_63 rfl (lv_at hl 2 rfl) ?_
        obtain ⟨r12, g13, h⟩ := bo1 h
        refine zb_callV (As := [.int v1]) (rest := [.int ((10 : Int32) * r10)]) ⟨hx, hb, hml, hown, hts⟩ (zc_X0_figureOf l D cI (ad 1) (ad 2) (ad 3) (ad 4) (ad 5) (ad 6) (ad 7) g_now v1 r12 g13) (cwV 1 hts gX1_lays_X0_figureOf rfl rfl rfl hd_X0_figureOf ⟨Nat.le_of_ble_eq_true rfl, Nat.le_of_ble_eq_true rfl⟩) hK hP hD hS hA (zb_cGn) (q0 := 0) rfl rfl rfl hl.1 rfl (Nat.le_of_ble_eq_true rfl) dX1_lays_64 ⟨Nat.le_refl _, Nat.le_refl _⟩ (fun H locs hP hD hS => ?_)
        refine lv_iadd hx hb dX1_lays_67 ?_
        refine lv_istore (lv' := [(5, .int (((10 : Int32) * r10) + r12)), (4, .int r7), (0, .ref (ad 0)), (1, .int v1), (2, .int v2), (3, .int v3)]) hx hb dX1_lays_68 hl (by decide) rfl (fun ls hl => ?_)
        refine lv_aload_n hx hb dX1_lays_70 rfl (lv_at hl 2 rfl) ?_
        refine va_get (D := D) (ci := 1) (v := .ref (ad 1)) (C := RX1) (T := TX1) (N := 12) hx hb hts zi_X1_lays_X1 hown hK.1 hP 0 rfl rfl 0 (by decide) (hts _ zk_X1_lays_0) (fun _ h9 => h9) rfl dX1_lays_71 ?_
        refine lv_iload_n hx hb dX1_lays_74 rfl (lv_at hl 3 rfl) ?_
        refine lv_iload_n hx hb dX1_lays_75 rfl (lv_at hl 4 rfl) ?_
        obtain ⟨n14, g15, h⟩ := bo1 h
        refine zb_callV (As := [.int v1, .int v2]) (rest := []) ⟨hx, hb, hml, hown, hts⟩ (zc_X0_putKind l D cI (ad 1) (ad 2) (ad 3) (ad 4) (ad 5) (ad 6) (ad 7) g_now v1 v2 n14 g15) (cwV 2 hts gX1_lays_X0_putKind rfl rfl rfl hd_X0_putKind ⟨Nat.le_of_ble_eq_true rfl, Nat.le_of_ble_eq_true rfl⟩) hK hP hD hS hA (zb_cGn) (q0 := 0) rfl rfl rfl hl.1 rfl (Nat.le_of_ble_eq_true rfl) dX1_lays_76 ⟨Nat.le_refl _, Nat.le_refl _⟩ (fun H locs hP hD hS => ?_)
        refine lv_aload_n hx hb dX1_lays_79 rfl (lv_at hl 2 rfl) ?_
        refine va_get (D := D) (ci := 1) (v := .ref (ad 1)) (C := RX1) (T := TX1) (N := 12) hx hb hts zi_X1_lays_X1 hown hK.1 hP 0 rfl rfl 0 (by decide) (hts _ zk_X1_lays_0) (fun _ h9 => h9) rfl dX1_lays_80 ?_
        refine lv_iload_n hx hb dX1_lays_83 rfl (lv_at hl 3 rfl) ?_
        refine lv_iload_n hx hb dX1_lays_84 rfl (lv_at hl 5 rfl) ?_
        obtain ⟨n16, g17, h⟩ := bo1 h
        refine zb_callV (As := [.int v1, .int v3]) (rest := []) ⟨hx, hb, hml, hown, hts⟩ (zc_X0_putFigure l D cI (ad 1) (ad 2) (ad 3) (ad 4) (ad 5) (ad 6) (ad 7) n14 v1 v3 n16 g17) (cwV 2 hts gX1_lays_X0_putFigure rfl rfl rfl hd_X0_putFigure ⟨Nat.le_of_ble_eq_true rfl, Nat.le_of_ble_eq_true rfl⟩) hK hP hD hS hA (zb_cGn) (q0 := 0) rfl rfl rfl hl.1 rfl (Nat.le_of_ble_eq_true rfl) dX1_lays_85 ⟨Nat.le_refl _, Nat.le_refl _⟩ (fun H locs hP hD hS => ?_)
        refine lv_iload hx hb dX1_lays_88 (lv_at hl 0 rfl) ?_
        obtain ⟨rfl, rfl, rfl⟩ := re3 h
        exact zb_iret hx hb hr hlk hP hS dX1_lays_90
      · replace h := it_f c9 h
        refine lv_aload_n hx hb dX1_lays_41 rfl (lv_at hl 1 rfl) ?_
        refine lv_iload hx hb dX1_lays_42 (lv_at hl 0 rfl) ?_
        obtain ⟨r18, n19, g20, h⟩ := bo2 h
        refine zb_callV (As := [.int r7]) (rest := []) ⟨hx, hb, hml, hown, hts⟩ (zc_X1_refuse l D cI ad g_now g_mind g_taken g_isTaken g_letters g_letterCount g_told g_toldCount g_refusals g_costs g_gains g_seed r7 r18 n19 g20) (cwV 1 hts gX1_lays_X1_refuse rfl rfl rfl hd_X1_refuse ⟨Nat.le_of_ble_eq_true rfl, Nat.le_of_ble_eq_true rfl⟩) hK hP hD hS hA (zb_sG) (q0 := 0) rfl rfl rfl hl.1 rfl (Nat.le_of_ble_eq_true rfl) dX1_lays_44 ⟨Nat.le_refl _, Nat.le_refl _⟩ (fun H locs hP hD hS => ?_)
        obtain ⟨rfl, rfl, rfl⟩ := re3 h
        exact zb_iret hx hb hr hlk hP hS dX1_lays_47
    · replace h := it_t c6 h
      refine lv_aload_n hx hb dX1_lays_20 rfl (lv_at hl 0 rfl) ?_
      refine lv_bipush (v := ((-2) : Int32)) hx hb dX1_lays_21 (by decide) ?_
      obtain ⟨r21, n22, g23, h⟩ := bo2 h
      refine zb_callV (As := [.int ((-2) : Int32)]) (rest := []) ⟨hx, hb, hml, hown, hts⟩ (zc_X1_refuse l D cI ad g_now g_mind g_taken g_isTaken g_letters g_letterCount g_told g_toldCount g_refusals g_costs g_gains g_seed ((-2) : Int32) r21 n22 g23) (cwV 1 hts gX1_lays_X1_refuse rfl rfl rfl hd_X1_refuse ⟨Nat.le_of_ble_eq_true rfl, Nat.le_of_ble_eq_true rfl⟩) hK hP hD hS hA (zb_sG) (q0 := 0) rfl rfl rfl hl.1 rfl (Nat.le_of_ble_eq_true rfl) dX1_lays_23 ⟨Nat.le_refl _, Nat.le_refl _⟩ (fun H locs hP hD hS => ?_)
      obtain ⟨rfl, rfl, rfl⟩ := re3 h
      exact zb_iret hx hb hr hlk hP hS dX1_lays_26
  · replace h := it_t c3 h
    refine lv_aload_n hx hb dX1_lays_7 rfl (lv_at hl 0 rfl) ?_
    refine lv_iconst (v := ((-1) : Int32)) hx hb dX1_lays_8 (by decide) ?_
    obtain ⟨r24, n25, g26, h⟩ := bo2 h
    refine zb_callV (As := [.int ((-1) : Int32)]) (rest := []) ⟨hx, hb, hml, hown, hts⟩ (zc_X1_refuse l D cI ad g_now g_mind g_taken g_isTaken g_letters g_letterCount g_told g_toldCount g_refusals g_costs g_gains g_seed ((-1) : Int32) r24 n25 g26) (cwV 1 hts gX1_lays_X1_refuse rfl rfl rfl hd_X1_refuse ⟨Nat.le_of_ble_eq_true rfl, Nat.le_of_ble_eq_true rfl⟩) hK hP hD hS hA (zb_sG) (q0 := 0) rfl rfl rfl hl.1 rfl (Nat.le_of_ble_eq_true rfl) dX1_lays_9 ⟨Nat.le_refl _, Nat.le_refl _⟩ (fun H locs hP hD hS => ?_)
    obtain ⟨rfl, rfl, rfl⟩ := re3 h
    exact zb_iret hx hb hr hlk hP hS dX1_lays_12
abbrev rm_X1_wets : Room := { frames := 2, cells := 0, slots := 0, locals := 42 }
theorem hd_X1_wets : yX1_wets.cls = RX1 ∧ yX1_wets.cls ≠ "java/lang/invoke/MethodHandle" ∧ yX1_wets.cls ≠ "java/lang/invoke/VarHandle" ∧ (parseMethodDescriptor yX1_wets.desc).map (fun d => d.parameters.length) = some 2 := by decide +kernel
theorem zi_X1_wets_X1 : ∀ w ∈ wsX10, w ∈ wsX1_wets := fun _ h => List.mem_cons_of_mem _ (List.mem_append_left _ (List.mem_append_right _ h))
theorem zk_X1_wets_0 : Cond.fieldLink RX1 10 "GroutingIsFollowed" "now" "LGroutingIsFollowed$Bath;" ∈ wsX1_wets := by decide +kernel
set_option maxHeartbeats 4000000 in
set_option maxRecDepth 100000 in
theorem zc_X1_wets (l : Launch) (D : va_G) (cI : ClassId) (ad : Nat → Nat) (g_now : BT) (g_mind : BT) (g_taken : BT) (g_isTaken : Int32) (g_letters : (Nat → Int32)) (g_letterCount : Int32) (g_told : (Nat → Int32)) (g_toldCount : Int32) (g_refusals : (Nat → Int32)) (g_costs : (Nat → Int32)) (g_gains : (Nat → Int32)) (g_seed : Int32) (v1 : Int32) (v2 : Int32) (r0 : Int32) (w_g_now : BT) (w_g_refusals : (Nat → Int32)) (h : zf_X1_wets g_now g_refusals v1 v2 = some (r0, w_g_now, w_g_refusals)) : Cn l D cI yX1_wets wsX1_wets rm_X1_wets [.ref (ad 0), .int v1, .int v2] (zb_G cI ad g_now g_mind g_taken g_isTaken g_letters g_letterCount g_told g_toldCount g_refusals g_costs g_gains g_seed) (some (.int r0)) (zb_G cI ad w_g_now g_mind g_taken g_isTaken g_letters g_letterCount g_told g_toldCount w_g_refusals g_costs g_gains g_seed) := by
  refine zb_ofW (cc := cX1_wets) (maxL := 5) (ret := (some .int)) (by decide) rfl (Nat.le_of_ble_eq_true rfl) ?_
  intro p e s m args below meth c A ls hx hb hr hml hts hown hlk hK hP hD hA hl
  have hS : va_S A s.heap s.heap [] := va_S.rf
  have hl : lv_has ls 5 [(0, .ref (ad 0)), (1, .int v1), (2, .int v2)] := hl
  unfold zf_X1_wets at h
  refine lv_iload_n hx hb dX1_wets_0 rfl (lv_at hl 1 rfl) ?_
  obtain ⟨r1, g2, h⟩ := bo1 h
  refine zb_callS (As := [.int v1]) (rest := []) ⟨hx, hb, hml, hown, hts⟩ (zc_X1_isNode l D cI v1 r1 g2) (va_cwS 1 hts gX1_wets_X1_isNode rfl rfl rfl hd_X1_isNode.2 ⟨Nat.le_of_ble_eq_true rfl, Nat.le_of_ble_eq_true rfl⟩) hK hP hD hS hA (zb_none _) rfl hl.1 rfl (Nat.le_of_ble_eq_true rfl) dX1_wets_1 ⟨Nat.le_refl _, Nat.le_refl _⟩ (fun H locs hP hD hS => ?_)
  refine lv_if_ne (tgt := 13) hx hb dX1_wets_4 (by decide) (fun c3 => ?_) (fun c3 => ?_)
  · replace h := it_f c3 h
    refine lv_iload_n hx hb dX1_wets_13 rfl (lv_at hl 2 rfl) ?_
    refine lv_iconst (v := (0 : Int32)) hx hb dX1_wets_14 (by decide) ?_
    refine lv_bipush (v := (9 : Int32)) hx hb dX1_wets_15 (by decide) ?_
    obtain ⟨r4, g5, h⟩ := bo1 h
    refine zb_callS (As := [.int v2, .int (0 : Int32), .int (9 : Int32)]) (rest := []) ⟨hx, hb, hml, hown, hts⟩ (zc_X1_outside l D cI v2 (0 : Int32) (9 : Int32) r4 g5) (va_cwS 3 hts gX1_wets_X1_outside rfl rfl rfl hd_X1_outside.2 ⟨Nat.le_of_ble_eq_true rfl, Nat.le_of_ble_eq_true rfl⟩) hK hP hD hS hA (zb_none _) rfl hl.1 rfl (Nat.le_of_ble_eq_true rfl) dX1_wets_17 ⟨Nat.le_refl _, Nat.le_refl _⟩ (fun H locs hP hD hS => ?_)
    refine lv_istore_n (lv' := [(3, .int r4), (0, .ref (ad 0)), (1, .int v1), (2, .int v2)]) hx hb dX1_wets_20 rfl hl (by decide) rfl (fun ls hl => ?_)
    refine lv_iload_n hx hb dX1_wets_21 rfl (lv_at hl 0 rfl) ?_
    refine lv_if_eq (tgt := 31) hx hb dX1_wets_22 (by decide) (fun c6 => ?_) (fun c6 => ?_)
    · replace h := it_t c6 h
      refine lv_aload_n hx hb dX1_wets_31 rfl (lv_at hl 1 rfl) ?_
      refine va_get (D := D) (ci := 1) (v := .ref (ad 1)) (C := RX1) (T := TX1) (N := 12) hx hb hts zi_X1_wets_X1 hown hK.1 hP 0 rfl rfl 0 (by decide) (hts _ zk_X1_wets_0) (fun _ h9 => h9) rfl dX1_wets_32 ?_
      refine lv_iload_n hx hb dX1_wets_35 rfl (lv_at hl 2 rfl) ?_
      obtain ⟨r7, g8, h⟩ := bo1 h
      refine zb_callV (As := [.int v1]) (rest := []) ⟨hx, hb, hml, hown, hts⟩ (zc_X0_wetOf l D cI (ad 1) (ad 2) (ad 3) (ad 4) (ad 5) (ad 6) (ad 7) g_now v1 r7 g8) (cwV 1 hts gX1_wets_X0_wetOf rfl rfl rfl hd_X0_wetOf ⟨Nat.le_of_ble_eq_true rfl, Nat.le_of_ble_eq_true rfl⟩) hK hP hD hS hA (zb_cGn) (q0 := 0) rfl rfl rfl hl.1 rfl (Nat.le_of_ble_eq_true rfl) dX1_wets_36 ⟨Nat.le_refl _, Nat.le_refl _⟩ (fun H locs hP hD hS => ?_)
      refine lv_istore (lv' := [(4, .int r7), (3, .int r4), (0, .ref (ad 0)), (1, .int v1), (2, .int v2)]) hx hb dX1_wets_39 hl (by decide) rfl (fun ls hl => ?_)
      refine lv_aload_n hx hb dX1_wets_41 rfl (lv_at hl 2 rfl) ?_
      refine va_get (D := D) (ci := 1) (v := .ref (ad 1)) (C := RX1) (T := TX1) (N := 12) hx hb hts zi_X1_wets_X1 hown hK.1 hP 0 rfl rfl 0 (by decide) (hts _ zk_X1_wets_0) (fun _ h9 => h9) rfl dX1_wets_42 ?_
      refine lv_iload_n hx hb dX1_wets_45 rfl (lv_at hl 3 rfl) ?_
      refine lv_iload_n hx hb dX1_wets_46 rfl (lv_at hl 4 rfl) ?_
      obtain ⟨n9, g10, h⟩ := bo1 h
      refine zb_callV (As := [.int v1, .int v2]) (rest := []) ⟨hx, hb, hml, hown, hts⟩ (zc_X0_putWet l D cI (ad 1) (ad 2) (ad 3) (ad 4) (ad 5) (ad 6) (ad 7) g_now v1 v2 n9 g10) (cwV 2 hts gX1_wets_X0_putWet rfl rfl rfl hd_X0_putWet ⟨Nat.le_of_ble_eq_true rfl, Nat.le_of_ble_eq_true rfl⟩) hK hP hD hS hA (zb_cGn) (q0 := 0) rfl rfl rfl hl.1 rfl (Nat.le_of_ble_eq_true rfl) dX1_wets_47 ⟨Nat.le_refl _, Nat.le_refl _⟩ (fun H locs hP hD hS => ?_)
      refine lv_iload hx hb dX1_wets_50 (lv_at hl 0 rfl) ?_
      obtain ⟨rfl, rfl, rfl⟩ := re3 h
      exact zb_iret hx hb hr hlk hP hS dX1_wets_52
    · replace h := it_f c6 h
      refine lv_aload_n hx hb dX1_wets_25 rfl (lv_at hl 1 rfl) ?_
      refine lv_iload_n hx hb dX1_wets_26 rfl (lv_at hl 0 rfl) ?_
      obtain ⟨r11, n12, g13, h⟩ := bo2 h
      refine zb_callV (As := [.int r4]) (rest := []) ⟨hx, hb, hml, hown, hts⟩ (zc_X1_refuse l D cI ad g_now g_mind g_taken g_isTaken g_letters g_letterCount g_told g_toldCount g_refusals g_costs g_gains g_seed r4 r11 n12 g13) (cwV 1 hts gX1_wets_X1_refuse rfl rfl rfl hd_X1_refuse ⟨Nat.le_of_ble_eq_true rfl, Nat.le_of_ble_eq_true rfl⟩) hK hP hD hS hA (zb_sG) (q0 := 0) rfl rfl rfl hl.1 rfl (Nat.le_of_ble_eq_true rfl) dX1_wets_27 ⟨Nat.le_refl _, Nat.le_refl _⟩ (fun H locs hP hD hS => ?_)
      obtain ⟨rfl, rfl, rfl⟩ := re3 h
      exact zb_iret hx hb hr hlk hP hS dX1_wets_30
  · replace h := it_t c3 h
    refine lv_aload_n hx hb dX1_wets_7 rfl (lv_at hl 0 rfl) ?_
    refine lv_iconst (v := ((-1) : Int32)) hx hb dX1_wets_8 (by decide) ?_
    obtain ⟨r14, n15, g16, h⟩ := bo2 h
    refine zb_callV (As := [.int ((-1) : Int32)]) (rest := []) ⟨hx, hb, hml, hown, hts⟩ (zc_X1_refuse l D cI ad g_now g_mind g_taken g_isTaken g_letters g_letterCount g_told g_toldCount g_refusals g_costs g_gains g_seed ((-1) : Int32) r14 n15 g16) (cwV 1 hts gX1_wets_X1_refuse rfl rfl rfl hd_X1_refuse ⟨Nat.le_of_ble_eq_true rfl, Nat.le_of_ble_eq_true rfl⟩) hK hP hD hS hA (zb_sG) (q0 := 0) rfl rfl rfl hl.1 rfl (Nat.le_of_ble_eq_true rfl) dX1_wets_9 ⟨Nat.le_refl _, Nat.le_refl _⟩ (fun H locs hP hD hS => ?_)
    obtain ⟨rfl, rfl, rfl⟩ := re3 h
    exact zb_iret hx hb hr hlk hP hS dX1_wets_12
abbrev rm_X1_comesIn : Room := { frames := 1, cells := 0, slots := 0, locals := 23 }
theorem hd_X1_comesIn : yX1_comesIn.cls = RX1 ∧ yX1_comesIn.cls ≠ "java/lang/invoke/MethodHandle" ∧ yX1_comesIn.cls ≠ "java/lang/invoke/VarHandle" ∧ (parseMethodDescriptor yX1_comesIn.desc).map (fun d => d.parameters.length) = some 2 := by decide +kernel
theorem zi_X1_comesIn_X1 : ∀ w ∈ wsX10, w ∈ wsX1_comesIn := fun _ h => List.mem_cons_of_mem _ (List.mem_append_left _ (List.mem_append_right _ h))
theorem zk_X1_comesIn_0 : Cond.fieldLink RX1 10 "GroutingIsFollowed" "now" "LGroutingIsFollowed$Bath;" ∈ wsX1_comesIn := by decide +kernel
set_option maxHeartbeats 4000000 in
set_option maxRecDepth 100000 in
theorem zc_X1_comesIn (l : Launch) (D : va_G) (cI : ClassId) (ad : Nat → Nat) (g_now : BT) (g_mind : BT) (g_taken : BT) (g_isTaken : Int32) (g_letters : (Nat → Int32)) (g_letterCount : Int32) (g_told : (Nat → Int32)) (g_toldCount : Int32) (g_refusals : (Nat → Int32)) (g_costs : (Nat → Int32)) (g_gains : (Nat → Int32)) (g_seed : Int32) (v1 : Int32) (v2 : Int32) (r0 : Int32) (w_g_now : BT) (w_g_refusals : (Nat → Int32)) (h : zf_X1_comesIn g_now g_refusals v1 v2 = some (r0, w_g_now, w_g_refusals)) : Cn l D cI yX1_comesIn wsX1_comesIn rm_X1_comesIn [.ref (ad 0), .int v1, .int v2] (zb_G cI ad g_now g_mind g_taken g_isTaken g_letters g_letterCount g_told g_toldCount g_refusals g_costs g_gains g_seed) (some (.int r0)) (zb_G cI ad w_g_now g_mind g_taken g_isTaken g_letters g_letterCount g_told g_toldCount w_g_refusals g_costs g_gains g_seed) := by
  refine zb_ofW (cc := cX1_comesIn) (maxL := 3) (ret := (some .int)) (by decide) rfl (Nat.le_of_ble_eq_true rfl) ?_
  intro p e s m args below meth c A ls hx hb hr hml hts hown hlk hK hP hD hA hl
  have hS : va_S A s.heap s.heap [] := va_S.rf
  have hl : lv_has ls 3 [(0, .ref (ad 0)), (1, .int v1), (2, .int v2)] := hl
  unfold zf_X1_comesIn at h
  refine lv_iload_n hx hb dX1_comesIn_0 rfl (lv_at hl 1 rfl) ?_
  obtain ⟨r1, g2, h⟩ := bo1 h
  refine zb_callS (As := [.int v1]) (rest := []) ⟨hx, hb, hml, hown, hts⟩ (zc_X1_isNode l D cI v1 r1 g2) (va_cwS 1 hts gX1_comesIn_X1_isNode rfl rfl rfl hd_X1_isNode.2 ⟨Nat.le_of_ble_eq_true rfl, Nat.le_of_ble_eq_true rfl⟩) hK hP hD hS hA (zb_none _) rfl hl.1 rfl (Nat.le_of_ble_eq_true rfl) dX1_comesIn_1 ⟨Nat.le_refl _, Nat.le_refl _⟩ (fun H locs hP hD hS => ?_)
  refine lv_if_eq (tgt := 14) hx hb dX1_comesIn_4 (by decide) (fun c3 => ?_) (fun c3 => ?_)
  · replace h := it_t c3 h
    refine lv_aload_n hx hb dX1_comesIn_14 rfl (lv_at hl 0 rfl) ?_
    refine lv_iconst (v := ((-1) : Int32)) hx hb dX1_comesIn_15 (by decide) ?_
    obtain ⟨r4, n5, g6, h⟩ := bo2 h
    refine zb_callV (As := [.int ((-1) : Int32)]) (rest := []) ⟨hx, hb, hml, hown, hts⟩ (zc_X1_refuse l D cI ad g_now g_mind g_taken g_isTaken g_letters g_letterCount g_told g_toldCount g_refusals g_costs g_gains g_seed ((-1) : Int32) r4 n5 g6) (cwV 1 hts gX1_comesIn_X1_refuse rfl rfl rfl hd_X1_refuse ⟨Nat.le_of_ble_eq_true rfl, Nat.le_of_ble_eq_true rfl⟩) hK hP hD hS hA (zb_sG) (q0 := 0) rfl rfl rfl hl.1 rfl (Nat.le_of_ble_eq_true rfl) dX1_comesIn_16 ⟨Nat.le_refl _, Nat.le_refl _⟩ (fun H locs hP hD hS => ?_)
    obtain ⟨rfl, rfl, rfl⟩ := re3 h
    exact zb_iret hx hb hr hlk hP hS dX1_comesIn_19
  · replace h := it_f c3 h
    refine lv_iload_n hx hb dX1_comesIn_7 rfl (lv_at hl 2 rfl) ?_
    obtain ⟨r7, g8, h⟩ := bo1 h
    refine zb_callS (As := [.int v2]) (rest := []) ⟨hx, hb, hml, hown, hts⟩ (zc_X1_isWay l D cI v2 r7 g8) (va_cwS 1 hts gX1_comesIn_X1_isWay rfl rfl rfl hd_X1_isWay.2 ⟨Nat.le_of_ble_eq_true rfl, Nat.le_of_ble_eq_true rfl⟩) hK hP hD hS hA (zb_none _) rfl hl.1 rfl (Nat.le_of_ble_eq_true rfl) dX1_comesIn_8 ⟨Nat.le_refl _, Nat.le_refl _⟩ (fun H locs hP hD hS => ?_)
    refine lv_if_ne (tgt := 20) hx hb dX1_comesIn_11 (by decide) (fun c9 => ?_) (fun c9 => ?_)
    · replace h := it_f c9 h
      refine lv_aload_n hx hb dX1_comesIn_20 rfl (lv_at hl 0 rfl) ?_
      refine va_get (D := D) (ci := 1) (v := .ref (ad 1)) (C := RX1) (T := TX1) (N := 12) hx hb hts zi_X1_comesIn_X1 hown hK.1 hP 0 rfl rfl 0 (by decide) (hts _ zk_X1_comesIn_0) (fun _ h9 => h9) rfl dX1_comesIn_21 ?_
      obtain ⟨r10, g11, h⟩ := bo1 h
      refine zb_callV (As := []) (rest := []) ⟨hx, hb, hml, hown, hts⟩ (zc_X0_isFull l D cI (ad 1) (ad 2) (ad 3) (ad 4) (ad 5) (ad 6) (ad 7) g_now r10 g11) (cwV 0 hts gX1_comesIn_X0_isFull rfl rfl rfl hd_X0_isFull ⟨Nat.le_of_ble_eq_true rfl, Nat.le_of_ble_eq_true rfl⟩) hK hP hD hS hA (zb_cGn) (q0 := 0) rfl rfl rfl hl.1 rfl (Nat.le_of_ble_eq_true rfl) dX1_comesIn_24 ⟨Nat.le_refl _, Nat.le_refl _⟩ (fun H locs hP hD hS => ?_)
      refine lv_if_eq (tgt := 37) hx hb dX1_comesIn_27 (by decide) (fun c12 => ?_) (fun c12 => ?_)
      · replace h := it_t c12 h
        refine lv_aload_n hx hb dX1_comesIn_37 rfl (lv_at hl 0 rfl) ?_
        refine va_get (D := D) (ci := 1) (v := .ref (ad 1)) (C := RX1) (T := TX1) (N := 12) hx hb hts zi_X1_comesIn_X1 hown hK.1 hP 0 rfl rfl 0 (by decide) (hts _ zk_X1_comesIn_0) (fun _ h9 => h9) rfl dX1_comesIn_38 ?_
        refine lv_iload_n hx hb dX1_comesIn_41 rfl (lv_at hl 1 rfl) ?_
        refine lv_iload_n hx hb dX1_comesIn_42 rfl (lv_at hl 2 rfl) ?_
        obtain ⟨r13, n14, g15, h⟩ := bo2 h
        refine zb_callV (As := [.int v1, .int v2]) (rest := []) ⟨hx, hb, hml, hown, hts⟩ (zc_X0_add l D cI (ad 1) (ad 2) (ad 3) (ad 4) (ad 5) (ad 6) (ad 7) g_now v1 v2 r13 n14 g15) (cwV 2 hts gX1_comesIn_X0_add rfl rfl rfl hd_X0_add ⟨Nat.le_of_ble_eq_true rfl, Nat.le_of_ble_eq_true rfl⟩) hK hP hD hS hA (zb_cGn) (q0 := 0) rfl rfl rfl hl.1 rfl (Nat.le_of_ble_eq_true rfl) dX1_comesIn_43 ⟨Nat.le_refl _, Nat.le_refl _⟩ (fun H locs hP hD hS => ?_)
        obtain ⟨rfl, rfl, rfl⟩ := re3 h
        exact zb_iret hx hb hr hlk hP hS dX1_comesIn_46
      · replace h := it_f c12 h
        refine lv_aload_n hx hb dX1_comesIn_30 rfl (lv_at hl 0 rfl) ?_
        refine lv_bipush (v := ((-6) : Int32)) hx hb dX1_comesIn_31 (by decide) ?_
        obtain ⟨r16, n17, g18, h⟩ := bo2 h
        refine zb_callV (As := [.int ((-6) : Int32)]) (rest := []) ⟨hx, hb, hml, hown, hts⟩ (zc_X1_refuse l D cI ad g_now g_mind g_taken g_isTaken g_letters g_letterCount g_told g_toldCount g_refusals g_costs g_gains g_seed ((-6) : Int32) r16 n17 g18) (cwV 1 hts gX1_comesIn_X1_refuse rfl rfl rfl hd_X1_refuse ⟨Nat.le_of_ble_eq_true rfl, Nat.le_of_ble_eq_true rfl⟩) hK hP hD hS hA (zb_sG) (q0 := 0) rfl rfl rfl hl.1 rfl (Nat.le_of_ble_eq_true rfl) dX1_comesIn_33 ⟨Nat.le_refl _, Nat.le_refl _⟩ (fun H locs hP hD hS => ?_)
        obtain ⟨rfl, rfl, rfl⟩ := re3 h
        exact zb_iret hx hb hr hlk hP hS dX1_comesIn_36
    · replace h := it_t c9 h
      refine lv_aload_n hx hb dX1_comesIn_14 rfl (lv_at hl 0 rfl) ?_
      refine lv_iconst (v := ((-1) : Int32)) hx hb dX1_comesIn_15 (by decide) ?_
      obtain ⟨r19, n20, g21, h⟩ := bo2 h
      refine zb_callV (As := [.int ((-1) : Int32)]) (rest := []) ⟨hx, hb, hml, hown, hts⟩ (zc_X1_refuse l D cI ad g_now g_mind g_taken g_isTaken g_letters g_letterCount g_told g_toldCount g_refusals g_costs g_gains g_seed ((-1) : Int32) r19 n20 g21) (cwV 1 hts gX1_comesIn_X1_refuse rfl rfl rfl hd_X1_refuse ⟨Nat.le_of_ble_eq_true rfl, Nat.le_of_ble_eq_true rfl⟩) hK hP hD hS hA (zb_sG) (q0 := 0) rfl rfl rfl hl.1 rfl (Nat.le_of_ble_eq_true rfl) dX1_comesIn_16 ⟨Nat.le_refl _, Nat.le_refl _⟩ (fun H locs hP hD hS => ?_)
      obtain ⟨rfl, rfl, rfl⟩ := re3 h
      exact zb_iret hx hb hr hlk hP hS dX1_comesIn_19
abbrev rm_X1_heads : Room := { frames := 2, cells := 0, slots := 0, locals := 43 }
theorem hd_X1_heads : yX1_heads.cls = RX1 ∧ yX1_heads.cls ≠ "java/lang/invoke/MethodHandle" ∧ yX1_heads.cls ≠ "java/lang/invoke/VarHandle" ∧ (parseMethodDescriptor yX1_heads.desc).map (fun d => d.parameters.length) = some 2 := by decide +kernel
theorem zi_X1_heads_X1 : ∀ w ∈ wsX10, w ∈ wsX1_heads := fun _ h => List.mem_cons_of_mem _ (List.mem_append_left _ (List.mem_append_right _ h))
theorem zk_X1_heads_0 : Cond.fieldLink RX1 10 "GroutingIsFollowed" "now" "LGroutingIsFollowed$Bath;" ∈ wsX1_heads := by decide +kernel
set_option maxHeartbeats 4000000 in
set_option maxRecDepth 100000 in
theorem zc_X1_heads (l : Launch) (D : va_G) (cI : ClassId) (ad : Nat → Nat) (g_now : BT) (g_mind : BT) (g_taken : BT) (g_isTaken : Int32) (g_letters : (Nat → Int32)) (g_letterCount : Int32) (g_told : (Nat → Int32)) (g_toldCount : Int32) (g_refusals : (Nat → Int32)) (g_costs : (Nat → Int32)) (g_gains : (Nat → Int32)) (g_seed : Int32) (v1 : Int32) (v2 : Int32) (r0 : Int32) (w_g_now : BT) (w_g_refusals : (Nat → Int32)) (h : zf_X1_heads g_now g_refusals v1 v2 = some (r0, w_g_now, w_g_refusals)) : Cn l D cI yX1_heads wsX1_heads rm_X1_heads [.ref (ad 0), .int v1, .int v2] (zb_G cI ad g_now g_mind g_taken g_isTaken g_letters g_letterCount g_told g_toldCount g_refusals g_costs g_gains g_seed) (some (.int r0)) (zb_G cI ad w_g_now g_mind g_taken g_isTaken g_letters g_letterCount g_told g_toldCount w_g_refusals g_costs g_gains g_seed) := by
  refine zb_ofW (cc := cX1_heads) (maxL := 4) (ret := (some .int)) (by decide) rfl (Nat.le_of_ble_eq_true rfl) ?_
  intro p e s m args below meth c A ls hx hb hr hml hts hown hlk hK hP hD hA hl
  have hS : va_S A s.heap s.heap [] := va_S.rf
  have hl : lv_has ls 4 [(0, .ref (ad 0)), (1, .int v1), (2, .int v2)] := hl
  unfold zf_X1_heads at h
  refine lv_aload_n hx hb dX1_heads_0 rfl (lv_at hl 0 rfl) ?_
  refine va_get (D := D) (ci := 1) (v := .ref (ad 1)) (C := RX1) (T := TX1) (N := 12) hx hb hts zi_X1_heads_X1 hown hK.1 hP 0 rfl rfl 0 (by decide) (hts _ zk_X1_heads_0) (fun _ h9 => h9) rfl dX1_heads_1 ?_
  refine lv_iload_n hx hb dX1_heads_4 rfl (lv_at hl 1 rfl) ?_
  obtain ⟨r1, g2, h⟩ := bo1 h
  refine zb_callV (As := [.int v1]) (rest := []) ⟨hx, hb, hml, hown, hts⟩ (zc_X0_has l D cI (ad 1) (ad 2) (ad 3) (ad 4) (ad 5) (ad 6) (ad 7) g_now v1 r1 g2) (cwV 1 hts gX1_heads_X0_has rfl rfl rfl hd_X0_has ⟨Nat.le_of_ble_eq_true rfl, Nat.le_of_ble_eq_true rfl⟩) hK hP hD hS hA (zb_cGn) (q0 := 0) rfl rfl rfl hl.1 rfl (Nat.le_of_ble_eq_true rfl) dX1_heads_5 ⟨Nat.le_refl _, Nat.le_refl _⟩ (fun H locs hP hD hS => ?_)
  refine lv_if_eq (tgt := 18) hx hb dX1_heads_8 (by decide) (fun c3 => ?_) (fun c3 => ?_)
  · replace h := it_t c3 h
    refine lv_aload_n hx hb dX1_heads_18 rfl (lv_at hl 0 rfl) ?_
    refine lv_iconst (v := ((-1) : Int32)) hx hb dX1_heads_19 (by decide) ?_
    obtain ⟨r4, n5, g6, h⟩ := bo2 h
    refine zb_callV (As := [.int ((-1) : Int32)]) (rest := []) ⟨hx, hb, hml, hown, hts⟩ (zc_X1_refuse l D cI ad g_now g_mind g_taken g_isTaken g_letters g_letterCount g_told g_toldCount g_refusals g_costs g_gains g_seed ((-1) : Int32) r4 n5 g6) (cwV 1 hts gX1_heads_X1_refuse rfl rfl rfl hd_X1_refuse ⟨Nat.le_of_ble_eq_true rfl, Nat.le_of_ble_eq_true rfl⟩) hK hP hD hS hA (zb_sG) (q0 := 0) rfl rfl rfl hl.1 rfl (Nat.le_of_ble_eq_true rfl) dX1_heads_20 ⟨Nat.le_refl _, Nat.le_refl _⟩ (fun H locs hP hD hS => ?_)
    obtain ⟨rfl, rfl, rfl⟩ := re3 h
    exact zb_iret hx hb hr hlk hP hS dX1_heads_23
  · replace h := it_f c3 h
    refine lv_iload_n hx hb dX1_heads_11 rfl (lv_at hl 2 rfl) ?_
    obtain ⟨r7, g8, h⟩ := bo1 h
    refine zb_callS (As := [.int v2]) (rest := []) ⟨hx, hb, hml, hown, hts⟩ (zc_X1_isWay l D cI v2 r7 g8) (va_cwS 1 hts gX1_heads_X1_isWay rfl rfl rfl hd_X1_isWay.2 ⟨Nat.le_of_ble_eq_true rfl, Nat.le_of_ble_eq_true rfl⟩) hK hP hD hS hA (zb_none _) rfl hl.1 rfl (Nat.le_of_ble_eq_true rfl) dX1_heads_12 ⟨Nat.le_refl _, Nat.le_refl _⟩ (fun H locs hP hD hS => ?_)
    refine lv_if_ne (tgt := 24) hx hb dX1_heads_15 (by decide) (fun c9 => ?_) (fun c9 => ?_)
    · replace h := it_f c9 h
      refine lv_aload_n hx hb dX1_heads_24 rfl (lv_at hl 0 rfl) ?_
      refine va_get (D := D) (ci := 1) (v := .ref (ad 1)) (C := RX1) (T := TX1) (N := 12) hx hb hts zi_X1_heads_X1 hown hK.1 hP 0 rfl rfl 0 (by decide) (hts _ zk_X1_heads_0) (fun _ h9 => h9) rfl dX1_heads_25 ?_
      refine lv_iload_n hx hb dX1_heads_28 rfl (lv_at hl 1 rfl) ?_
      obtain ⟨r10, g11, h⟩ := bo1 h
      refine zb_callV (As := [.int v1]) (rest := []) ⟨hx, hb, hml, hown, hts⟩ (zc_X0_headingOf l D cI (ad 1) (ad 2) (ad 3) (ad 4) (ad 5) (ad 6) (ad 7) g_now v1 r10 g11) (cwV 1 hts gX1_heads_X0_headingOf rfl rfl rfl hd_X0_headingOf ⟨Nat.le_of_ble_eq_true rfl, Nat.le_of_ble_eq_true rfl⟩) hK hP hD hS hA (zb_cGn) (q0 := 0) rfl rfl rfl hl.1 rfl (Nat.le_of_ble_eq_true rfl) dX1_heads_29 ⟨Nat.le_refl _, Nat.le_refl _⟩ (fun H locs hP hD hS => ?_)
      refine lv_istore_n (lv' := [(3, .int r10), (0, .ref (ad 0)), (1, .int v1), (2, .int v2)]) hx hb dX1_heads_32 rfl hl (by decide) rfl (fun ls hl => ?_)
      refine lv_aload_n hx hb dX1_heads_33 rfl (lv_at hl 1 rfl) ?_
      refine va_get (D := D) (ci := 1) (v := .ref (ad 1)) (C := RX1) (T := TX1) (N := 12) hx hb hts zi_X1_heads_X1 hown hK.1 hP 0 rfl rfl 0 (by decide) (hts _ zk_X1_heads_0) (fun _ h9 => h9) rfl dX1_heads_34 ?_
      refine lv_iload_n hx hb dX1_heads_37 rfl (lv_at hl 2 rfl) ?_
      refine lv_iload_n hx hb dX1_heads_38 rfl (lv_at hl 3 rfl) ?_
      obtain ⟨n12, g13, h⟩ := bo1 h
      refine zb_callV (As := [.int v1, .int v2]) (rest := []) ⟨hx, hb, hml, hown, hts⟩ (zc_X0_putHeading l D cI (ad 1) (ad 2) (ad 3) (ad 4) (ad 5) (ad 6) (ad 7) g_now v1 v2 n12 g13) (cwV 2 hts gX1_heads_X0_putHeading rfl rfl rfl hd_X0_putHeading ⟨Nat.le_of_ble_eq_true rfl, Nat.le_of_ble_eq_true rfl⟩) hK hP hD hS hA (zb_cGn) (q0 := 0) rfl rfl rfl hl.1 rfl (Nat.le_of_ble_eq_true rfl) dX1_heads_39 ⟨Nat.le_refl _, Nat.le_refl _⟩ (fun H locs hP hD hS => ?_)
      refine lv_iload_n hx hb dX1_heads_42 rfl (lv_at hl 0 rfl) ?_
      obtain ⟨rfl, rfl, rfl⟩ := re3 h
      exact zb_iret hx hb hr hlk hP hS dX1_heads_43
    · replace h := it_t c9 h
      refine lv_aload_n hx hb dX1_heads_18 rfl (lv_at hl 0 rfl) ?_
      refine lv_iconst (v := ((-1) : Int32)) hx hb dX1_heads_19 (by decide) ?_
      obtain ⟨r14, n15, g16, h⟩ := bo2 h
      refine zb_callV (As := [.int ((-1) : Int32)]) (rest := []) ⟨hx, hb, hml, hown, hts⟩ (zc_X1_refuse l D cI ad g_now g_mind g_taken g_isTaken g_letters g_letterCount g_told g_toldCount g_refusals g_costs g_gains g_seed ((-1) : Int32) r14 n15 g16) (cwV 1 hts gX1_heads_X1_refuse rfl rfl rfl hd_X1_refuse ⟨Nat.le_of_ble_eq_true rfl, Nat.le_of_ble_eq_true rfl⟩) hK hP hD hS hA (zb_sG) (q0 := 0) rfl rfl rfl hl.1 rfl (Nat.le_of_ble_eq_true rfl) dX1_heads_20 ⟨Nat.le_refl _, Nat.le_refl _⟩ (fun H locs hP hD hS => ?_)
      obtain ⟨rfl, rfl, rfl⟩ := re3 h
      exact zb_iret hx hb hr hlk hP hS dX1_heads_23
abbrev rm_X1_stands : Room := { frames := 2, cells := 0, slots := 0, locals := 43 }
theorem hd_X1_stands : yX1_stands.cls = RX1 ∧ yX1_stands.cls ≠ "java/lang/invoke/MethodHandle" ∧ yX1_stands.cls ≠ "java/lang/invoke/VarHandle" ∧ (parseMethodDescriptor yX1_stands.desc).map (fun d => d.parameters.length) = some 2 := by decide +kernel
theorem zi_X1_stands_X1 : ∀ w ∈ wsX10, w ∈ wsX1_stands := fun _ h => List.mem_cons_of_mem _ (List.mem_append_left _ (List.mem_append_right _ h))
theorem zk_X1_stands_0 : Cond.fieldLink RX1 10 "GroutingIsFollowed" "now" "LGroutingIsFollowed$Bath;" ∈ wsX1_stands := by decide +kernel
set_option maxHeartbeats 4000000 in
set_option maxRecDepth 100000 in
theorem zc_X1_stands (l : Launch) (D : va_G) (cI : ClassId) (ad : Nat → Nat) (g_now : BT) (g_mind : BT) (g_taken : BT) (g_isTaken : Int32) (g_letters : (Nat → Int32)) (g_letterCount : Int32) (g_told : (Nat → Int32)) (g_toldCount : Int32) (g_refusals : (Nat → Int32)) (g_costs : (Nat → Int32)) (g_gains : (Nat → Int32)) (g_seed : Int32) (v1 : Int32) (v2 : Int32) (r0 : Int32) (w_g_now : BT) (w_g_refusals : (Nat → Int32)) (h : zf_X1_stands g_now g_refusals v1 v2 = some (r0, w_g_now, w_g_refusals)) : Cn l D cI yX1_stands wsX1_stands rm_X1_stands [.ref (ad 0), .int v1, .int v2] (zb_G cI ad g_now g_mind g_taken g_isTaken g_letters g_letterCount g_told g_toldCount g_refusals g_costs g_gains g_seed) (some (.int r0)) (zb_G cI ad w_g_now g_mind g_taken g_isTaken g_letters g_letterCount g_told g_toldCount w_g_refusals g_costs g_gains g_seed) := by
  refine zb_ofW (cc := cX1_stands) (maxL := 4) (ret := (some .int)) (by decide) rfl (Nat.le_of_ble_eq_true rfl) ?_
  intro p e s m args below meth c A ls hx hb hr hml hts hown hlk hK hP hD hA hl
  have hS : va_S A s.heap s.heap [] := va_S.rf
  have hl : lv_has ls 4 [(0, .ref (ad 0)), (1, .int v1), (2, .int v2)] := hl
  unfold zf_X1_stands at h
  refine lv_aload_n hx hb dX1_stands_0 rfl (lv_at hl 0 rfl) ?_
  refine va_get (D := D) (ci := 1) (v := .ref (ad 1)) (C := RX1) (T := TX1) (N := 12) hx hb hts zi_X1_stands_X1 hown hK.1 hP 0 rfl rfl 0 (by decide) (hts _ zk_X1_stands_0) (fun _ h9 => h9) rfl dX1_stands_1 ?_
  refine lv_iload_n hx hb dX1_stands_4 rfl (lv_at hl 1 rfl) ?_
  obtain ⟨r1, g2, h⟩ := bo1 h
  refine zb_callV (As := [.int v1]) (rest := []) ⟨hx, hb, hml, hown, hts⟩ (zc_X0_has l D cI (ad 1) (ad 2) (ad 3) (ad 4) (ad 5) (ad 6) (ad 7) g_now v1 r1 g2) (cwV 1 hts gX1_stands_X0_has rfl rfl rfl hd_X0_has ⟨Nat.le_of_ble_eq_true rfl, Nat.le_of_ble_eq_true rfl⟩) hK hP hD hS hA (zb_cGn) (q0 := 0) rfl rfl rfl hl.1 rfl (Nat.le_of_ble_eq_true rfl) dX1_stands_5 ⟨Nat.le_refl _, Nat.le_refl _⟩ (fun H locs hP hD hS => ?_)
  refine lv_if_eq (tgt := 18) hx hb dX1_stands_8 (by decide) (fun c3 => ?_) (fun c3 => ?_)
  · replace h := it_t c3 h
    refine lv_aload_n hx hb dX1_stands_18 rfl (lv_at hl 0 rfl) ?_
    refine lv_iconst (v := ((-1) : Int32)) hx hb dX1_stands_19 (by decide) ?_
    obtain ⟨r4, n5, g6, h⟩ := bo2 h
    refine zb_callV (As := [.int ((-1) : Int32)]) (rest := []) ⟨hx, hb, hml, hown, hts⟩ (zc_X1_refuse l D cI ad g_now g_mind g_taken g_isTaken g_letters g_letterCount g_told g_toldCount g_refusals g_costs g_gains g_seed ((-1) : Int32) r4 n5 g6) (cwV 1 hts gX1_stands_X1_refuse rfl rfl rfl hd_X1_refuse ⟨Nat.le_of_ble_eq_true rfl, Nat.le_of_ble_eq_true rfl⟩) hK hP hD hS hA (zb_sG) (q0 := 0) rfl rfl rfl hl.1 rfl (Nat.le_of_ble_eq_true rfl) dX1_stands_20 ⟨Nat.le_refl _, Nat.le_refl _⟩ (fun H locs hP hD hS => ?_)
    obtain ⟨rfl, rfl, rfl⟩ := re3 h
    exact zb_iret hx hb hr hlk hP hS dX1_stands_23
  · replace h := it_f c3 h
    refine lv_iload_n hx hb dX1_stands_11 rfl (lv_at hl 2 rfl) ?_
    obtain ⟨r7, g8, h⟩ := bo1 h
    refine zb_callS (As := [.int v2]) (rest := []) ⟨hx, hb, hml, hown, hts⟩ (zc_X1_isNode l D cI v2 r7 g8) (va_cwS 1 hts gX1_stands_X1_isNode rfl rfl rfl hd_X1_isNode.2 ⟨Nat.le_of_ble_eq_true rfl, Nat.le_of_ble_eq_true rfl⟩) hK hP hD hS hA (zb_none _) rfl hl.1 rfl (Nat.le_of_ble_eq_true rfl) dX1_stands_12 ⟨Nat.le_refl _, Nat.le_refl _⟩ (fun H locs hP hD hS => ?_)
    refine lv_if_ne (tgt := 24) hx hb dX1_stands_15 (by decide) (fun c9 => ?_) (fun c9 => ?_)
    · replace h := it_f c9 h
      refine lv_aload_n hx hb dX1_stands_24 rfl (lv_at hl 0 rfl) ?_
      refine va_get (D := D) (ci := 1) (v := .ref (ad 1)) (C := RX1) (T := TX1) (N := 12) hx hb hts zi_X1_stands_X1 hown hK.1 hP 0 rfl rfl 0 (by decide) (hts _ zk_X1_stands_0) (fun _ h9 => h9) rfl dX1_stands_25 ?_
      refine lv_iload_n hx hb dX1_stands_28 rfl (lv_at hl 1 rfl) ?_
      obtain ⟨r10, g11, h⟩ := bo1 h
      refine zb_callV (As := [.int v1]) (rest := []) ⟨hx, hb, hml, hown, hts⟩ (zc_X0_placeOf l D cI (ad 1) (ad 2) (ad 3) (ad 4) (ad 5) (ad 6) (ad 7) g_now v1 r10 g11) (cwV 1 hts gX1_stands_X0_placeOf rfl rfl rfl hd_X0_placeOf ⟨Nat.le_of_ble_eq_true rfl, Nat.le_of_ble_eq_true rfl⟩) hK hP hD hS hA (zb_cGn) (q0 := 0) rfl rfl rfl hl.1 rfl (Nat.le_of_ble_eq_true rfl) dX1_stands_29 ⟨Nat.le_refl _, Nat.le_refl _⟩ (fun H locs hP hD hS => ?_)
      refine lv_istore_n (lv' := [(3, .int r10), (0, .ref (ad 0)), (1, .int v1), (2, .int v2)]) hx hb dX1_stands_32 rfl hl (by decide) rfl (fun ls hl => ?_)
      refine lv_aload_n hx hb dX1_stands_33 rfl (lv_at hl 1 rfl) ?_
      refine va_get (D := D) (ci := 1) (v := .ref (ad 1)) (C := RX1) (T := TX1) (N := 12) hx hb hts zi_X1_stands_X1 hown hK.1 hP 0 rfl rfl 0 (by decide) (hts _ zk_X1_stands_0) (fun _ h9 => h9) rfl dX1_stands_34 ?_
      refine lv_iload_n hx hb dX1_stands_37 rfl (lv_at hl 2 rfl) ?_
      refine lv_iload_n hx hb dX1_stands_38 rfl (lv_at hl 3 rfl) ?_
      obtain ⟨n12, g13, h⟩ := bo1 h
      refine zb_callV (As := [.int v1, .int v2]) (rest := []) ⟨hx, hb, hml, hown, hts⟩ (zc_X0_putPlace l D cI (ad 1) (ad 2) (ad 3) (ad 4) (ad 5) (ad 6) (ad 7) g_now v1 v2 n12 g13) (cwV 2 hts gX1_stands_X0_putPlace rfl rfl rfl hd_X0_putPlace ⟨Nat.le_of_ble_eq_true rfl, Nat.le_of_ble_eq_true rfl⟩) hK hP hD hS hA (zb_cGn) (q0 := 0) rfl rfl rfl hl.1 rfl (Nat.le_of_ble_eq_true rfl) dX1_stands_39 ⟨Nat.le_refl _, Nat.le_refl _⟩ (fun H locs hP hD hS => ?_)
      refine lv_iload_n hx hb dX1_stands_42 rfl (lv_at hl 0 rfl) ?_
      obtain ⟨rfl, rfl, rfl⟩ := re3 h
      exact zb_iret hx hb hr hlk hP hS dX1_stands_43
    · replace h := it_t c9 h
      refine lv_aload_n hx hb dX1_stands_18 rfl (lv_at hl 0 rfl) ?_
      refine lv_iconst (v := ((-1) : Int32)) hx hb dX1_stands_19 (by decide) ?_
      obtain ⟨r14, n15, g16, h⟩ := bo2 h
      refine zb_callV (As := [.int ((-1) : Int32)]) (rest := []) ⟨hx, hb, hml, hown, hts⟩ (zc_X1_refuse l D cI ad g_now g_mind g_taken g_isTaken g_letters g_letterCount g_told g_toldCount g_refusals g_costs g_gains g_seed ((-1) : Int32) r14 n15 g16) (cwV 1 hts gX1_stands_X1_refuse rfl rfl rfl hd_X1_refuse ⟨Nat.le_of_ble_eq_true rfl, Nat.le_of_ble_eq_true rfl⟩) hK hP hD hS hA (zb_sG) (q0 := 0) rfl rfl rfl hl.1 rfl (Nat.le_of_ble_eq_true rfl) dX1_stands_20 ⟨Nat.le_refl _, Nat.le_refl _⟩ (fun H locs hP hD hS => ?_)
      obtain ⟨rfl, rfl, rfl⟩ := re3 h
      exact zb_iret hx hb hr hlk hP hS dX1_stands_23
abbrev rm_X1_steps : Room := { frames := 4, cells := 0, slots := 0, locals := 86 }
theorem hd_X1_steps : yX1_steps.cls = RX1 ∧ yX1_steps.cls ≠ "java/lang/invoke/MethodHandle" ∧ yX1_steps.cls ≠ "java/lang/invoke/VarHandle" ∧ (parseMethodDescriptor yX1_steps.desc).map (fun d => d.parameters.length) = some 1 := by decide +kernel
theorem zi_X1_steps_X1 : ∀ w ∈ wsX10, w ∈ wsX1_steps := fun _ h => List.mem_cons_of_mem _ (List.mem_append_left _ (List.mem_append_right _ h))
theorem zk_X1_steps_0 : Cond.fieldLink RX1 10 "GroutingIsFollowed" "now" "LGroutingIsFollowed$Bath;" ∈ wsX1_steps := by decide +kernel
set_option maxHeartbeats 4000000 in
set_option maxRecDepth 100000 in
theorem zc_X1_steps (l : Launch) (D : va_G) (cI : ClassId) (ad : Nat → Nat) (g_now : BT) (g_mind : BT) (g_taken : BT) (g_isTaken : Int32) (g_letters : (Nat → Int32)) (g_letterCount : Int32) (g_told : (Nat → Int32)) (g_toldCount : Int32) (g_refusals : (Nat → Int32)) (g_costs : (Nat → Int32)) (g_gains : (Nat → Int32)) (g_seed : Int32) (v1 : Int32) (r0 : Int32) (w_g_now : BT) (w_g_refusals : (Nat → Int32)) (h : zf_X1_steps g_now g_refusals v1 = some (r0, w_g_now, w_g_refusals)) : Cn l D cI yX1_steps wsX1_steps rm_X1_steps [.ref (ad 0), .int v1] (zb_G cI ad g_now g_mind g_taken g_isTaken g_letters g_letterCount g_told g_toldCount g_refusals g_costs g_gains g_seed) (some (.int r0)) (zb_G cI ad w_g_now g_mind g_taken g_isTaken g_letters g_letterCount g_told g_toldCount w_g_refusals g_costs g_gains g_seed) := by
  refine zb_ofW (cc := cX1_steps) (maxL := 3) (ret := (some .int)) (by decide) rfl (Nat.le_of_ble_eq_true rfl) ?_
  intro p e s m args below meth c A ls hx hb hr hml hts hown hlk hK hP hD hA hl
  have hS : va_S A s.heap s.heap [] := va_S.rf
  have hl : lv_has ls 3 [(0, .ref (ad 0)), (1, .int v1)] := hl
  unfold zf_X1_steps at h
  refine lv_iload_n hx hb dX1_steps_0 rfl (lv_at hl 1 rfl) ?_
  refine lv_iconst (v := (1 : Int32)) hx hb dX1_steps_1 (by decide) ?_
  refine lv_bipush (v := (60 : Int32)) hx hb dX1_steps_2 (by decide) ?_
  obtain ⟨r1, g2, h⟩ := bo1 h
  refine zb_callS (As := [.int v1, .int (1 : Int32), .int (60 : Int32)]) (rest := []) ⟨hx, hb, hml, hown, hts⟩ (zc_X1_outside l D cI v1 (1 : Int32) (60 : Int32) r1 g2) (va_cwS 3 hts gX1_steps_X1_outside rfl rfl rfl hd_X1_outside.2 ⟨Nat.le_of_ble_eq_true rfl, Nat.le_of_ble_eq_true rfl⟩) hK hP hD hS hA (zb_none _) rfl hl.1 rfl (Nat.le_of_ble_eq_true rfl) dX1_steps_4 ⟨Nat.le_refl _, Nat.le_refl _⟩ (fun H locs hP hD hS => ?_)
  refine lv_istore_n (lv' := [(2, .int r1), (0, .ref (ad 0)), (1, .int v1)]) hx hb dX1_steps_7 rfl hl (by decide) rfl (fun ls hl => ?_)
  refine lv_iload_n hx hb dX1_steps_8 rfl (lv_at hl 0 rfl) ?_
  refine lv_if_eq (tgt := 18) hx hb dX1_steps_9 (by decide) (fun c3 => ?_) (fun c3 => ?_)
  · replace h := it_t c3 h
    refine lv_aload_n hx hb dX1_steps_18 rfl (lv_at hl 1 rfl) ?_
    refine va_get (D := D) (ci := 1) (v := .ref (ad 1)) (C := RX1) (T := TX1) (N := 12) hx hb hts zi_X1_steps_X1 hown hK.1 hP 0 rfl rfl 0 (by decide) (hts _ zk_X1_steps_0) (fun _ h9 => h9) rfl dX1_steps_19 ?_
    obtain ⟨r4, g5, h⟩ := bo1 h
    refine zb_callV (As := []) (rest := []) ⟨hx, hb, hml, hown, hts⟩ (zc_X0_stepCount l D cI (ad 1) (ad 2) (ad 3) (ad 4) (ad 5) (ad 6) (ad 7) g_now r4 g5) (cwV 0 hts gX1_steps_X0_stepCount rfl rfl rfl hd_X0_stepCount ⟨Nat.le_of_ble_eq_true rfl, Nat.le_of_ble_eq_true rfl⟩) hK hP hD hS hA (zb_cGn) (q0 := 0) rfl rfl rfl hl.1 rfl (Nat.le_of_ble_eq_true rfl) dX1_steps_22 ⟨Nat.le_refl _, Nat.le_refl _⟩ (fun H locs hP hD hS => ?_)
    refine lv_iload_n hx hb dX1_steps_25 rfl (lv_at hl 2 rfl) ?_
    refine lv_iadd hx hb dX1_steps_26 ?_
    refine lv_sipush (v := (999 : Int32)) hx hb dX1_steps_27 (by decide) ?_
    refine lv_icmp_le (tgt := 40) hx hb dX1_steps_30 (by decide) (fun c6 => ?_) (fun c6 => ?_)
    · replace h := it_t c6 h
      refine lv_aload_n hx hb dX1_steps_40 rfl (lv_at hl 1 rfl) ?_
      refine va_get (D := D) (ci := 1) (v := .ref (ad 1)) (C := RX1) (T := TX1) (N := 12) hx hb hts zi_X1_steps_X1 hown hK.1 hP 0 rfl rfl 0 (by decide) (hts _ zk_X1_steps_0) (fun _ h9 => h9) rfl dX1_steps_41 ?_
      refine lv_iload_n hx hb dX1_steps_44 rfl (lv_at hl 2 rfl) ?_
      refine lv_iconst (v := (0 : Int32)) hx hb dX1_steps_45 (by decide) ?_
      obtain ⟨n7, g8, h⟩ := bo1 h
      refine zb_callV (As := [.int v1, .int (0 : Int32)]) (rest := []) ⟨hx, hb, hml, hown, hts⟩ (zc_X0_goOn l D cI (ad 1) (ad 2) (ad 3) (ad 4) (ad 5) (ad 6) (ad 7) g_now v1 (0 : Int32) n7 g8) (cwV 2 hts gX1_steps_X0_goOn rfl rfl rfl hd_X0_goOn ⟨Nat.le_of_ble_eq_true rfl, Nat.le_of_ble_eq_true rfl⟩) hK hP hD hS hA (zb_cGn) (q0 := 0) rfl rfl rfl hl.1 rfl (Nat.le_of_ble_eq_true rfl) dX1_steps_46 ⟨Nat.le_refl _, Nat.le_refl _⟩ (fun H locs hP hD hS => ?_)
      refine lv_aload_n hx hb dX1_steps_49 rfl (lv_at hl 1 rfl) ?_
      refine va_get (D := D) (ci := 1) (v := .ref (ad 1)) (C := RX1) (T := TX1) (N := 12) hx hb hts zi_X1_steps_X1 hown hK.1 hP 0 rfl rfl 0 (by decide) (hts _ zk_X1_steps_0) (fun _ h9 => h9) rfl dX1_steps_50 ?_
      obtain ⟨r9, g10, h⟩ := bo1 h
      refine zb_callV (As := []) (rest := []) ⟨hx, hb, hml, hown, hts⟩ (zc_X0_allWet l D cI (ad 1) (ad 2) (ad 3) (ad 4) (ad 5) (ad 6) (ad 7) n7 r9 g10) (cwV 0 hts gX1_steps_X0_allWet rfl rfl rfl hd_X0_allWet ⟨Nat.le_of_ble_eq_true rfl, Nat.le_of_ble_eq_true rfl⟩) hK hP hD hS hA (zb_cGn) (q0 := 0) rfl rfl rfl hl.1 rfl (Nat.le_of_ble_eq_true rfl) dX1_steps_53 ⟨Nat.le_refl _, Nat.le_refl _⟩ (fun H locs hP hD hS => ?_)
      obtain ⟨rfl, rfl, rfl⟩ := re3 h
      exact zb_iret hx hb hr hlk hP hS dX1_steps_56
    · replace h := it_f c6 h
      refine lv_aload_n hx hb dX1_steps_33 rfl (lv_at hl 1 rfl) ?_
      refine lv_bipush (v := ((-6) : Int32)) hx hb dX1_steps_34 (by decide) ?_
      obtain ⟨r11, n12, g13, h⟩ := bo2 h
      refine zb_callV (As := [.int ((-6) : Int32)]) (rest := []) ⟨hx, hb, hml, hown, hts⟩ (zc_X1_refuse l D cI ad g_now g_mind g_taken g_isTaken g_letters g_letterCount g_told g_toldCount g_refusals g_costs g_gains g_seed ((-6) : Int32) r11 n12 g13) (cwV 1 hts gX1_steps_X1_refuse rfl rfl rfl hd_X1_refuse ⟨Nat.le_of_ble_eq_true rfl, Nat.le_of_ble_eq_true rfl⟩) hK hP hD hS hA (zb_sG) (q0 := 0) rfl rfl rfl hl.1 rfl (Nat.le_of_ble_eq_true rfl) dX1_steps_36 ⟨Nat.le_refl _, Nat.le_refl _⟩ (fun H locs hP hD hS => ?_)
      obtain ⟨rfl, rfl, rfl⟩ := re3 h
      exact zb_iret hx hb hr hlk hP hS dX1_steps_39
  · replace h := it_f c3 h
    refine lv_aload_n hx hb dX1_steps_12 rfl (lv_at hl 1 rfl) ?_
    refine lv_iload_n hx hb dX1_steps_13 rfl (lv_at hl 0 rfl) ?_
    obtain ⟨r14, n15, g16, h⟩ := bo2 h
    refine zb_callV (As := [.int r1]) (rest := []) ⟨hx, hb, hml, hown, hts⟩ (zc_X1_refuse l D cI ad g_now g_mind g_taken g_isTaken g_letters g_letterCount g_told g_toldCount g_refusals g_costs g_gains g_seed r1 r14 n15 g16) (cwV 1 hts gX1_steps_X1_refuse rfl rfl rfl hd_X1_refuse ⟨Nat.le_of_ble_eq_true rfl, Nat.le_of_ble_eq_true rfl⟩) hK hP hD hS hA (zb_sG) (q0 := 0) rfl rfl rfl hl.1 rfl (Nat.le_of_ble_eq_true rfl) dX1_steps_14 ⟨Nat.le_refl _, Nat.le_refl _⟩ (fun H locs hP hD hS => ?_)
    obtain ⟨rfl, rfl, rfl⟩ := re3 h
    exact zb_iret hx hb hr hlk hP hS dX1_steps_17
