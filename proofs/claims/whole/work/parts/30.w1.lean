abbrev rm_X1_refuse : Room := { frames := 0, cells := 0, slots := 0, locals := 0 }
theorem hd_X1_refuse : yX1_refuse.cls = RX1 ∧ yX1_refuse.cls ≠ "java/lang/invoke/MethodHandle" ∧ yX1_refuse.cls ≠ "java/lang/invoke/VarHandle" ∧ (parseMethodDescriptor yX1_refuse.desc).map (fun d => d.parameters.length) = some 1 := by decide +kernel
theorem zi_X1_refuse_X1 : ∀ w ∈ wsX10, w ∈ wsX1_refuse := fun _ h => List.mem_cons_of_mem _ (List.mem_append_right _ h)
theorem zk_X1_refuse_0 : Cond.fieldLink RX1 29 "GroutingIsFollowed" "refusals" "[I" ∈ wsX1_refuse := by decide +kernel
set_option maxHeartbeats 4000000 in
set_option maxRecDepth 100000 in
theorem zc_X1_refuse (l : Launch) (D : va_G) (cI : ClassId) (ad : Nat → Nat) (g_now : BT) (g_mind : BT) (g_taken : BT) (g_isTaken : Int32) (g_letters : (Nat → Int32)) (g_letterCount : Int32) (g_told : (Nat → Int32)) (g_toldCount : Int32) (g_refusals : (Nat → Int32)) (g_costs : (Nat → Int32)) (g_gains : (Nat → Int32)) (g_seed : Int32) (v1 : Int32) (r0 : Int32) (w_g_refusals : (Nat → Int32)) (h : zf_X1_refuse g_refusals v1 = some (r0, w_g_refusals)) : Cn l D cI yX1_refuse wsX1_refuse rm_X1_refuse [.ref (ad 0), .int v1] (zb_G cI ad g_now g_mind g_taken g_isTaken g_letters g_letterCount g_told g_toldCount g_refusals g_costs g_gains g_seed) (some (.int r0)) (zb_G cI ad g_now g_mind g_taken g_isTaken g_letters g_letterCount g_told g_toldCount w_g_refusals g_costs g_gains g_seed) := by
  refine zb_ofW (cc := cX1_refuse) (maxL := 3) (ret := (some .int)) (by decide) rfl (Nat.le_of_ble_eq_true rfl) ?_
  intro p e s m args below meth c A ls hx hb hr hml hts hown hlk hK hP hD hA hl
  have hS : va_S A s.heap s.heap [] := va_S.rf
  have hl : lv_has ls 3 [(0, .ref (ad 0)), (1, .int v1)] := hl
  unfold zf_X1_refuse at h
  refine lv_iload_n hx hb dX1_refuse_0 rfl (lv_at hl 1 rfl) ?_
  refine lv_ineg hx hb dX1_refuse_1 ?_
  refine lv_iconst (v := (1 : Int32)) hx hb dX1_refuse_2 (by decide) ?_
  refine lv_isub hx hb dX1_refuse_3 ?_
  refine lv_istore_n (lv' := [(2, .int ((-v1) - (1 : Int32))), (0, .ref (ad 0)), (1, .int v1)]) hx hb dX1_refuse_4 rfl hl (by decide) rfl (fun ls hl => ?_)
  refine lv_iload_n hx hb dX1_refuse_5 rfl (lv_at hl 0 rfl) ?_
  refine lv_if_lt (tgt := 28) hx hb dX1_refuse_6 (by decide) (fun c1 => ?_) (fun c1 => ?_)
  · replace h := it_t c1 h
    refine lv_iload_n hx hb dX1_refuse_28 rfl (lv_at hl 2 rfl) ?_
    obtain ⟨rfl, rfl⟩ := re2 h
    exact zb_iret hx hb hr hlk hP hS dX1_refuse_29
  · replace h := it_f c1 h
    refine lv_iload_n hx hb dX1_refuse_9 rfl (lv_at hl 0 rfl) ?_
    refine lv_aload_n hx hb dX1_refuse_10 rfl (lv_at hl 1 rfl) ?_
    refine va_get (D := D) (ci := 1) (v := .ref (ad 24)) (C := RX1) (T := TX1) (N := 12) hx hb hts zi_X1_refuse_X1 hown hK.1 hP 0 rfl rfl 8 (by decide) (hts _ zk_X1_refuse_0) (fun _ h9 => h9) rfl dX1_refuse_11 ?_
    refine va_alen (v := (6 : Int32)) hx hb hK.1 hP 24 0 rfl rfl rfl dX1_refuse_14 ?_
    refine lv_icmp_ge (tgt := 28) hx hb dX1_refuse_15 (by decide) (fun c2 => ?_) (fun c2 => ?_)
    · replace h := it_t c2 h
      refine lv_iload_n hx hb dX1_refuse_28 rfl (lv_at hl 2 rfl) ?_
      obtain ⟨rfl, rfl⟩ := re2 h
      exact zb_iret hx hb hr hlk hP hS dX1_refuse_29
    · replace h := it_f c2 h
      refine lv_aload_n hx hb dX1_refuse_18 rfl (lv_at hl 1 rfl) ?_
      refine va_get (D := D) (ci := 1) (v := .ref (ad 24)) (C := RX1) (T := TX1) (N := 12) hx hb hts zi_X1_refuse_X1 hown hK.1 hP 0 rfl rfl 8 (by decide) (hts _ zk_X1_refuse_0) (fun _ h9 => h9) rfl dX1_refuse_19 ?_
      refine lv_iload_n hx hb dX1_refuse_22 rfl (lv_at hl 0 rfl) ?_
      refine lv_dup2_11 hx hb dX1_refuse_23 rfl rfl ?_
      obtain ⟨h3, h⟩ := it_g h
      refine va_iald hx hb hK.1 hP 24 0 rfl rfl h3 dX1_refuse_24 ?_
      refine lv_iconst (v := (1 : Int32)) hx hb dX1_refuse_25 (by decide) ?_
      refine lv_iadd hx hb dX1_refuse_26 ?_
      obtain ⟨h4, h⟩ := it_g h
      refine va_iast hx hb hK.1 hP hD hS 24 0 rfl rfl h4 dX1_refuse_27 (fun H locs hP hD hS => ?_)
      have hP : va_P D zb_cl (zb_G cI ad g_now g_mind g_taken g_isTaken g_letters g_letterCount g_told g_toldCount (upd g_refusals ((-v1) - (1 : Int32)).toNatClampNeg ((g_refusals ((-v1) - (1 : Int32)).toNatClampNeg) + (1 : Int32))) g_costs g_gains g_seed) H := hP
      have hD : va_D A (zb_G cI ad g_now g_mind g_taken g_isTaken g_letters g_letterCount g_told g_toldCount (upd g_refusals ((-v1) - (1 : Int32)).toNatClampNeg ((g_refusals ((-v1) - (1 : Int32)).toNatClampNeg) + (1 : Int32))) g_costs g_gains g_seed) := hD
      refine lv_iload_n hx hb dX1_refuse_28 rfl (lv_at hl 2 rfl) ?_
      obtain ⟨rfl, rfl⟩ := re2 h
      exact zb_iret hx hb hr hlk hP hS dX1_refuse_29
abbrev rm_X1_letter : Room := { frames := 1, cells := 0, slots := 0, locals := 22 }
theorem hd_X1_letter : yX1_letter.cls = RX1 ∧ yX1_letter.cls ≠ "java/lang/invoke/MethodHandle" ∧ yX1_letter.cls ≠ "java/lang/invoke/VarHandle" ∧ (parseMethodDescriptor yX1_letter.desc).map (fun d => d.parameters.length) = some 1 := by decide +kernel
theorem zi_X1_letter_X1 : ∀ w ∈ wsX10, w ∈ wsX1_letter := fun _ h => List.mem_cons_of_mem _ (List.mem_append_right _ h)
theorem zk_X1_letter_0 : Cond.fieldLink RX1 42 "GroutingIsFollowed" "letterCount" "I" ∈ wsX1_letter := by decide +kernel
theorem zk_X1_letter_1 : Cond.fieldLink RX1 22 "GroutingIsFollowed" "letters" "[I" ∈ wsX1_letter := by decide +kernel
set_option maxHeartbeats 4000000 in
set_option maxRecDepth 100000 in
theorem zc_X1_letter (l : Launch) (D : va_G) (cI : ClassId) (ad : Nat → Nat) (g_now : BT) (g_mind : BT) (g_taken : BT) (g_isTaken : Int32) (g_letters : (Nat → Int32)) (g_letterCount : Int32) (g_told : (Nat → Int32)) (g_toldCount : Int32) (g_refusals : (Nat → Int32)) (g_costs : (Nat → Int32)) (g_gains : (Nat → Int32)) (g_seed : Int32) (v1 : Int32) (r0 : Int32) (w_g_letters : (Nat → Int32)) (w_g_letterCount : Int32) (w_g_refusals : (Nat → Int32)) (h : zf_X1_letter g_letters g_letterCount g_refusals v1 = some (r0, w_g_letters, w_g_letterCount, w_g_refusals)) : Cn l D cI yX1_letter wsX1_letter rm_X1_letter [.ref (ad 0), .int v1] (zb_G cI ad g_now g_mind g_taken g_isTaken g_letters g_letterCount g_told g_toldCount g_refusals g_costs g_gains g_seed) (some (.int r0)) (zb_G cI ad g_now g_mind g_taken g_isTaken w_g_letters w_g_letterCount g_told g_toldCount w_g_refusals g_costs g_gains g_seed) := by
  refine zb_ofW (cc := cX1_letter) (maxL := 2) (ret := (some .int)) (by decide) rfl (Nat.le_of_ble_eq_true rfl) ?_
  intro p e s m args below meth c A ls hx hb hr hml hts hown hlk hK hP hD hA hl
  have hS : va_S A s.heap s.heap [] := va_S.rf
  have hl : lv_has ls 2 [(0, .ref (ad 0)), (1, .int v1)] := hl
  unfold zf_X1_letter at h
  refine lv_iload_n hx hb dX1_letter_0 rfl (lv_at hl 1 rfl) ?_
  refine lv_if_ge (tgt := 11) hx hb dX1_letter_1 (by decide) (fun c1 => ?_) (fun c1 => ?_)
  · replace h := it_t c1 h
    refine lv_iload_n hx hb dX1_letter_11 rfl (lv_at hl 1 rfl) ?_
    refine lv_sipush (v := (255 : Int32)) hx hb dX1_letter_12 (by decide) ?_
    refine lv_icmp_gt (tgt := 27) hx hb dX1_letter_15 (by decide) (fun c2 => ?_) (fun c2 => ?_)
    · replace h := it_t c2 h
      refine lv_aload_n hx hb dX1_letter_27 rfl (lv_at hl 0 rfl) ?_
      refine lv_bipush (v := ((-6) : Int32)) hx hb dX1_letter_28 (by decide) ?_
      obtain ⟨r3, n4, g5, h⟩ := bo2 h
      refine zb_callV (As := [.int ((-6) : Int32)]) (rest := []) ⟨hx, hb, hml, hown, hts⟩ (zc_X1_refuse l D cI ad g_now g_mind g_taken g_isTaken g_letters g_letterCount g_told g_toldCount g_refusals g_costs g_gains g_seed ((-6) : Int32) r3 n4 g5) (cwV 1 hts gX1_letter_X1_refuse rfl rfl rfl hd_X1_refuse ⟨Nat.le_of_ble_eq_true rfl, Nat.le_of_ble_eq_true rfl⟩) hK hP hD hS hA (zb_sG) (q0 := 0) rfl rfl rfl hl.1 rfl (Nat.le_of_ble_eq_true rfl) dX1_letter_30 ⟨Nat.le_refl _, Nat.le_refl _⟩ (fun H locs hP hD hS => ?_)
      obtain ⟨rfl, rfl, rfl, rfl⟩ := re4 h
      exact zb_iret hx hb hr hlk hP hS dX1_letter_33
    · replace h := it_f c2 h
      refine lv_aload_n hx hb dX1_letter_18 rfl (lv_at hl 0 rfl) ?_
      refine va_get (D := D) (ci := 1) (v := .int g_letterCount) (C := RX1) (T := TX1) (N := 12) hx hb hts zi_X1_letter_X1 hown hK.1 hP 0 rfl rfl 5 (by decide) (hts _ zk_X1_letter_0) (fun _ h9 => h9) rfl dX1_letter_19 ?_
      refine lv_bipush (v := (96 : Int32)) hx hb dX1_letter_22 (by decide) ?_
      refine lv_icmp_lt (tgt := 34) hx hb dX1_letter_24 (by decide) (fun c6 => ?_) (fun c6 => ?_)
      · replace h := it_t c6 h
        refine lv_aload_n hx hb dX1_letter_34 rfl (lv_at hl 0 rfl) ?_
        refine va_get (D := D) (ci := 1) (v := .int g_letterCount) (C := RX1) (T := TX1) (N := 12) hx hb hts zi_X1_letter_X1 hown hK.1 hP 0 rfl rfl 5 (by decide) (hts _ zk_X1_letter_0) (fun _ h9 => h9) rfl dX1_letter_35 ?_
        refine lv_if_lt (tgt := 63) hx hb dX1_letter_38 (by decide) (fun c7 => ?_) (fun c7 => ?_)
        · replace h := it_t c7 h
          refine lv_aload_n hx hb dX1_letter_63 rfl (lv_at hl 0 rfl) ?_
          refine lv_dup hx hb dX1_letter_64 rfl ?_
          refine va_get (D := D) (ci := 1) (v := .int g_letterCount) (C := RX1) (T := TX1) (N := 12) hx hb hts zi_X1_letter_X1 hown hK.1 hP 0 rfl rfl 5 (by decide) (hts _ zk_X1_letter_0) (fun _ h9 => h9) rfl dX1_letter_65 ?_
          refine lv_iconst (v := (1 : Int32)) hx hb dX1_letter_68 (by decide) ?_
          refine lv_iadd hx hb dX1_letter_69 ?_
          refine va_put (D := D) (ci := 1) (v := .int (g_letterCount + (1 : Int32))) (ty := .int) (C := RX1) (T := TX1) (N := 12) hx hb hts zi_X1_letter_X1 tyX1 tyX1_ok nmX1 hown hK.1 hP hD hS 0 rfl rfl 5 (by decide) (hts _ zk_X1_letter_0) (fun _ h9 => h9) rfl (by decide +kernel) rfl rfl (Nat.le_of_ble_eq_true rfl) dX1_letter_70 (fun H locs hP hD hS => ?_)
          have hP : va_P D zb_cl (zb_G cI ad g_now g_mind g_taken g_isTaken g_letters (g_letterCount + (1 : Int32)) g_told g_toldCount g_refusals g_costs g_gains g_seed) H := hP
          have hD : va_D A (zb_G cI ad g_now g_mind g_taken g_isTaken g_letters (g_letterCount + (1 : Int32)) g_told g_toldCount g_refusals g_costs g_gains g_seed) := hD
          refine lv_aload_n hx hb dX1_letter_73 rfl (lv_at hl 0 rfl) ?_
          refine va_get (D := D) (ci := 1) (v := .int (g_letterCount + (1 : Int32))) (C := RX1) (T := TX1) (N := 12) hx hb hts zi_X1_letter_X1 hown hK.1 hP 0 rfl rfl 5 (by decide) (hts _ zk_X1_letter_0) (fun _ h9 => h9) rfl dX1_letter_74 ?_
          obtain ⟨rfl, rfl, rfl, rfl⟩ := re4 h
          exact zb_iret hx hb hr hlk hP hS dX1_letter_77
        · replace h := it_f c7 h
          refine lv_aload_n hx hb dX1_letter_41 rfl (lv_at hl 0 rfl) ?_
          refine va_get (D := D) (ci := 1) (v := .int g_letterCount) (C := RX1) (T := TX1) (N := 12) hx hb hts zi_X1_letter_X1 hown hK.1 hP 0 rfl rfl 5 (by decide) (hts _ zk_X1_letter_0) (fun _ h9 => h9) rfl dX1_letter_42 ?_
          refine lv_aload_n hx hb dX1_letter_45 rfl (lv_at hl 0 rfl) ?_
          refine va_get (D := D) (ci := 1) (v := .ref (ad 22)) (C := RX1) (T := TX1) (N := 12) hx hb hts zi_X1_letter_X1 hown hK.1 hP 0 rfl rfl 4 (by decide) (hts _ zk_X1_letter_1) (fun _ h9 => h9) rfl dX1_letter_46 ?_
          refine va_alen (v := (96 : Int32)) hx hb hK.1 hP 22 0 rfl rfl rfl dX1_letter_49 ?_
          refine lv_icmp_ge (tgt := 63) hx hb dX1_letter_50 (by decide) (fun c8 => ?_) (fun c8 => ?_)
          · replace h := it_t c8 h
            refine lv_aload_n hx hb dX1_letter_63 rfl (lv_at hl 0 rfl) ?_
            refine lv_dup hx hb dX1_letter_64 rfl ?_
            refine va_get (D := D) (ci := 1) (v := .int g_letterCount) (C := RX1) (T := TX1) (N := 12) hx hb hts zi_X1_letter_X1 hown hK.1 hP 0 rfl rfl 5 (by decide) (hts _ zk_X1_letter_0) (fun _ h9 => h9) rfl dX1_letter_65 ?_
            refine lv_iconst (v := (1 : Int32)) hx hb dX1_letter_68 (by decide) ?_
            refine lv_iadd hx hb dX1_letter_69 ?_
            refine va_put (D := D) (ci := 1) (v := .int (g_letterCount + (1 : Int32))) (ty := .int) (C := RX1) (T := TX1) (N := 12) hx hb hts zi_X1_letter_X1 tyX1 tyX1_ok nmX1 hown hK.1 hP hD hS 0 rfl rfl 5 (by decide) (hts _ zk_X1_letter_0) (fun _ h9 => h9) rfl (by decide +kernel) rfl rfl (Nat.le_of_ble_eq_true rfl) dX1_letter_70 (fun H locs hP hD hS => ?_)
            have hP : va_P D zb_cl (zb_G cI ad g_now g_mind g_taken g_isTaken g_letters (g_letterCount + (1 : Int32)) g_told g_toldCount g_refusals g_costs g_gains g_seed) H := hP
            have hD : va_D A (zb_G cI ad g_now g_mind g_taken g_isTaken g_letters (g_letterCount + (1 : Int32)) g_told g_toldCount g_refusals g_costs g_gains g_seed) := hD
            refine lv_aload_n hx hb dX1_letter_73 rfl (lv_at hl 0 rfl) ?_
            refine va_get (D := D) (ci := 1) (v := .int (g_letterCount + (1 : Int32))) (C := RX1) (T := TX1) (N := 12) hx hb hts zi_X1_letter_X1 hown hK.1 hP 0 rfl rfl 5 (by decide) (hts _ zk_X1_letter_0) (fun _ h9 => h9) rfl dX1_letter_74 ?_
            obtain ⟨rfl, rfl, rfl, rfl⟩ := re4 h
            exact zb_iret hx hb hr hlk hP hS dX1_letter_77
          · replace h := it_f c8 h
            refine lv_aload_n hx hb dX1_letter_53 rfl (lv_at hl 0 rfl) ?_
            refine va_get (D := D) (ci := 1) (v := .ref (ad 22)) (C := RX1) (T := TX1) (N := 12) hx hb hts zi_X1_letter_X1 hown hK.1 hP 0 rfl rfl 4 (by decide) (hts _ zk_X1_letter_1) (fun _ h9 => h9) rfl dX1_letter_54 ?_
            refine lv_aload_n hx hb dX1_letter_57 rfl (lv_at hl 0 rfl) ?_
            refine va_get (D := D) (ci := 1) (v := .int g_letterCount) (C := RX1) (T := TX1) (N := 12) hx hb hts zi_X1_letter_X1 hown hK.1 hP 0 rfl rfl 5 (by decide) (hts _ zk_X1_letter_0) (fun _ h9 => h9) rfl dX1_letter_58 ?_
            refine lv_iload_n hx hb dX1_letter_61 rfl (lv_at hl 1 rfl) ?_
            obtain ⟨h9, h⟩ := it_g h
            refine va_iast hx hb hK.1 hP hD hS 22 0 rfl rfl h9 dX1_letter_62 (fun H locs hP hD hS => ?_)
            have hP : va_P D zb_cl (zb_G cI ad g_now g_mind g_taken g_isTaken (upd g_letters g_letterCount.toNatClampNeg v1) g_letterCount g_told g_toldCount g_refusals g_costs g_gains g_seed) H := hP
            have hD : va_D A (zb_G cI ad g_now g_mind g_taken g_isTaken (upd g_letters g_letterCount.toNatClampNeg v1) g_letterCount g_told g_toldCount g_refusals g_costs g_gains g_seed) := hD
            refine lv_aload_n hx hb dX1_letter_63 rfl (lv_at hl 0 rfl) ?_
            refine lv_dup hx hb dX1_letter_64 rfl ?_
            refine va_get (D := D) (ci := 1) (v := .int g_letterCount) (C := RX1) (T := TX1) (N := 12) hx hb hts zi_X1_letter_X1 hown hK.1 hP 0 rfl rfl 5 (by decide) (hts _ zk_X1_letter_0) (fun _ h9 => h9) rfl dX1_letter_65 ?_
            refine lv_iconst (v := (1 : Int32)) hx hb dX1_letter_68 (by decide) ?_
            refine lv_iadd hx hb dX1_letter_69 ?_
            refine va_put (D := D) (ci := 1) (v := .int (g_letterCount + (1 : Int32))) (ty := .int) (C := RX1) (T := TX1) (N := 12) hx hb hts zi_X1_letter_X1 tyX1 tyX1_ok nmX1 hown hK.1 hP hD hS 0 rfl rfl 5 (by decide) (hts _ zk_X1_letter_0) (fun _ h9 => h9) rfl (by decide +kernel) rfl rfl (Nat.le_of_ble_eq_true rfl) dX1_letter_70 (fun H locs hP hD hS => ?_)
            have hP : va_P D zb_cl (zb_G cI ad g_now g_mind g_taken g_isTaken (upd g_letters g_letterCount.toNatClampNeg v1) (g_letterCount + (1 : Int32)) g_told g_toldCount g_refusals g_costs g_gains g_seed) H := hP
            have hD : va_D A (zb_G cI ad g_now g_mind g_taken g_isTaken (upd g_letters g_letterCount.toNatClampNeg v1) (g_letterCount + (1 : Int32)) g_told g_toldCount g_refusals g_costs g_gains g_seed) := hD
            refine lv_aload_n hx hb dX1_letter_73 rfl (lv_at hl 0 rfl) ?_
            refine va_get (D := D) (ci := 1) (v := .int (g_letterCount + (1 : Int32))) (C := RX1) (T := TX1) (N := 12) hx hb hts zi_X1_letter_X1 hown hK.1 hP 0 rfl rfl 5 (by decide) (hts _ zk_X1_letter_0) (fun _ h9 => h9) rfl dX1_letter_74 ?_
            obtain ⟨rfl, rfl, rfl, rfl⟩ := re4 h
            exact zb_iret hx hb hr hlk hP hS dX1_letter_77
      · replace h := it_f c6 h
        refine lv_aload_n hx hb dX1_letter_27 rfl (lv_at hl 0 rfl) ?_
        refine lv_bipush (v := ((-6) : Int32)) hx hb dX1_letter_28 (by decide) ?_
        obtain ⟨r10, n11, g12, h⟩ := bo2 h
        refine zb_callV (As := [.int ((-6) : Int32)]) (rest := []) ⟨hx, hb, hml, hown, hts⟩ (zc_X1_refuse l D cI ad g_now g_mind g_taken g_isTaken g_letters g_letterCount g_told g_toldCount g_refusals g_costs g_gains g_seed ((-6) : Int32) r10 n11 g12) (cwV 1 hts gX1_letter_X1_refuse rfl rfl rfl hd_X1_refuse ⟨Nat.le_of_ble_eq_true rfl, Nat.le_of_ble_eq_true rfl⟩) hK hP hD hS hA (zb_sG) (q0 := 0) rfl rfl rfl hl.1 rfl (Nat.le_of_ble_eq_true rfl) dX1_letter_30 ⟨Nat.le_refl _, Nat.le_refl _⟩ (fun H locs hP hD hS => ?_)
        obtain ⟨rfl, rfl, rfl, rfl⟩ := re4 h
        exact zb_iret hx hb hr hlk hP hS dX1_letter_33
  · replace h := it_f c1 h
    refine lv_aload_n hx hb dX1_letter_4 rfl (lv_at hl 0 rfl) ?_
    refine lv_bipush (v := ((-4) : Int32)) hx hb dX1_letter_5 (by decide) ?_
    obtain ⟨r13, n14, g15, h⟩ := bo2 h
    refine zb_callV (As := [.int ((-4) : Int32)]) (rest := []) ⟨hx, hb, hml, hown, hts⟩ (zc_X1_refuse l D cI ad g_now g_mind g_taken g_isTaken g_letters g_letterCount g_told g_toldCount g_refusals g_costs g_gains g_seed ((-4) : Int32) r13 n14 g15) (cwV 1 hts gX1_letter_X1_refuse rfl rfl rfl hd_X1_refuse ⟨Nat.le_of_ble_eq_true rfl, Nat.le_of_ble_eq_true rfl⟩) hK hP hD hS hA (zb_sG) (q0 := 0) rfl rfl rfl hl.1 rfl (Nat.le_of_ble_eq_true rfl) dX1_letter_7 ⟨Nat.le_refl _, Nat.le_refl _⟩ (fun H locs hP hD hS => ?_)
    obtain ⟨rfl, rfl, rfl, rfl⟩ := re4 h
    exact zb_iret hx hb hr hlk hP hS dX1_letter_10
abbrev rm_X1_node : Room := { frames := 2, cells := 0, slots := 0, locals := 41 }
theorem hd_X1_node : yX1_node.cls = RX1 ∧ yX1_node.cls ≠ "java/lang/invoke/MethodHandle" ∧ yX1_node.cls ≠ "java/lang/invoke/VarHandle" ∧ (parseMethodDescriptor yX1_node.desc).map (fun d => d.parameters.length) = some 2 := by decide +kernel
theorem zi_X1_node_X1 : ∀ w ∈ wsX10, w ∈ wsX1_node := fun _ h => List.mem_cons_of_mem _ (List.mem_append_left _ (List.mem_append_right _ h))
theorem zk_X1_node_0 : Cond.fieldLink RX1 10 "GroutingIsFollowed" "now" "LGroutingIsFollowed$Bath;" ∈ wsX1_node := by decide +kernel
set_option maxHeartbeats 4000000 in
set_option maxRecDepth 100000 in
theorem zc_X1_node (l : Launch) (D : va_G) (cI : ClassId) (ad : Nat → Nat) (g_now : BT) (g_mind : BT) (g_taken : BT) (g_isTaken : Int32) (g_letters : (Nat → Int32)) (g_letterCount : Int32) (g_told : (Nat → Int32)) (g_toldCount : Int32) (g_refusals : (Nat → Int32)) (g_costs : (Nat → Int32)) (g_gains : (Nat → Int32)) (g_seed : Int32) (v1 : Int32) (v2 : Int32) (r0 : Int32) (w_g_refusals : (Nat → Int32)) (h : zf_X1_node g_now g_refusals v1 v2 = some (r0, w_g_refusals)) : Cn l D cI yX1_node wsX1_node rm_X1_node [.ref (ad 0), .int v1, .int v2] (zb_G cI ad g_now g_mind g_taken g_isTaken g_letters g_letterCount g_told g_toldCount g_refusals g_costs g_gains g_seed) (some (.int r0)) (zb_G cI ad g_now g_mind g_taken g_isTaken g_letters g_letterCount g_told g_toldCount w_g_refusals g_costs g_gains g_seed) := by
  refine zb_ofW (cc := cX1_node) (maxL := 3) (ret := (some .int)) (by decide) rfl (Nat.le_of_ble_eq_true rfl) ?_
  intro p e s m args below meth c A ls hx hb hr hml hts hown hlk hK hP hD hA hl
  have hS : va_S A s.heap s.heap [] := va_S.rf
  have hl : lv_has ls 3 [(0, .ref (ad 0)), (1, .int v1), (2, .int v2)] := hl
  unfold zf_X1_node at h
  refine lv_iload_n hx hb dX1_node_0 rfl (lv_at hl 1 rfl) ?_
  obtain ⟨r1, g2, h⟩ := bo1 h
  refine zb_callS (As := [.int v1]) (rest := []) ⟨hx, hb, hml, hown, hts⟩ (zc_X1_isNode l D cI v1 r1 g2) (va_cwS 1 hts gX1_node_X1_isNode rfl rfl rfl hd_X1_isNode.2 ⟨Nat.le_of_ble_eq_true rfl, Nat.le_of_ble_eq_true rfl⟩) hK hP hD hS hA (zb_none _) rfl hl.1 rfl (Nat.le_of_ble_eq_true rfl) dX1_node_1 ⟨Nat.le_refl _, Nat.le_refl _⟩ (fun H locs hP hD hS => ?_)
  refine lv_if_ne (tgt := 13) hx hb dX1_node_4 (by decide) (fun c3 => ?_) (fun c3 => ?_)
  · replace h := it_f c3 h
    refine lv_iload_n hx hb dX1_node_13 rfl (lv_at hl 2 rfl) ?_
    refine lv_if_ne (tgt := 26) hx hb dX1_node_14 (by decide) (fun c4 => ?_) (fun c4 => ?_)
    · replace h := it_f c4 h
      refine lv_iload_n hx hb dX1_node_26 rfl (lv_at hl 2 rfl) ?_
      refine lv_iconst (v := (1 : Int32)) hx hb dX1_node_27 (by decide) ?_
      refine lv_icmp_ne (tgt := 40) hx hb dX1_node_28 (by decide) (fun c5 => ?_) (fun c5 => ?_)
      · replace h := it_f c5 h
        refine lv_iload_n hx hb dX1_node_40 rfl (lv_at hl 2 rfl) ?_
        refine lv_iconst (v := (2 : Int32)) hx hb dX1_node_41 (by decide) ?_
        refine lv_icmp_ne (tgt := 54) hx hb dX1_node_42 (by decide) (fun c6 => ?_) (fun c6 => ?_)
        · replace h := it_f c6 h
          refine lv_aload_n hx hb dX1_node_54 rfl (lv_at hl 0 rfl) ?_
          refine lv_bipush (v := ((-2) : Int32)) hx hb dX1_node_55 (by decide) ?_
          obtain ⟨r7, n8, g9, h⟩ := bo2 h
          refine zb_callV (As := [.int ((-2) : Int32)]) (rest := []) ⟨hx, hb, hml, hown, hts⟩ (zc_X1_refuse l D cI ad g_now g_mind g_taken g_isTaken g_letters g_letterCount g_told g_toldCount g_refusals g_costs g_gains g_seed ((-2) : Int32) r7 n8 g9) (cwV 1 hts gX1_node_X1_refuse rfl rfl rfl hd_X1_refuse ⟨Nat.le_of_ble_eq_true rfl, Nat.le_of_ble_eq_true rfl⟩) hK hP hD hS hA (zb_sG) (q0 := 0) rfl rfl rfl hl.1 rfl (Nat.le_of_ble_eq_true rfl) dX1_node_57 ⟨Nat.le_refl _, Nat.le_refl _⟩ (fun H locs hP hD hS => ?_)
          obtain ⟨rfl, rfl⟩ := re2 h
          exact zb_iret hx hb hr hlk hP hS dX1_node_60
        · replace h := it_t c6 h
          refine lv_aload_n hx hb dX1_node_45 rfl (lv_at hl 0 rfl) ?_
          refine va_get (D := D) (ci := 1) (v := .ref (ad 1)) (C := RX1) (T := TX1) (N := 12) hx hb hts zi_X1_node_X1 hown hK.1 hP 0 rfl rfl 0 (by decide) (hts _ zk_X1_node_0) (fun _ h9 => h9) rfl dX1_node_46 ?_
          refine lv_iload_n hx hb dX1_node_49 rfl (lv_at hl 1 rfl) ?_
          obtain ⟨r10, g11, h⟩ := bo1 h
          refine zb_callV (As := [.int v1]) (rest := []) ⟨hx, hb, hml, hown, hts⟩ (zc_X0_wetOf l D cI (ad 1) (ad 2) (ad 3) (ad 4) (ad 5) (ad 6) (ad 7) g_now v1 r10 g11) (cwV 1 hts gX1_node_X0_wetOf rfl rfl rfl hd_X0_wetOf ⟨Nat.le_of_ble_eq_true rfl, Nat.le_of_ble_eq_true rfl⟩) hK hP hD hS hA (zb_cGn) (q0 := 0) rfl rfl rfl hl.1 rfl (Nat.le_of_ble_eq_true rfl) dX1_node_50 ⟨Nat.le_refl _, Nat.le_refl _⟩ (fun H locs hP hD hS => ?_)
          obtain ⟨rfl, rfl⟩ := re2 h
          exact zb_iret hx hb hr hlk hP hS dX1_node_53
      · replace h := it_t c5 h
        refine lv_aload_n hx hb dX1_node_31 rfl (lv_at hl 0 rfl) ?_
        refine va_get (D := D) (ci := 1) (v := .ref (ad 1)) (C := RX1) (T := TX1) (N := 12) hx hb hts zi_X1_node_X1 hown hK.1 hP 0 rfl rfl 0 (by decide) (hts _ zk_X1_node_0) (fun _ h9 => h9) rfl dX1_node_32 ?_
        refine lv_iload_n hx hb dX1_node_35 rfl (lv_at hl 1 rfl) ?_
        obtain ⟨r12, g13, h⟩ := bo1 h
        refine zb_callV (As := [.int v1]) (rest := []) ⟨hx, hb, hml, hown, hts⟩ (zc_X0_figureOf l D cI (ad 1) (ad 2) (ad 3) (ad 4) (ad 5) (ad 6) (ad 7) g_now v1 r12 g13) (cwV 1 hts gX1_node_X0_figureOf rfl rfl rfl hd_X0_figureOf ⟨Nat.le_of_ble_eq_true rfl, Nat.le_of_ble_eq_true rfl⟩) hK hP hD hS hA (zb_cGn) (q0 := 0) rfl rfl rfl hl.1 rfl (Nat.le_of_ble_eq_true rfl) dX1_node_36 ⟨Nat.le_refl _, Nat.le_refl _⟩ (fun H locs hP hD hS => ?_)
        obtain ⟨rfl, rfl⟩ := re2 h
        exact zb_iret hx hb hr hlk hP hS dX1_node_39
    · replace h := it_t c4 h
      refine lv_aload_n hx hb dX1_node_17 rfl (lv_at hl 0 rfl) ?_
      refine va_get (D := D) (ci := 1) (v := .ref (ad 1)) (C := RX1) (T := TX1) (N := 12) hx hb hts zi_X1_node_X1 hown hK.1 hP 0 rfl rfl 0 (by decide) (hts _ zk_X1_node_0) (fun _ h9 => h9) rfl dX1_node_18 ?_
      refine lv_iload_n hx hb dX1_node_21 rfl (lv_at hl 1 rfl) ?_
      obtain ⟨r14, g15, h⟩ := bo1 h
      refine zb_callV (As := [.int v1]) (rest := []) ⟨hx, hb, hml, hown, hts⟩ (zc_X0_kindOf l D cI (ad 1) (ad 2) (ad 3) (ad 4) (ad 5) (ad 6) (ad 7) g_now v1 r14 g15) (cwV 1 hts gX1_node_X0_kindOf rfl rfl rfl hd_X0_kindOf ⟨Nat.le_of_ble_eq_true rfl, Nat.le_of_ble_eq_true rfl⟩) hK hP hD hS hA (zb_cGn) (q0 := 0) rfl rfl rfl hl.1 rfl (Nat.le_of_ble_eq_true rfl) dX1_node_22 ⟨Nat.le_refl _, Nat.le_refl _⟩ (fun H locs hP hD hS => ?_)
      obtain ⟨rfl, rfl⟩ := re2 h
      exact zb_iret hx hb hr hlk hP hS dX1_node_25
  · replace h := it_t c3 h
    refine lv_aload_n hx hb dX1_node_7 rfl (lv_at hl 0 rfl) ?_
    refine lv_iconst (v := ((-1) : Int32)) hx hb dX1_node_8 (by decide) ?_
    obtain ⟨r16, n17, g18, h⟩ := bo2 h
    refine zb_callV (As := [.int ((-1) : Int32)]) (rest := []) ⟨hx, hb, hml, hown, hts⟩ (zc_X1_refuse l D cI ad g_now g_mind g_taken g_isTaken g_letters g_letterCount g_told g_toldCount g_refusals g_costs g_gains g_seed ((-1) : Int32) r16 n17 g18) (cwV 1 hts gX1_node_X1_refuse rfl rfl rfl hd_X1_refuse ⟨Nat.le_of_ble_eq_true rfl, Nat.le_of_ble_eq_true rfl⟩) hK hP hD hS hA (zb_sG) (q0 := 0) rfl rfl rfl hl.1 rfl (Nat.le_of_ble_eq_true rfl) dX1_node_9 ⟨Nat.le_refl _, Nat.le_refl _⟩ (fun H locs hP hD hS => ?_)
    obtain ⟨rfl, rfl⟩ := re2 h
    exact zb_iret hx hb hr hlk hP hS dX1_node_12
abbrev rm_X1_person : Room := { frames := 3, cells := 0, slots := 0, locals := 64 }
theorem hd_X1_person : yX1_person.cls = RX1 ∧ yX1_person.cls ≠ "java/lang/invoke/MethodHandle" ∧ yX1_person.cls ≠ "java/lang/invoke/VarHandle" ∧ (parseMethodDescriptor yX1_person.desc).map (fun d => d.parameters.length) = some 2 := by decide +kernel
theorem zi_X1_person_X1 : ∀ w ∈ wsX10, w ∈ wsX1_person := fun _ h => List.mem_cons_of_mem _ (List.mem_append_left _ (List.mem_append_right _ h))
theorem zk_X1_person_0 : Cond.fieldLink RX1 10 "GroutingIsFollowed" "now" "LGroutingIsFollowed$Bath;" ∈ wsX1_person := by decide +kernel
set_option maxHeartbeats 4000000 in
set_option maxRecDepth 100000 in
theorem zc_X1_person (l : Launch) (D : va_G) (cI : ClassId) (ad : Nat → Nat) (g_now : BT) (g_mind : BT) (g_taken : BT) (g_isTaken : Int32) (g_letters : (Nat → Int32)) (g_letterCount : Int32) (g_told : (Nat → Int32)) (g_toldCount : Int32) (g_refusals : (Nat → Int32)) (g_costs : (Nat → Int32)) (g_gains : (Nat → Int32)) (g_seed : Int32) (v1 : Int32) (v2 : Int32) (r0 : Int32) (w_g_refusals : (Nat → Int32)) (h : zf_X1_person g_now g_refusals v1 v2 = some (r0, w_g_refusals)) : Cn l D cI yX1_person wsX1_person rm_X1_person [.ref (ad 0), .int v1, .int v2] (zb_G cI ad g_now g_mind g_taken g_isTaken g_letters g_letterCount g_told g_toldCount g_refusals g_costs g_gains g_seed) (some (.int r0)) (zb_G cI ad g_now g_mind g_taken g_isTaken g_letters g_letterCount g_told g_toldCount w_g_refusals g_costs g_gains g_seed) := by
  refine zb_ofW (cc := cX1_person) (maxL := 3) (ret := (some .int)) (by decide) rfl (Nat.le_of_ble_eq_true rfl) ?_
  intro p e s m args below meth c A ls hx hb hr hml hts hown hlk hK hP hD hA hl
  have hS : va_S A s.heap s.heap [] := va_S.rf
  have hl : lv_has ls 3 [(0, .ref (ad 0)), (1, .int v1), (2, .int v2)] := hl
  unfold zf_X1_person at h
  refine lv_aload_n hx hb dX1_person_0 rfl (lv_at hl 0 rfl) ?_
  refine va_get (D := D) (ci := 1) (v := .ref (ad 1)) (C := RX1) (T := TX1) (N := 12) hx hb hts zi_X1_person_X1 hown hK.1 hP 0 rfl rfl 0 (by decide) (hts _ zk_X1_person_0) (fun _ h9 => h9) rfl dX1_person_1 ?_
  refine lv_iload_n hx hb dX1_person_4 rfl (lv_at hl 1 rfl) ?_
  obtain ⟨r1, g2, h⟩ := bo1 h
  refine zb_callV (As := [.int v1]) (rest := []) ⟨hx, hb, hml, hown, hts⟩ (zc_X0_has l D cI (ad 1) (ad 2) (ad 3) (ad 4) (ad 5) (ad 6) (ad 7) g_now v1 r1 g2) (cwV 1 hts gX1_person_X0_has rfl rfl rfl hd_X0_has ⟨Nat.le_of_ble_eq_true rfl, Nat.le_of_ble_eq_true rfl⟩) hK hP hD hS hA (zb_cGn) (q0 := 0) rfl rfl rfl hl.1 rfl (Nat.le_of_ble_eq_true rfl) dX1_person_5 ⟨Nat.le_refl _, Nat.le_refl _⟩ (fun H locs hP hD hS => ?_)
  refine lv_if_ne (tgt := 17) hx hb dX1_person_8 (by decide) (fun c3 => ?_) (fun c3 => ?_)
  · replace h := it_f c3 h
    refine lv_iload_n hx hb dX1_person_17 rfl (lv_at hl 2 rfl) ?_
    refine lv_if_lt (tgt := 26) hx hb dX1_person_18 (by decide) (fun c4 => ?_) (fun c4 => ?_)
    · replace h := it_t c4 h
      refine lv_aload_n hx hb dX1_person_26 rfl (lv_at hl 0 rfl) ?_
      refine lv_bipush (v := ((-2) : Int32)) hx hb dX1_person_27 (by decide) ?_
      obtain ⟨r5, n6, g7, h⟩ := bo2 h
      refine zb_callV (As := [.int ((-2) : Int32)]) (rest := []) ⟨hx, hb, hml, hown, hts⟩ (zc_X1_refuse l D cI ad g_now g_mind g_taken g_isTaken g_letters g_letterCount g_told g_toldCount g_refusals g_costs g_gains g_seed ((-2) : Int32) r5 n6 g7) (cwV 1 hts gX1_person_X1_refuse rfl rfl rfl hd_X1_refuse ⟨Nat.le_of_ble_eq_true rfl, Nat.le_of_ble_eq_true rfl⟩) hK hP hD hS hA (zb_sG) (q0 := 0) rfl rfl rfl hl.1 rfl (Nat.le_of_ble_eq_true rfl) dX1_person_29 ⟨Nat.le_refl _, Nat.le_refl _⟩ (fun H locs hP hD hS => ?_)
      obtain ⟨rfl, rfl⟩ := re2 h
      exact zb_iret hx hb hr hlk hP hS dX1_person_32
    · replace h := it_f c4 h
      refine lv_iload_n hx hb dX1_person_21 rfl (lv_at hl 2 rfl) ?_
      refine lv_iconst (v := (3 : Int32)) hx hb dX1_person_22 (by decide) ?_
      refine lv_icmp_le (tgt := 33) hx hb dX1_person_23 (by decide) (fun c8 => ?_) (fun c8 => ?_)
      · replace h := it_t c8 h
        refine lv_iload_n hx hb dX1_person_33 rfl (lv_at hl 2 rfl) ?_
        refine lv_iconst (v := (3 : Int32)) hx hb dX1_person_34 (by decide) ?_
        refine lv_icmp_ne (tgt := 49) hx hb dX1_person_35 (by decide) (fun c9 => ?_) (fun c9 => ?_)
        · replace h := it_f c9 h
          refine lv_aload_n hx hb dX1_person_49 rfl (lv_at hl 0 rfl) ?_
          refine va_get (D := D) (ci := 1) (v := .ref (ad 1)) (C := RX1) (T := TX1) (N := 12) hx hb hts zi_X1_person_X1 hown hK.1 hP 0 rfl rfl 0 (by decide) (hts _ zk_X1_person_0) (fun _ h9 => h9) rfl dX1_person_50 ?_
          refine lv_iload_n hx hb dX1_person_53 rfl (lv_at hl 1 rfl) ?_
          refine lv_iload_n hx hb dX1_person_54 rfl (lv_at hl 2 rfl) ?_
          obtain ⟨r10, g11, h⟩ := bo1 h
          refine zb_callV (As := [.int v1, .int v2]) (rest := []) ⟨hx, hb, hml, hown, hts⟩ (zc_X0_ofPerson l D cI (ad 1) (ad 2) (ad 3) (ad 4) (ad 5) (ad 6) (ad 7) g_now v1 v2 r10 g11) (cwV 2 hts gX1_person_X0_ofPerson rfl rfl rfl hd_X0_ofPerson ⟨Nat.le_of_ble_eq_true rfl, Nat.le_of_ble_eq_true rfl⟩) hK hP hD hS hA (zb_cGn) (q0 := 0) rfl rfl rfl hl.1 rfl (Nat.le_of_ble_eq_true rfl) dX1_person_55 ⟨Nat.le_refl _, Nat.le_refl _⟩ (fun H locs hP hD hS => ?_)
          obtain ⟨rfl, rfl⟩ := re2 h
          exact zb_iret hx hb hr hlk hP hS dX1_person_58
        · replace h := it_t c9 h
          refine lv_aload_n hx hb dX1_person_38 rfl (lv_at hl 0 rfl) ?_
          refine va_get (D := D) (ci := 1) (v := .ref (ad 1)) (C := RX1) (T := TX1) (N := 12) hx hb hts zi_X1_person_X1 hown hK.1 hP 0 rfl rfl 0 (by decide) (hts _ zk_X1_person_0) (fun _ h9 => h9) rfl dX1_person_39 ?_
          refine lv_iload_n hx hb dX1_person_42 rfl (lv_at hl 1 rfl) ?_
          obtain ⟨r12, g13, h⟩ := bo1 h
          refine zb_callV (As := [.int v1]) (rest := []) ⟨hx, hb, hml, hown, hts⟩ (zc_X0_wayNext l D cI (ad 1) (ad 2) (ad 3) (ad 4) (ad 5) (ad 6) (ad 7) g_now v1 r12 g13) (cwV 1 hts gX1_person_X0_wayNext rfl rfl rfl hd_X0_wayNext ⟨Nat.le_of_ble_eq_true rfl, Nat.le_of_ble_eq_true rfl⟩) hK hP hD hS hA (zb_cGn) (q0 := 0) rfl rfl rfl hl.1 rfl (Nat.le_of_ble_eq_true rfl) dX1_person_43 ⟨Nat.le_refl _, Nat.le_refl _⟩ (fun H locs hP hD hS => ?_)
          refine lv_goto (tgt := 58) hx hb dX1_person_46 (by decide) ?_
          obtain ⟨rfl, rfl⟩ := re2 h
          exact zb_iret hx hb hr hlk hP hS dX1_person_58
      · replace h := it_f c8 h
        refine lv_aload_n hx hb dX1_person_26 rfl (lv_at hl 0 rfl) ?_
        refine lv_bipush (v := ((-2) : Int32)) hx hb dX1_person_27 (by decide) ?_
        obtain ⟨r14, n15, g16, h⟩ := bo2 h
        refine zb_callV (As := [.int ((-2) : Int32)]) (rest := []) ⟨hx, hb, hml, hown, hts⟩ (zc_X1_refuse l D cI ad g_now g_mind g_taken g_isTaken g_letters g_letterCount g_told g_toldCount g_refusals g_costs g_gains g_seed ((-2) : Int32) r14 n15 g16) (cwV 1 hts gX1_person_X1_refuse rfl rfl rfl hd_X1_refuse ⟨Nat.le_of_ble_eq_true rfl, Nat.le_of_ble_eq_true rfl⟩) hK hP hD hS hA (zb_sG) (q0 := 0) rfl rfl rfl hl.1 rfl (Nat.le_of_ble_eq_true rfl) dX1_person_29 ⟨Nat.le_refl _, Nat.le_refl _⟩ (fun H locs hP hD hS => ?_)
        obtain ⟨rfl, rfl⟩ := re2 h
        exact zb_iret hx hb hr hlk hP hS dX1_person_32
  · replace h := it_t c3 h
    refine lv_aload_n hx hb dX1_person_11 rfl (lv_at hl 0 rfl) ?_
    refine lv_iconst (v := ((-1) : Int32)) hx hb dX1_person_12 (by decide) ?_
    obtain ⟨r17, n18, g19, h⟩ := bo2 h
    refine zb_callV (As := [.int ((-1) : Int32)]) (rest := []) ⟨hx, hb, hml, hown, hts⟩ (zc_X1_refuse l D cI ad g_now g_mind g_taken g_isTaken g_letters g_letterCount g_told g_toldCount g_refusals g_costs g_gains g_seed ((-1) : Int32) r17 n18 g19) (cwV 1 hts gX1_person_X1_refuse rfl rfl rfl hd_X1_refuse ⟨Nat.le_of_ble_eq_true rfl, Nat.le_of_ble_eq_true rfl⟩) hK hP hD hS hA (zb_sG) (q0 := 0) rfl rfl rfl hl.1 rfl (Nat.le_of_ble_eq_true rfl) dX1_person_13 ⟨Nat.le_refl _, Nat.le_refl _⟩ (fun H locs hP hD hS => ?_)
    obtain ⟨rfl, rfl⟩ := re2 h
    exact zb_iret hx hb hr hlk hP hS dX1_person_16
abbrev rm_X1_isKind : Room := { frames := 0, cells := 0, slots := 0, locals := 0 }
theorem hd_X1_isKind : yX1_isKind.cls = RX1 ∧ yX1_isKind.cls ≠ "java/lang/invoke/MethodHandle" ∧ yX1_isKind.cls ≠ "java/lang/invoke/VarHandle" ∧ (parseMethodDescriptor yX1_isKind.desc).map (fun d => d.parameters.length) = some 1 := by decide +kernel
set_option maxHeartbeats 4000000 in
set_option maxRecDepth 100000 in
theorem zc_X1_isKind (l : Launch) (D : va_G) (cI : ClassId)  (v0 : Int32) (r0 : Int32) (h : zf_X1_isKind v0 = some r0) : Cn l D cI yX1_isKind wsX1_isKind rm_X1_isKind [.int v0] ([]) (some (.int r0)) ([]) := by
  refine zb_ofW (cc := cX1_isKind) (maxL := 1) (ret := (some .boolean)) (by decide) rfl (Nat.le_of_ble_eq_true rfl) ?_
  intro p e s m args below meth c A ls hx hb hr hml hts hown hlk hK hP hD hA hl
  have hS : va_S A s.heap s.heap [] := va_S.rf
  have hl : lv_has ls 1 [(0, .int v0)] := hl
  unfold zf_X1_isKind at h
  refine lv_iload_n hx hb dX1_isKind_0 rfl (lv_at hl 0 rfl) ?_
  refine lv_if_lt (tgt := 14) hx hb dX1_isKind_1 (by decide) (fun c1 => ?_) (fun c1 => ?_)
  · replace h := it_t c1 h
    refine lv_iconst (v := (0 : Int32)) hx hb dX1_isKind_14 (by decide) ?_
    obtain rfl := re1 h
    exact zb_zret hx hb hr hlk rfl hP hS dX1_isKind_15
  · replace h := it_f c1 h
    refine lv_iload_n hx hb dX1_isKind_4 rfl (lv_at hl 0 rfl) ?_
    refine lv_bipush (v := (6 : Int32)) hx hb dX1_isKind_5 (by decide) ?_
    refine lv_icmp_ge (tgt := 14) hx hb dX1_isKind_7 (by decide) (fun c2 => ?_) (fun c2 => ?_)
    · replace h := it_t c2 h
      refine lv_iconst (v := (0 : Int32)) hx hb dX1_isKind_14 (by decide) ?_
      obtain rfl := re1 h
      exact zb_zret hx hb hr hlk rfl hP hS dX1_isKind_15
    · replace h := it_f c2 h
      refine lv_iconst (v := (1 : Int32)) hx hb dX1_isKind_10 (by decide) ?_
      refine lv_goto (tgt := 15) hx hb dX1_isKind_11 (by decide) ?_
      obtain rfl := re1 h
      exact zb_zret hx hb hr hlk rfl hP hS dX1_isKind_15
abbrev rm_X1_outside : Room := { frames := 0, cells := 0, slots := 0, locals := 0 }
theorem hd_X1_outside : yX1_outside.cls = RX1 ∧ yX1_outside.cls ≠ "java/lang/invoke/MethodHandle" ∧ yX1_outside.cls ≠ "java/lang/invoke/VarHandle" ∧ (parseMethodDescriptor yX1_outside.desc).map (fun d => d.parameters.length) = some 3 := by decide +kernel
set_option maxHeartbeats 4000000 in
set_option maxRecDepth 100000 in
theorem zc_X1_outside (l : Launch) (D : va_G) (cI : ClassId)  (v0 : Int32) (v1 : Int32) (v2 : Int32) (r0 : Int32) (h : zf_X1_outside v0 v1 v2 = some r0) : Cn l D cI yX1_outside wsX1_outside rm_X1_outside [.int v0, .int v1, .int v2] ([]) (some (.int r0)) ([]) := by
  refine zb_ofW (cc := cX1_outside) (maxL := 3) (ret := (some .int)) (by decide) rfl (Nat.le_of_ble_eq_true rfl) ?_
  intro p e s m args below meth c A ls hx hb hr hml hts hown hlk hK hP hD hA hl
  have hS : va_S A s.heap s.heap [] := va_S.rf
  have hl : lv_has ls 3 [(0, .int v0), (1, .int v1), (2, .int v2)] := hl
  unfold zf_X1_outside at h
  refine lv_iload_n hx hb dX1_outside_0 rfl (lv_at hl 0 rfl) ?_
  refine lv_iload_n hx hb dX1_outside_1 rfl (lv_at hl 1 rfl) ?_
  refine lv_icmp_ge (tgt := 8) hx hb dX1_outside_2 (by decide) (fun c1 => ?_) (fun c1 => ?_)
  · replace h := it_t c1 h
    refine lv_iload_n hx hb dX1_outside_8 rfl (lv_at hl 0 rfl) ?_
    refine lv_iload_n hx hb dX1_outside_9 rfl (lv_at hl 2 rfl) ?_
    refine lv_icmp_le (tgt := 18) hx hb dX1_outside_10 (by decide) (fun c2 => ?_) (fun c2 => ?_)
    · replace h := it_t c2 h
      refine lv_iconst (v := (0 : Int32)) hx hb dX1_outside_18 (by decide) ?_
      obtain rfl := re1 h
      exact zb_iret hx hb hr hlk hP hS dX1_outside_19
    · replace h := it_f c2 h
      refine lv_bipush (v := ((-6) : Int32)) hx hb dX1_outside_13 (by decide) ?_
      refine lv_goto (tgt := 19) hx hb dX1_outside_15 (by decide) ?_
      obtain rfl := re1 h
      exact zb_iret hx hb hr hlk hP hS dX1_outside_19
  · replace h := it_f c1 h
    refine lv_bipush (v := ((-4) : Int32)) hx hb dX1_outside_5 (by decide) ?_
    obtain rfl := re1 h
    exact zb_iret hx hb hr hlk hP hS dX1_outside_7
abbrev rm_X1_lays : Room := { frames := 2, cells := 0, slots := 0, locals := 42 }
theorem hd_X1_lays : yX1_lays.cls = RX1 ∧ yX1_lays.cls ≠ "java/lang/invoke/MethodHandle" ∧ yX1_lays.cls ≠ "java/lang/invoke/VarHandle" ∧ (parseMethodDescriptor yX1_lays.desc).map (fun d => d.parameters.length) = some 3 := by decide +kernel
theorem zi_X1_lays_X1 : ∀ w ∈ wsX10, w ∈ wsX1_lays := fun _ h => List.mem_cons_of_mem _ (List.mem_append_left _ (List.mem_append_right _ h))
theorem zk_X1_lays_0 : Cond.fieldLink RX1 10 "GroutingIsFollowed" "now" "LGroutingIsFollowed$Bath;" ∈ wsX1_lays := by decide +kernel
set_option maxHeartbeats 4000000 in
set_option maxRecDepth 100000 in
theorem zc_X1_lays (l : Launch) (D : va_G) (cI : ClassId) (ad : Nat → Nat) (g_now : BT) (g_mind : BT) (g_taken : BT) (g_isTaken : Int32) (g_letters : (Nat → Int32)) (g_letterCount : Int32) (g_told : (Nat → Int32)) (g_toldCount : Int32) (g_refusals : (Nat → Int32)) (g_costs : (Nat → Int32)) (g_gains : (Nat → Int32)) (g_seed : Int32) (v1 : Int32) (v2 : Int32) (v3 : Int32) (r0 : Int32) (w_g_now : BT) (w_g_refusals : (Nat → Int32)) (h : zf_X1_lays g_now g_refusals v1 v2 v3 = some (r0, w_g_now, w_g_refusals)) : Cn l D cI yX1_lays wsX1_lays rm_X1_lays [.ref (ad 0), .int v1, .int v2, .int v3] (zb_G cI ad g_now g_mind g_taken g_isTaken g_letters g_letterCount g_told g_toldCount g_refusals g_costs g_gains g_seed) (some (.int r0)) (zb_G cI ad w_g_now g_mind g_taken g_isTaken g_letters g_letterCount g_told g_toldCount w_g_refusals g_costs g_gains g_seed) := by
  refine zb_ofW (cc := cX1_lays) (maxL := 6) (ret := (some .int)) (by decide) rfl (Nat.le_of_ble_eq_true rfl) ?_
  intro p e s m args below meth c A ls hx hb hr hml hts hown hlk hK hP hD hA hl
  have hS : va_S A s.heap s.heap [] := va_S.rf
  have hl : lv_has ls 6 [(0, .ref (ad 0)), (1, .int v1), (2, .int v2), (3, .int v3)] := hl
  unfold zf_X1_lays at h
  refine lv_iload_n hx hb dX1_lays_0 rfl (lv_at hl 1 rfl) ?_
  obtain ⟨r1, g2, h⟩ := bo1 h
  refine zb_callS (As := [.int v1]) (rest := []) ⟨hx, hb, hml, hown, hts⟩ (zc_X1_isNode l D cI v1 r1 g2) (va_cwS 1 hts gX1_lays_X1_isNode rfl rfl rfl hd_X1_isNode.2 ⟨Nat.le_of_ble_eq_true rfl, Nat.le_of_ble_eq_true rfl⟩) hK hP hD hS hA (zb_none _) rfl hl.1 rfl (Nat.le_of_ble_eq_true rfl) dX1_lays_1 ⟨Nat.le_refl _, Nat.le_refl _⟩ (fun H locs hP hD hS => ?_)
  refine lv_if_ne (tgt := 13) hx hb dX1_lays_4 (by decide) (fun c3 => ?_) (fun c3 => ?_)
  · replace h := it_f c3 h
    refine lv_iload_n hx hb dX1_lays_13 rfl (lv_at hl 2 rfl) ?_
    obtain ⟨r4, g5, h⟩ := bo1 h
    refine zb_callS (As := [.int v2]) (rest := []) ⟨hx, hb, hml, hown, hts⟩ (zc_X1_isKind l D cI v2 r4 g5) (va_cwS 1 hts gX1_lays_X1_isKind rfl rfl rfl hd_X1_isKind.2 ⟨Nat.le_of_ble_eq_true rfl, Nat.le_of_ble_eq_true rfl⟩) hK hP hD hS hA (zb_none _) rfl hl.1 rfl (Nat.le_of_ble_eq_true rfl) dX1_lays_14 ⟨Nat.le_refl _, Nat.le_refl _⟩ (fun H locs hP hD hS => ?_)
    refine lv_if_ne (tgt := 27) hx hb dX1_lays_17 (by decide) (fun c6 => ?_) (fun c6 => ?_)
    · replace h := it_f c6 h
      refine lv_iload_n hx hb dX1_lays_27 rfl (lv_at hl 3 rfl) ?_
      refine lv_iconst (v := (0 : Int32)) hx hb dX1_lays_28 (by decide) ?_
      refine lv_bipush (v := (9 : Int32)) hx hb dX1_lays_29 (by decide) ?_
      obtain ⟨r7, g8, h⟩ := bo1 h
      refine zb_callS (As := [.int v3, .int (0 : Int32), .int (9 : Int32)]) (rest := []) ⟨hx, hb, hml, hown, hts⟩ (zc_X1_outside l D cI v3 (0 : Int32) (9 : Int32) r7 g8) (va_cwS 3 hts gX1_lays_X1_outside rfl rfl rfl hd_X1_outside.2 ⟨Nat.le_of_ble_eq_true rfl, Nat.le_of_ble_eq_true rfl⟩) hK hP hD hS hA (zb_none _) rfl hl.1 rfl (Nat.le_of_ble_eq_true rfl) dX1_lays_31 ⟨Nat.le_refl _, Nat.le_refl _⟩ (fun H locs hP hD hS => ?_)
      refine lv_istore (lv' := [(4, .int r7), (0, .ref (ad 0)), (1, .int v1), (2, .int v2), (3, .int v3)]) hx hb dX1_lays_34 hl (by decide) rfl (fun ls hl => ?_)
      refine lv_iload hx hb dX1_lays_36 (lv_at hl 0 rfl) ?_
      refine lv_if_eq (tgt := 48) hx hb dX1_lays_38 (by decide) (fun c9 => ?_) (fun c9 => ?_)
      · replace h := it_t c9 h
        refine lv_bipush (v := (10 : Int32)) hx hb dX1_lays_48 (by decide) ?_
        refine lv_aload_n hx hb dX1_lays_50 rfl (lv_at hl 1 rfl) ?_
        refine va_get (D := D) (ci := 1) (v := .ref (ad 1)) (C := RX1) (T := TX1) (N := 12) hx hb hts zi_X1_lays_X1 hown hK.1 hP 0 rfl rfl 0 (by decide) (hts _ zk_X1_lays_0) (fun _ h9 => h9) rfl dX1_lays_51 ?_
        refine lv_iload_n hx hb dX1_lays_54 rfl (lv_at hl 2 rfl) ?_
        obtain ⟨r10, g11, h⟩ := bo1 h
        refine zb_callV (As := [.int v1]) (rest := [.int (10 : Int32)]) ⟨hx, hb, hml, hown, hts⟩ (zc_X0_kindOf l D cI (ad 1) (ad 2) (ad 3) (ad 4) (ad 5) (ad 6) (ad 7) g_now v1 r10 g11) (cwV 1 hts gX1_lays_X0_kindOf rfl rfl rfl hd_X0_kindOf ⟨Nat.le_of_ble_eq_true rfl, Nat.le_of_ble_eq_true rfl⟩) hK hP hD hS hA (zb_cGn) (q0 := 0) rfl rfl rfl hl.1 rfl (Nat.le_of_ble_eq_true rfl) dX1_lays_55 ⟨Nat.le_refl _, Nat.le_refl _⟩ (fun H locs hP hD hS => ?_)
        refine lv_imul hx hb dX1_lays_58 ?_
        refine lv_aload_n hx hb dX1_lays_59 rfl (lv_at hl 1 rfl) ?_
        refine va_get (D := D) (ci := 1) (v := .ref (ad 1)) (C := RX1) (T := TX1) (N := 12) hx hb hts zi_X1_lays_X1 hown hK.1 hP 0 rfl rfl 0 (by decide) (hts _ zk_X1_lays_0) (fun _ h9 => h9) rfl dX1_lays_60 ?_
        refine lv_iload_n hx hb dX1_lays_63 rfl (lv_at hl 2 rfl) ?_
        obtain ⟨r12, g13, h⟩ := bo1 h
        refine zb_callV (As := [.int v1]) (rest := [.int ((10 : Int32) * r10)]) ⟨hx, hb, hml, hown, hts⟩ (zc_X0_figureOf l D cI (ad 1) (ad 2) (ad 3) (ad 4) (ad 5) (ad 6) (ad 7) g_now v1 r12 g13) (cwV 1 hts gX1_lays_X0_figureOf rfl rfl rfl hd_X0_figureOf ⟨Nat.le_of_ble_eq_true rfl, Nat.le_of_ble_eq_true rfl⟩) hK hP hD hS hA (zb_cGn) (q0 := 0) rfl rfl rfl hl.1 rfl (Nat.le_of_ble_eq_true rfl) dX1_lays_64 ⟨Nat.le_refl _, Nat.le_refl _⟩ (fun H locs hP hD hS => ?_)
        refine lv_iadd hx hb dX1_lays_67 ?_
        refine lv_istore (lv' := [(5, .int (((10 : Int32) * r10) + r12)), (4, .int r7), (0, .ref (ad 0)), (1, .int v1), (2, .int v2), (3, .int v3)]) hx hb dX1_lays_68 hl (by decide) rfl (fun ls hl => ?_)
        refine lv_aload_n hx hb dX1_lays_70 rfl (lv_at hl 2 rfl) ?_
        refine va_get (D := D) (ci := 1) (v := .ref (ad 1)) (C := RX1) (T := TX1) (N := 12) hx hb hts zi_X1_lays_X1 hown hK.1 hP 0 rfl rfl 0 (by decide) (hts _ zk_X1_lays_0) (fun _ h9 => h9) rfl dX1_lays_71 ?_
        refine lv_iload_n hx hb dX1_lays_74 rfl (lv_at hl 3 rfl) ?_
        refine lv_iload_n hx hb dX1_lays_75 rfl (lv_at hl 4 rfl) ?_
        obtain ⟨n14, g15, h⟩ := bo1 h
        refine zb_callV (As := [.int v1, .int v2]) (rest := []) ⟨hx, hb, hml, hown, hts⟩ (zc_X0_putKind l D cI (ad 1) (ad 2) (ad 3) (ad 4) (ad 5) (ad 6) (ad 7) g_now v1 v2 n14 g15) (cwV 2 hts gX1_lays_X0_putKind rfl rfl rfl hd_X0_putKind ⟨Nat.le_of_ble_eq_true rfl, Nat.le_of_ble_eq_true rfl⟩) hK hP hD hS hA (zb_cGn) (q0 := 0) rfl rfl rfl hl.1 rfl (Nat.le_of_ble_eq_true rfl) dX1_lays_76 ⟨Nat.le_refl _, Nat.le_refl _⟩ (fun H locs hP hD hS => ?_)
        refine lv_aload_n hx hb dX1_lays_79 rfl (lv_at hl 2 rfl) ?_
        refine va_get (D := D) (ci := 1) (v := .ref (ad 1)) (C := RX1) (T := TX1) (N := 12) hx hb hts zi_X1_lays_X1 hown hK.1 hP 0 rfl rfl 0 (by decide) (hts _ zk_X1_lays_0) (fun _ h9 => h9) rfl dX1_lays_80 ?_
        refine lv_iload_n hx hb dX1_lays_83 rfl (lv_at hl 3 rfl) ?_
        refine lv_iload_n hx hb dX1_lays_84 rfl (lv_at hl 5 rfl) ?_
        obtain ⟨n16, g17, h⟩ := bo1 h
        refine zb_callV (As := [.int v1, .int v3]) (rest := []) ⟨hx, hb, hml, hown, hts⟩ (zc_X0_putFigure l D cI (ad 1) (ad 2) (ad 3) (ad 4) (ad 5) (ad 6) (ad 7) n14 v1 v3 n16 g17) (cwV 2 hts gX1_lays_X0_putFigure rfl rfl rfl hd_X0_putFigure ⟨Nat.le_of_ble_eq_true rfl, Nat.le_of_ble_eq_true rfl⟩) hK hP hD hS hA (zb_cGn) (q0 := 0) rfl rfl rfl hl.1 rfl (Nat.le_of_ble_eq_true rfl) dX1_lays_85 ⟨Nat.le_refl _, Nat.le_refl _⟩ (fun H locs hP hD hS => ?_)
        refine lv_iload hx hb dX1_lays_88 (lv_at hl 0 rfl) ?_
        obtain ⟨rfl, rfl, rfl⟩ := re3 h
        exact zb_iret hx hb hr hlk hP hS dX1_lays_90
      · replace h := it_f c9 h
        refine lv_aload_n hx hb dX1_lays_41 rfl (lv_at hl 1 rfl) ?_
        refine lv_iload hx hb dX1_lays_42 (lv_at hl 0 rfl) ?_
        obtain ⟨r18, n19, g20, h⟩ := bo2 h
        refine zb_callV (As := [.int r7]) (rest := []) ⟨hx, hb, hml, hown, hts⟩ (zc_X1_refuse l D cI ad g_now g_mind g_taken g_isTaken g_letters g_letterCount g_told g_toldCount g_refusals g_costs g_gains g_seed r7 r18 n19 g20) (cwV 1 hts gX1_lays_X1_refuse rfl rfl rfl hd_X1_refuse ⟨Nat.le_of_ble_eq_true rfl, Nat.le_of_ble_eq_true rfl⟩) hK hP hD hS hA (zb_sG) (q0 := 0) rfl rfl rfl hl.1 rfl (Nat.le_of_ble_eq_true rfl) dX1_lays_44 ⟨Nat.le_refl _, Nat.le_refl _⟩ (fun H locs hP hD hS => ?_)
        obtain ⟨rfl, rfl, rfl⟩ := re3 h
        exact zb_iret hx hb hr hlk hP hS dX1_lays_47
    · replace h := it_t c6 h
      refine lv_aload_n hx hb dX1_lays_20 rfl (lv_at hl 0 rfl) ?_
      refine lv_bipush (v := ((-2) : Int32)) hx hb dX1_lays_21 (by decide) ?_
      obtain ⟨r21, n22, g23, h⟩ := bo2 h
      refine zb_callV (As := [.int ((-2) : Int32)]) (rest := []) ⟨hx, hb, hml, hown, hts⟩ (zc_X1_refuse l D cI ad g_now g_mind g_taken g_isTaken g_letters g_letterCount g_told g_toldCount g_refusals g_costs g_gains g_seed ((-2) : Int32) r21 n22 g23) (cwV 1 hts gX1_lays_X1_refuse rfl rfl rfl hd_X1_refuse ⟨Nat.le_of_ble_eq_true rfl, Nat.le_of_ble_eq_true rfl⟩) hK hP hD hS hA (zb_sG) (q0 := 0) rfl rfl rfl hl.1 rfl (Nat.le_of_ble_eq_true rfl) dX1_lays_23 ⟨Nat.le_refl _, Nat.le_refl _⟩ (fun H locs hP hD hS => ?_)
      obtain ⟨rfl, rfl, rfl⟩ := re3 h
      exact zb_iret hx hb hr hlk hP hS dX1_lays_26
  · replace h := it_t c3 h
    refine lv_aload_n hx hb dX1_lays_7 rfl (lv_at hl 0 rfl) ?_
    refine lv_iconst (v := ((-1) : Int32)) hx hb dX1_lays_8 (by decide) ?_
    obtain ⟨r24, n25, g26, h⟩ := bo2 h
    refine zb_callV (As := [.int ((-1) : Int32)]) (rest := []) ⟨hx, hb, hml, hown, hts⟩ (zc_X1_refuse l D cI ad g_now g_mind g_taken g_isTaken g_letters g_letterCount g_told g_toldCount g_refusals g_costs g_gains g_seed ((-1) : Int32) r24 n25 g26) (cwV 1 hts gX1_lays_X1_refuse rfl rfl rfl hd_X1_refuse ⟨Nat.le_of_ble_eq_true rfl, Nat.le_of_ble_eq_true rfl⟩) hK hP hD hS hA (zb_sG) (q0 := 0) rfl rfl rfl hl.1 rfl (Nat.le_of_ble_eq_true rfl) dX1_lays_9 ⟨Nat.le_refl _, Nat.le_refl _⟩ (fun H locs hP hD hS => ?_)
    obtain ⟨rfl, rfl, rfl⟩ := re3 h
    exact zb_iret hx hb hr hlk hP hS dX1_lays_12
abbrev rm_X1_wets : Room := { frames := 2, cells := 0, slots := 0, locals := 42 }
theorem hd_X1_wets : yX1_wets.cls = RX1 ∧ yX1_wets.cls ≠ "java/lang/invoke/MethodHandle" ∧ yX1_wets.cls ≠ "java/lang/invoke/VarHandle" ∧ (parseMethodDescriptor yX1_wets.desc).map (fun d => d.parameters.length) = some 2 := by decide +kernel
theorem zi_X1_wets_X1 : ∀ w ∈ wsX10, w ∈ wsX1_wets := fun _ h => List.mem_cons_of_mem _ (List.mem_append_left _ (List.mem_append_right _ h))
theorem zk_X1_wets_0 : Cond.fieldLink RX1 10 "GroutingIsFollowed" "now" "LGroutingIsFollowed$Bath;" ∈ wsX1_wets := by decide +kernel
set_option maxHeartbeats 4000000 in
set_option maxRecDepth 100000 in
theorem zc_X1_wets (l : Launch) (D : va_G) (cI : ClassId) (ad : Nat → Nat) (g_now : BT) (g_mind : BT) (g_taken : BT) (g_isTaken : Int32) (g_letters : (Nat → Int32)) (g_letterCount : Int32) (g_told : (Nat → Int32)) (g_toldCount : Int32) (g_refusals : (Nat → Int32)) (g_costs : (Nat → Int32)) (g_gains : (Nat → Int32)) (g_seed : Int32) (v1 : Int32) (v2 : Int32) (r0 : Int32) (w_g_now : BT) (w_g_refusals : (Nat → Int32)) (h : zf_X1_wets g_now g_refusals v1 v2 = some (r0, w_g_now, w_g_refusals)) : Cn l D cI yX1_wets wsX1_wets rm_X1_wets [.ref (ad 0), .int v1, .int v2] (zb_G cI ad g_now g_mind g_taken g_isTaken g_letters g_letterCount g_told g_toldCount g_refusals g_costs g_gains g_seed) (some (.int r0)) (zb_G cI ad w_g_now g_mind g_taken g_isTaken g_letters g_letterCount g_told g_toldCount w_g_refusals g_costs g_gains g_seed) := by
  refine zb_ofW (cc := cX1_wets) (maxL := 5) (ret := (some .int)) (by decide) rfl (Nat.le_of_ble_eq_true rfl) ?_
  intro p e s m args below meth c A ls hx hb hr hml hts hown hlk hK hP hD hA hl
  have hS : va_S A s.heap s.heap [] := va_S.rf
  have hl : lv_has ls 5 [(0, .ref (ad 0)), (1, .int v1), (2, .int v2)] := hl
  unfold zf_X1_wets at h
  refine lv_iload_n hx hb dX1_wets_0 rfl (lv_at hl 1 rfl) ?_
  obtain ⟨r1, g2, h⟩ := bo1 h
  refine zb_callS (As := [.int v1]) (rest := []) ⟨hx, hb, hml, hown, hts⟩ (zc_X1_isNode l D cI v1 r1 g2) (va_cwS 1 hts gX1_wets_X1_isNode rfl rfl rfl hd_X1_isNode.2 ⟨Nat.le_of_ble_eq_true rfl, Nat.le_of_ble_eq_true rfl⟩) hK hP hD hS hA (zb_none _) rfl hl.1 rfl (Nat.le_of_ble_eq_true rfl) dX1_wets_1 ⟨Nat.le_refl _, Nat.le_refl _⟩ (fun H locs hP hD hS => ?_)
  refine lv_if_ne (tgt := 13) hx hb dX1_wets_4 (by decide) (fun c3 => ?_) (fun c3 => ?_)
  · replace h := it_f c3 h
    refine lv_iload_n hx hb dX1_wets_13 rfl (lv_at hl 2 rfl) ?_
    refine lv_iconst (v := (0 : Int32)) hx hb dX1_wets_14 (by decide) ?_
    refine lv_bipush (v := (9 : Int32)) hx hb dX1_wets_15 (by decide) ?_
    obtain ⟨r4, g5, h⟩ := bo1 h
    refine zb_callS (As := [.int v2, .int (0 : Int32), .int (9 : Int32)]) (rest := []) ⟨hx, hb, hml, hown, hts⟩ (zc_X1_outside l D cI v2 (0 : Int32) (9 : Int32) r4 g5) (va_cwS 3 hts gX1_wets_X1_outside rfl rfl rfl hd_X1_outside.2 ⟨Nat.le_of_ble_eq_true rfl, Nat.le_of_ble_eq_true rfl⟩) hK hP hD hS hA (zb_none _) rfl hl.1 rfl (Nat.le_of_ble_eq_true rfl) dX1_wets_17 ⟨Nat.le_refl _, Nat.le_refl _⟩ (fun H locs hP hD hS => ?_)
    refine lv_istore_n (lv' := [(3, .int r4), (0, .ref (ad 0)), (1, .int v1), (2, .int v2)]) hx hb dX1_wets_20 rfl hl (by decide) rfl (fun ls hl => ?_)
    refine lv_iload_n hx hb dX1_wets_21 rfl (lv_at hl 0 rfl) ?_
    refine lv_if_eq (tgt := 31) hx hb dX1_wets_22 (by decide) (fun c6 => ?_) (fun c6 => ?_)
    · replace h := it_t c6 h
      refine lv_aload_n hx hb dX1_wets_31 rfl (lv_at hl 1 rfl) ?_
      refine va_get (D := D) (ci := 1) (v := .ref (ad 1)) (C := RX1) (T := TX1) (N := 12) hx hb hts zi_X1_wets_X1 hown hK.1 hP 0 rfl rfl 0 (by decide) (hts _ zk_X1_wets_0) (fun _ h9 => h9) rfl dX1_wets_32 ?_
      refine lv_iload_n hx hb dX1_wets_35 rfl (lv_at hl 2 rfl) ?_
      obtain ⟨r7, g8, h⟩ := bo1 h
      refine zb_callV (As := [.int v1]) (rest := []) ⟨hx, hb, hml, hown, hts⟩ (zc_X0_wetOf l D cI (ad 1) (ad 2) (ad 3) (ad 4) (ad 5) (ad 6) (ad 7) g_now v1 r7 g8) (cwV 1 hts gX1_wets_X0_wetOf rfl rfl rfl hd_X0_wetOf ⟨Nat.le_of_ble_eq_true rfl, Nat.le_of_ble_eq_true rfl⟩) hK hP hD hS hA (zb_cGn) (q0 := 0) rfl rfl rfl hl.1 rfl (Nat.le_of_ble_eq_true rfl) dX1_wets_36 ⟨Nat.le_refl _, Nat.le_refl _⟩ (fun H locs hP hD hS => ?_)
      refine lv_istore (lv' := [(4, .int r7), (3, .int r4), (0, .ref (ad 0)), (1, .int v1), (2, .int v2)]) hx hb dX1_wets_39 hl (by decide) rfl (fun ls hl => ?_)
      refine lv_aload_n hx hb dX1_wets_41 rfl (lv_at hl 2 rfl) ?_
      refine va_get (D := D) (ci := 1) (v := .ref (ad 1)) (C := RX1) (T := TX1) (N := 12) hx hb hts zi_X1_wets_X1 hown hK.1 hP 0 rfl rfl 0 (by decide) (hts _ zk_X1_wets_0) (fun _ h9 => h9) rfl dX1_wets_42 ?_
      refine lv_iload_n hx hb dX1_wets_45 rfl (lv_at hl 3 rfl) ?_
      refine lv_iload_n hx hb dX1_wets_46 rfl (lv_at hl 4 rfl) ?_
      obtain ⟨n9, g10, h⟩ := bo1 h
      refine zb_callV (As := [.int v1, .int v2]) (rest := []) ⟨hx, hb, hml, hown, hts⟩ (zc_X0_putWet l D cI (ad 1) (ad 2) (ad 3) (ad 4) (ad 5) (ad 6) (ad 7) g_now v1 v2 n9 g10) (cwV 2 hts gX1_wets_X0_putWet rfl rfl rfl hd_X0_putWet ⟨Nat.le_of_ble_eq_true rfl, Nat.le_of_ble_eq_true rfl⟩) hK hP hD hS hA (zb_cGn) (q0 := 0) rfl rfl rfl hl.1 rfl (Nat.le_of_ble_eq_true rfl) dX1_wets_47 ⟨Nat.le_refl _, Nat.le_refl _⟩ (fun H locs hP hD hS => ?_)
      refine lv_iload hx hb dX1_wets_50 (lv_at hl 0 rfl) ?_
      obtain ⟨rfl, rfl, rfl⟩ := re3 h
      exact zb_iret hx hb hr hlk hP hS dX1_wets_52
    · replace h := it_f c6 h
      refine lv_aload_n hx hb dX1_wets_25 rfl (lv_at hl 1 rfl) ?_
      refine lv_iload_n hx hb dX1_wets_26 rfl (lv_at hl 0 rfl) ?_
      obtain ⟨r11, n12, g13, h⟩ := bo2 h
      refine zb_callV (As := [.int r4]) (rest := []) ⟨hx, hb, hml, hown, hts⟩ (zc_X1_refuse l D cI ad g_now g_mind g_taken g_isTaken g_letters g_letterCount g_told g_toldCount g_refusals g_costs g_gains g_seed r4 r11 n12 g13) (cwV 1 hts gX1_wets_X1_refuse rfl rfl rfl hd_X1_refuse ⟨Nat.le_of_ble_eq_true rfl, Nat.le_of_ble_eq_true rfl⟩) hK hP hD hS hA (zb_sG) (q0 := 0) rfl rfl rfl hl.1 rfl (Nat.le_of_ble_eq_true rfl) dX1_wets_27 ⟨Nat.le_refl _, Nat.le_refl _⟩ (fun H locs hP hD hS => ?_)
      obtain ⟨rfl, rfl, rfl⟩ := re3 h
      exact zb_iret hx hb hr hlk hP hS dX1_wets_30
  · replace h := it_t c3 h
    refine lv_aload_n hx hb dX1_wets_7 rfl (lv_at hl 0 rfl) ?_
    refine lv_iconst (v := ((-1) : Int32)) hx hb dX1_wets_8 (by decide) ?_
    obtain ⟨r14, n15, g16, h⟩ := bo2 h
    refine zb_callV (As := [.int ((-1) : Int32)]) (rest := []) ⟨hx, hb, hml, hown, hts⟩ (zc_X1_refuse l D cI ad g_now g_mind g_taken g_isTaken g_letters g_letterCount g_told g_toldCount g_refusals g_costs g_gains g_seed ((-1) : Int32) r14 n15 g16) (cwV 1 hts gX1_wets_X1_refuse rfl rfl rfl hd_X1_refuse ⟨Nat.le_of_ble_eq_true rfl, Nat.le_of_ble_eq_true rfl⟩) hK hP hD hS hA (zb_sG) (q0 := 0) rfl rfl rfl hl.1 rfl (Nat.le_of_ble_eq_true rfl) dX1_wets_9 ⟨Nat.le_refl _, Nat.le_refl _⟩ (fun H locs hP hD hS => ?_)
    obtain ⟨rfl, rfl, rfl⟩ := re3 h
    exact zb_iret hx hb hr hlk hP hS dX1_wets_12
abbrev rm_X1_isWay : Room := { frames := 0, cells := 0, slots := 0, locals := 0 }
theorem hd_X1_isWay : yX1_isWay.cls = RX1 ∧ yX1_isWay.cls ≠ "java/lang/invoke/MethodHandle" ∧ yX1_isWay.cls ≠ "java/lang/invoke/VarHandle" ∧ (parseMethodDescriptor yX1_isWay.desc).map (fun d => d.parameters.length) = some 1 := by decide +kernel
set_option maxHeartbeats 4000000 in
set_option maxRecDepth 100000 in
theorem zc_X1_isWay (l : Launch) (D : va_G) (cI : ClassId)  (v0 : Int32) (r0 : Int32) (h : zf_X1_isWay v0 = some r0) : Cn l D cI yX1_isWay wsX1_isWay rm_X1_isWay [.int v0] ([]) (some (.int r0)) ([]) := by
  refine zb_ofW (cc := cX1_isWay) (maxL := 1) (ret := (some .boolean)) (by decide) rfl (Nat.le_of_ble_eq_true rfl) ?_
  intro p e s m args below meth c A ls hx hb hr hml hts hown hlk hK hP hD hA hl
  have hS : va_S A s.heap s.heap [] := va_S.rf
  have hl : lv_has ls 1 [(0, .int v0)] := hl
  unfold zf_X1_isWay at h
  refine lv_iload_n hx hb dX1_isWay_0 rfl (lv_at hl 0 rfl) ?_
  refine lv_if_lt (tgt := 13) hx hb dX1_isWay_1 (by decide) (fun c1 => ?_) (fun c1 => ?_)
  · replace h := it_t c1 h
    refine lv_iconst (v := (0 : Int32)) hx hb dX1_isWay_13 (by decide) ?_
    obtain rfl := re1 h
    exact zb_zret hx hb hr hlk rfl hP hS dX1_isWay_14
  · replace h := it_f c1 h
    refine lv_iload_n hx hb dX1_isWay_4 rfl (lv_at hl 0 rfl) ?_
    refine lv_iconst (v := (4 : Int32)) hx hb dX1_isWay_5 (by decide) ?_
    refine lv_icmp_ge (tgt := 13) hx hb dX1_isWay_6 (by decide) (fun c2 => ?_) (fun c2 => ?_)
    · replace h := it_t c2 h
      refine lv_iconst (v := (0 : Int32)) hx hb dX1_isWay_13 (by decide) ?_
      obtain rfl := re1 h
      exact zb_zret hx hb hr hlk rfl hP hS dX1_isWay_14
    · replace h := it_f c2 h
      refine lv_iconst (v := (1 : Int32)) hx hb dX1_isWay_9 (by decide) ?_
      refine lv_goto (tgt := 14) hx hb dX1_isWay_10 (by decide) ?_
      obtain rfl := re1 h
      exact zb_zret hx hb hr hlk rfl hP hS dX1_isWay_14
abbrev rm_X1_comesIn : Room := { frames := 1, cells := 0, slots := 0, locals := 23 }
theorem hd_X1_comesIn : yX1_comesIn.cls = RX1 ∧ yX1_comesIn.cls ≠ "java/lang/invoke/MethodHandle" ∧ yX1_comesIn.cls ≠ "java/lang/invoke/VarHandle" ∧ (parseMethodDescriptor yX1_comesIn.desc).map (fun d => d.parameters.length) = some 2 := by decide +kernel
theorem zi_X1_comesIn_X1 : ∀ w ∈ wsX10, w ∈ wsX1_comesIn := fun _ h => List.mem_cons_of_mem _ (List.mem_append_left _ (List.mem_append_right _ h))
theorem zk_X1_comesIn_0 : Cond.fieldLink RX1 10 "GroutingIsFollowed" "now" "LGroutingIsFollowed$Bath;" ∈ wsX1_comesIn := by decide +kernel
set_option maxHeartbeats 4000000 in
set_option maxRecDepth 100000 in
theorem zc_X1_comesIn (l : Launch) (D : va_G) (cI : ClassId) (ad : Nat → Nat) (g_now : BT) (g_mind : BT) (g_taken : BT) (g_isTaken : Int32) (g_letters : (Nat → Int32)) (g_letterCount : Int32) (g_told : (Nat → Int32)) (g_toldCount : Int32) (g_refusals : (Nat → Int32)) (g_costs : (Nat → Int32)) (g_gains : (Nat → Int32)) (g_seed : Int32) (v1 : Int32) (v2 : Int32) (r0 : Int32) (w_g_now : BT) (w_g_refusals : (Nat → Int32)) (h : zf_X1_comesIn g_now g_refusals v1 v2 = some (r0, w_g_now, w_g_refusals)) : Cn l D cI yX1_comesIn wsX1_comesIn rm_X1_comesIn [.ref (ad 0), .int v1, .int v2] (zb_G cI ad g_now g_mind g_taken g_isTaken g_letters g_letterCount g_told g_toldCount g_refusals g_costs g_gains g_seed) (some (.int r0)) (zb_G cI ad w_g_now g_mind g_taken g_isTaken g_letters g_letterCount g_told g_toldCount w_g_refusals g_costs g_gains g_seed) := by
  refine zb_ofW (cc := cX1_comesIn) (maxL := 3) (ret := (some .int)) (by decide) rfl (Nat.le_of_ble_eq_true rfl) ?_
  intro p e s m args below meth c A ls hx hb hr hml hts hown hlk hK hP hD hA hl
  have hS : va_S A s.heap s.heap [] := va_S.rf
  have hl : lv_has ls 3 [(0, .ref (ad 0)), (1, .int v1), (2, .int v2)] := hl
  unfold zf_X1_comesIn at h
  refine lv_iload_n hx hb dX1_comesIn_0 rfl (lv_at hl 1 rfl) ?_
  obtain ⟨r1, g2, h⟩ := bo1 h
  refine zb_callS (As := [.int v1]) (rest := []) ⟨hx, hb, hml, hown, hts⟩ (zc_X1_isNode l D cI v1 r1 g2) (va_cwS 1 hts gX1_comesIn_X1_isNode rfl rfl rfl hd_X1_isNode.2 ⟨Nat.le_of_ble_eq_true rfl, Nat.le_of_ble_eq_true rfl⟩) hK hP hD hS hA (zb_none _) rfl hl.1 rfl (Nat.le_of_ble_eq_true rfl) dX1_comesIn_1 ⟨Nat.le_refl _, Nat.le_refl _⟩ (fun H locs hP hD hS => ?_)
  refine lv_if_eq (tgt := 14) hx hb dX1_comesIn_4 (by decide) (fun c3 => ?_) (fun c3 => ?_)
  · replace h := it_t c3 h
    refine lv_aload_n hx hb dX1_comesIn_14 rfl (lv_at hl 0 rfl) ?_
    refine lv_iconst (v := ((-1) : Int32)) hx hb dX1_comesIn_15 (by decide) ?_
    obtain ⟨r4, n5, g6, h⟩ := bo2 h
    refine zb_callV (As := [.int ((-1) : Int32)]) (rest := []) ⟨hx, hb, hml, hown, hts⟩ (zc_X1_refuse l D cI ad g_now g_mind g_taken g_isTaken g_letters g_letterCount g_told g_toldCount g_refusals g_costs g_gains g_seed ((-1) : Int32) r4 n5 g6) (cwV 1 hts gX1_comesIn_X1_refuse rfl rfl rfl hd_X1_refuse ⟨Nat.le_of_ble_eq_true rfl, Nat.le_of_ble_eq_true rfl⟩) hK hP hD hS hA (zb_sG) (q0 := 0) rfl rfl rfl hl.1 rfl (Nat.le_of_ble_eq_true rfl) dX1_comesIn_16 ⟨Nat.le_refl _, Nat.le_refl _⟩ (fun H locs hP hD hS => ?_)
    obtain ⟨rfl, rfl, rfl⟩ := re3 h
    exact zb_iret hx hb hr hlk hP hS dX1_comesIn_19
  · replace h := it_f c3 h
    refine lv_iload_n hx hb dX1_comesIn_7 rfl (lv_at hl 2 rfl) ?_
    obtain ⟨r7, g8, h⟩ := bo1 h
    refine zb_callS (As := [.int v2]) (rest := []) ⟨hx, hb, hml, hown, hts⟩ (zc_X1_isWay l D cI v2 r7 g8) (va_cwS 1 hts gX1_comesIn_X1_isWay rfl rfl rfl hd_X1_isWay.2 ⟨Nat.le_of_ble_eq_true rfl, Nat.le_of_ble_eq_true rfl⟩) hK hP hD hS hA (zb_none _) rfl hl.1 rfl (Nat.le_of_ble_eq_true rfl) dX1_comesIn_8 ⟨Nat.le_refl _, Nat.le_refl _⟩ (fun H locs hP hD hS => ?_)
    refine lv_if_ne (tgt := 20) hx hb dX1_comesIn_11 (by decide) (fun c9 => ?_) (fun c9 => ?_)
    · replace h := it_f c9 h
      refine lv_aload_n hx hb dX1_comesIn_20 rfl (lv_at hl 0 rfl) ?_
      refine va_get (D := D) (ci := 1) (v := .ref (ad 1)) (C := RX1) (T := TX1) (N := 12) hx hb hts zi_X1_comesIn_X1 hown hK.1 hP 0 rfl rfl 0 (by decide) (hts _ zk_X1_comesIn_0) (fun _ h9 => h9) rfl dX1_comesIn_21 ?_
      obtain ⟨r10, g11, h⟩ := bo1 h
      refine zb_callV (As := []) (rest := []) ⟨hx, hb, hml, hown, hts⟩ (zc_X0_isFull l D cI (ad 1) (ad 2) (ad 3) (ad 4) (ad 5) (ad 6) (ad 7) g_now r10 g11) (cwV 0 hts gX1_comesIn_X0_isFull rfl rfl rfl hd_X0_isFull ⟨Nat.le_of_ble_eq_true rfl, Nat.le_of_ble_eq_true rfl⟩) hK hP hD hS hA (zb_cGn) (q0 := 0) rfl rfl rfl hl.1 rfl (Nat.le_of_ble_eq_true rfl) dX1_comesIn_24 ⟨Nat.le_refl _, Nat.le_refl _⟩ (fun H locs hP hD hS => ?_)
      refine lv_if_eq (tgt := 37) hx hb dX1_comesIn_27 (by decide) (fun c12 => ?_) (fun c12 => ?_)
      · replace h := it_t c12 h
        refine lv_aload_n hx hb dX1_comesIn_37 rfl (lv_at hl 0 rfl) ?_
        refine va_get (D := D) (ci := 1) (v := .ref (ad 1)) (C := RX1) (T := TX1) (N := 12) hx hb hts zi_X1_comesIn_X1 hown hK.1 hP 0 rfl rfl 0 (by decide) (hts _ zk_X1_comesIn_0) (fun _ h9 => h9) rfl dX1_comesIn_38 ?_
        refine lv_iload_n hx hb dX1_comesIn_41 rfl (lv_at hl 1 rfl) ?_
        refine lv_iload_n hx hb dX1_comesIn_42 rfl (lv_at hl 2 rfl) ?_
        obtain ⟨r13, n14, g15, h⟩ := bo2 h
        refine zb_callV (As := [.int v1, .int v2]) (rest := []) ⟨hx, hb, hml, hown, hts⟩ (zc_X0_add l D cI (ad 1) (ad 2) (ad 3) (ad 4) (ad 5) (ad 6) (ad 7) g_now v1 v2 r13 n14 g15) (cwV 2 hts gX1_comesIn_X0_add rfl rfl rfl hd_X0_add ⟨Nat.le_of_ble_eq_true rfl, Nat.le_of_ble_eq_true rfl⟩) hK hP hD hS hA (zb_cGn) (q0 := 0) rfl rfl rfl hl.1 rfl (Nat.le_of_ble_eq_true rfl) dX1_comesIn_43 ⟨Nat.le_refl _, Nat.le_refl _⟩ (fun H locs hP hD hS => ?_)
        obtain ⟨rfl, rfl, rfl⟩ := re3 h
        exact zb_iret hx hb hr hlk hP hS dX1_comesIn_46
      · replace h := it_f c12 h
        refine lv_aload_n hx hb dX1_comesIn_30 rfl (lv_at hl 0 rfl) ?_
        refine lv_bipush (v := ((-6) : Int32)) hx hb dX1_comesIn_31 (by decide) ?_
        obtain ⟨r16, n17, g18, h⟩ := bo2 h
        refine zb_callV (As := [.int ((-6) : Int32)]) (rest := []) ⟨hx, hb, hml, hown, hts⟩ (zc_X1_refuse l D cI ad g_now g_mind g_taken g_isTaken g_letters g_letterCount g_told g_toldCount g_refusals g_costs g_gains g_seed ((-6) : Int32) r16 n17 g18) (cwV 1 hts gX1_comesIn_X1_refuse rfl rfl rfl hd_X1_refuse ⟨Nat.le_of_ble_eq_true rfl, Nat.le_of_ble_eq_true rfl⟩) hK hP hD hS hA (zb_sG) (q0 := 0) rfl rfl rfl hl.1 rfl (Nat.le_of_ble_eq_true rfl) dX1_comesIn_33 ⟨Nat.le_refl _, Nat.le_refl _⟩ (fun H locs hP hD hS => ?_)
        obtain ⟨rfl, rfl, rfl⟩ := re3 h
        exact zb_iret hx hb hr hlk hP hS dX1_comesIn_36
    · replace h := it_t c9 h
      refine lv_aload_n hx hb dX1_comesIn_14 rfl (lv_at hl 0 rfl) ?_
      refine lv_iconst (v := ((-1) : Int32)) hx hb dX1_comesIn_15 (by decide) ?_
      obtain ⟨r19, n20, g21, h⟩ := bo2 h
      refine zb_callV (As := [.int ((-1) : Int32)]) (rest := []) ⟨hx, hb, hml, hown, hts⟩ (zc_X1_refuse l D cI ad g_now g_mind g_taken g_isTaken g_letters g_letterCount g_told g_toldCount g_refusals g_costs g_gains g_seed ((-1) : Int32) r19 n20 g21) (cwV 1 hts gX1_comesIn_X1_refuse rfl rfl rfl hd_X1_refuse ⟨Nat.le_of_ble_eq_true rfl, Nat.le_of_ble_eq_true rfl⟩) hK hP hD hS hA (zb_sG) (q0 := 0) rfl rfl rfl hl.1 rfl (Nat.le_of_ble_eq_true rfl) dX1_comesIn_16 ⟨Nat.le_refl _, Nat.le_refl _⟩ (fun H locs hP hD hS => ?_)
      obtain ⟨rfl, rfl, rfl⟩ := re3 h
      exact zb_iret hx hb hr hlk hP hS dX1_comesIn_19
abbrev rm_X1_heads : Room := { frames := 2, cells := 0, slots := 0, locals := 43 }
theorem hd_X1_heads : yX1_heads.cls = RX1 ∧ yX1_heads.cls ≠ "java/lang/invoke/MethodHandle" ∧ yX1_heads.cls ≠ "java/lang/invoke/VarHandle" ∧ (parseMethodDescriptor yX1_heads.desc).map (fun d => d.parameters.length) = some 2 := by decide +kernel
theorem zi_X1_heads_X1 : ∀ w ∈ wsX10, w ∈ wsX1_heads := fun _ h => List.mem_cons_of_mem _ (List.mem_append_left _ (List.mem_append_right _ h))
theorem zk_X1_heads_0 : Cond.fieldLink RX1 10 "GroutingIsFollowed" "now" "LGroutingIsFollowed$Bath;" ∈ wsX1_heads := by decide +kernel
set_option maxHeartbeats 4000000 in
set_option maxRecDepth 100000 in
theorem zc_X1_heads (l : Launch) (D : va_G) (cI : ClassId) (ad : Nat → Nat) (g_now : BT) (g_mind : BT) (g_taken : BT) (g_isTaken : Int32) (g_letters : (Nat → Int32)) (g_letterCount : Int32) (g_told : (Nat → Int32)) (g_toldCount : Int32) (g_refusals : (Nat → Int32)) (g_costs : (Nat → Int32)) (g_gains : (Nat → Int32)) (g_seed : Int32) (v1 : Int32) (v2 : Int32) (r0 : Int32) (w_g_now : BT) (w_g_refusals : (Nat → Int32)) (h : zf_X1_heads g_now g_refusals v1 v2 = some (r0, w_g_now, w_g_refusals)) : Cn l D cI yX1_heads wsX1_heads rm_X1_heads [.ref (ad 0), .int v1, .int v2] (zb_G cI ad g_now g_mind g_taken g_isTaken g_letters g_letterCount g_told g_toldCount g_refusals g_costs g_gains g_seed) (some (.int r0)) (zb_G cI ad w_g_now g_mind g_taken g_isTaken g_letters g_letterCount g_told g_toldCount w_g_refusals g_costs g_gains g_seed) := by
  refine zb_ofW (cc := cX1_heads) (maxL := 4) (ret := (some .int)) (by decide) rfl (Nat.le_of_ble_eq_true rfl) ?_
  intro p e s m args below meth c A ls hx hb hr hml hts hown hlk hK hP hD hA hl
  have hS : va_S A s.heap s.heap [] := va_S.rf
  have hl : lv_has ls 4 [(0, .ref (ad 0)), (1, .int v1), (2, .int v2)] := hl
  unfold zf_X1_heads at h
  refine lv_aload_n hx hb dX1_heads_0 rfl (lv_at hl 0 rfl) ?_
  refine va_get (D := D) (ci := 1) (v := .ref (ad 1)) (C := RX1) (T := TX1) (N := 12) hx hb hts zi_X1_heads_X1 hown hK.1 hP 0 rfl rfl 0 (by decide) (hts _ zk_X1_heads_0) (fun _ h9 => h9) rfl dX1_heads_1 ?_
  refine lv_iload_n hx hb dX1_heads_4 rfl (lv_at hl 1 rfl) ?_
  obtain ⟨r1, g2, h⟩ := bo1 h
  refine zb_callV (As := [.int v1]) (rest := []) ⟨hx, hb, hml, hown, hts⟩ (zc_X0_has l D cI (ad 1) (ad 2) (ad 3) (ad 4) (ad 5) (ad 6) (ad 7) g_now v1 r1 g2) (cwV 1 hts gX1_heads_X0_has rfl rfl rfl hd_X0_has ⟨Nat.le_of_ble_eq_true rfl, Nat.le_of_ble_eq_true rfl⟩) hK hP hD hS hA (zb_cGn) (q0 := 0) rfl rfl rfl hl.1 rfl (Nat.le_of_ble_eq_true rfl) dX1_heads_5 ⟨Nat.le_refl _, Nat.le_refl _⟩ (fun H locs hP hD hS => ?_)
  refine lv_if_eq (tgt := 18) hx hb dX1_heads_8 (by decide) (fun c3 => ?_) (fun c3 => ?_)
  · replace h := it_t c3 h
    refine lv_aload_n hx hb dX1_heads_18 rfl (lv_at hl 0 rfl) ?_
    refine lv_iconst (v := ((-1) : Int32)) hx hb dX1_heads_19 (by decide) ?_
    obtain ⟨r4, n5, g6, h⟩ := bo2 h
    refine zb_callV (As := [.int ((-1) : Int32)]) (rest := []) ⟨hx, hb, hml, hown, hts⟩ (zc_X1_refuse l D cI ad g_now g_mind g_taken g_isTaken g_letters g_letterCount g_told g_toldCount g_refusals g_costs g_gains g_seed ((-1) : Int32) r4 n5 g6) (cwV 1 hts gX1_heads_X1_refuse rfl rfl rfl hd_X1_refuse ⟨Nat.le_of_ble_eq_true rfl, Nat.le_of_ble_eq_true rfl⟩) hK hP hD hS hA (zb_sG) (q0 := 0) rfl rfl rfl hl.1 rfl (Nat.le_of_ble_eq_true rfl) dX1_heads_20 ⟨Nat.le_refl _, Nat.le_refl _⟩ (fun H locs hP hD hS => ?_)
    obtain ⟨rfl, rfl, rfl⟩ := re3 h
    exact zb_iret hx hb hr hlk hP hS dX1_heads_23
  · replace h := it_f c3 h
    refine lv_iload_n hx hb dX1_heads_11 rfl (lv_at hl 2 rfl) ?_
    obtain ⟨r7, g8, h⟩ := bo1 h
    refine zb_callS (As := [.int v2]) (rest := []) ⟨hx, hb, hml, hown, hts⟩ (zc_X1_isWay l D cI v2 r7 g8) (va_cwS 1 hts gX1_heads_X1_isWay rfl rfl rfl hd_X1_isWay.2 ⟨Nat.le_of_ble_eq_true rfl, Nat.le_of_ble_eq_true rfl⟩) hK hP hD hS hA (zb_none _) rfl hl.1 rfl (Nat.le_of_ble_eq_true rfl) dX1_heads_12 ⟨Nat.le_refl _, Nat.le_refl _⟩ (fun H locs hP hD hS => ?_)
    refine lv_if_ne (tgt := 24) hx hb dX1_heads_15 (by decide) (fun c9 => ?_) (fun c9 => ?_)
    · replace h := it_f c9 h
      refine lv_aload_n hx hb dX1_heads_24 rfl (lv_at hl 0 rfl) ?_
      refine va_get (D := D) (ci := 1) (v := .ref (ad 1)) (C := RX1) (T := TX1) (N := 12) hx hb hts zi_X1_heads_X1 hown hK.1 hP 0 rfl rfl 0 (by decide) (hts _ zk_X1_heads_0) (fun _ h9 => h9) rfl dX1_heads_25 ?_
      refine lv_iload_n hx hb dX1_heads_28 rfl (lv_at hl 1 rfl) ?_
      obtain ⟨r10, g11, h⟩ := bo1 h
      refine zb_callV (As := [.int v1]) (rest := []) ⟨hx, hb, hml, hown, hts⟩ (zc_X0_headingOf l D cI (ad 1) (ad 2) (ad 3) (ad 4) (ad 5) (ad 6) (ad 7) g_now v1 r10 g11) (cwV 1 hts gX1_heads_X0_headingOf rfl rfl rfl hd_X0_headingOf ⟨Nat.le_of_ble_eq_true rfl, Nat.le_of_ble_eq_true rfl⟩) hK hP hD hS hA (zb_cGn) (q0 := 0) rfl rfl rfl hl.1 rfl (Nat.le_of_ble_eq_true rfl) dX1_heads_29 ⟨Nat.le_refl _, Nat.le_refl _⟩ (fun H locs hP hD hS => ?_)
      refine lv_istore_n (lv' := [(3, .int r10), (0, .ref (ad 0)), (1, .int v1), (2, .int v2)]) hx hb dX1_heads_32 rfl hl (by decide) rfl (fun ls hl => ?_)
      refine lv_aload_n hx hb dX1_heads_33 rfl (lv_at hl 1 rfl) ?_
      refine va_get (D := D) (ci := 1) (v := .ref (ad 1)) (C := RX1) (T := TX1) (N := 12) hx hb hts zi_X1_heads_X1 hown hK.1 hP 0 rfl rfl 0 (by decide) (hts _ zk_X1_heads_0) (fun _ h9 => h9) rfl dX1_heads_34 ?_
      refine lv_iload_n hx hb dX1_heads_37 rfl (lv_at hl 2 rfl) ?_
      refine lv_iload_n hx hb dX1_heads_38 rfl (lv_at hl 3 rfl) ?_
      obtain ⟨n12, g13, h⟩ := bo1 h
      refine zb_callV (As := [.int v1, .int v2]) (rest := []) ⟨hx, hb, hml, hown, hts⟩ (zc_X0_putHeading l D cI (ad 1) (ad 2) (ad 3) (ad 4) (ad 5) (ad 6) (ad 7) g_now v1 v2 n12 g13) (cwV 2 hts gX1_heads_X0_putHeading rfl rfl rfl hd_X0_putHeading ⟨Nat.le_of_ble_eq_true rfl, Nat.le_of_ble_eq_true rfl⟩) hK hP hD hS hA (zb_cGn) (q0 := 0) rfl rfl rfl hl.1 rfl (Nat.le_of_ble_eq_true rfl) dX1_heads_39 ⟨Nat.le_refl _, Nat.le_refl _⟩ (fun H locs hP hD hS => ?_)
      refine lv_iload_n hx hb dX1_heads_42 rfl (lv_at hl 0 rfl) ?_
      obtain ⟨rfl, rfl, rfl⟩ := re3 h
      exact zb_iret hx hb hr hlk hP hS dX1_heads_43
    · replace h := it_t c9 h
      refine lv_aload_n hx hb dX1_heads_18 rfl (lv_at hl 0 rfl) ?_
      refine lv_iconst (v := ((-1) : Int32)) hx hb dX1_heads_19 (by decide) ?_
      obtain ⟨r14, n15, g16, h⟩ := bo2 h
      refine zb_callV (As := [.int ((-1) : Int32)]) (rest := []) ⟨hx, hb, hml, hown, hts⟩ (zc_X1_refuse l D cI ad g_now g_mind g_taken g_isTaken g_letters g_letterCount g_told g_toldCount g_refusals g_costs g_gains g_seed ((-1) : Int32) r14 n15 g16) (cwV 1 hts gX1_heads_X1_refuse rfl rfl rfl hd_X1_refuse ⟨Nat.le_of_ble_eq_true rfl, Nat.le_of_ble_eq_true rfl⟩) hK hP hD hS hA (zb_sG) (q0 := 0) rfl rfl rfl hl.1 rfl (Nat.le_of_ble_eq_true rfl) dX1_heads_20 ⟨Nat.le_refl _, Nat.le_refl _⟩ (fun H locs hP hD hS => ?_)
      obtain ⟨rfl, rfl, rfl⟩ := re3 h
      exact zb_iret hx hb hr hlk hP hS dX1_heads_23
abbrev rm_X1_stands : Room := { frames := 2, cells := 0, slots := 0, locals := 43 }
theorem hd_X1_stands : yX1_stands.cls = RX1 ∧ yX1_stands.cls ≠ "java/lang/invoke/MethodHandle" ∧ yX1_stands.cls ≠ "java/lang/invoke/VarHandle" ∧ (parseMethodDescriptor yX1_stands.desc).map (fun d => d.parameters.length) = some 2 := by decide +kernel
theorem zi_X1_stands_X1 : ∀ w ∈ wsX10, w ∈ wsX1_stands := fun _ h => List.mem_cons_of_mem _ (List.mem_append_left _ (List.mem_append_right _ h))
theorem zk_X1_stands_0 : Cond.fieldLink RX1 10 "GroutingIsFollowed" "now" "LGroutingIsFollowed$Bath;" ∈ wsX1_stands := by decide +kernel
set_option maxHeartbeats 4000000 in
set_option maxRecDepth 100000 in
theorem zc_X1_stands (l : Launch) (D : va_G) (cI : ClassId) (ad : Nat → Nat) (g_now : BT) (g_mind : BT) (g_taken : BT) (g_isTaken : Int32) (g_letters : (Nat → Int32)) (g_letterCount : Int32) (g_told : (Nat → Int32)) (g_toldCount : Int32) (g_refusals : (Nat → Int32)) (g_costs : (Nat → Int32)) (g_gains : (Nat → Int32)) (g_seed : Int32) (v1 : Int32) (v2 : Int32) (r0 : Int32) (w_g_now : BT) (w_g_refusals : (Nat → Int32)) (h : zf_X1_stands g_now g_refusals v1 v2 = some (r0, w_g_now, w_g_refusals)) : Cn l D cI yX1_stands wsX1_stands rm_X1_stands [.ref (ad 0), .int v1, .int v2] (zb_G cI ad g_now g_mind g_taken g_isTaken g_letters g_letterCount g_told g_toldCount g_refusals g_costs g_gains g_seed) (some (.int r0)) (zb_G cI ad w_g_now g_mind g_taken g_isTaken g_letters g_letterCount g_told g_toldCount w_g_refusals g_costs g_gains g_seed) := by
  refine zb_ofW (cc := cX1_stands) (maxL := 4) (ret := (some .int)) (by decide) rfl (Nat.le_of_ble_eq_true rfl) ?_
  intro p e s m args below meth c A ls hx hb hr hml hts hown hlk hK hP hD hA hl
  have hS : va_S A s.heap s.heap [] := va_S.rf
  have hl : lv_has ls 4 [(0, .ref (ad 0)), (1, .int v1), (2, .int v2)] := hl
  unfold zf_X1_stands at h
  refine lv_aload_n hx hb dX1_stands_0 rfl (lv_at hl 0 rfl) ?_
  refine va_get (D := D) (ci := 1) (v := .ref (ad 1)) (C := RX1) (T := TX1) (N := 12) hx hb hts zi_X1_stands_X1 hown hK.1 hP 0 rfl rfl 0 (by decide) (hts _ zk_X1_stands_0) (fun _ h9 => h9) rfl dX1_stands_1 ?_
  refine lv_iload_n hx hb dX1_stands_4 rfl (lv_at hl 1 rfl) ?_
  obtain ⟨r1, g2, h⟩ := bo1 h
  refine zb_callV (As := [.int v1]) (rest := []) ⟨hx, hb, hml, hown, hts⟩ (zc_X0_has l D cI (ad 1) (ad 2) (ad 3) (ad 4) (ad 5) (ad 6) (ad 7) g_now v1 r1 g2) (cwV 1 hts gX1_stands_X0_has rfl rfl rfl hd_X0_has ⟨Nat.le_of_ble_eq_true rfl, Nat.le_of_ble_eq_true rfl⟩) hK hP hD hS hA (zb_cGn) (q0 := 0) rfl rfl rfl hl.1 rfl (Nat.le_of_ble_eq_true rfl) dX1_stands_5 ⟨Nat.le_refl _, Nat.le_refl _⟩ (fun H locs hP hD hS => ?_)
  refine lv_if_eq (tgt := 18) hx hb dX1_stands_8 (by decide) (fun c3 => ?_) (fun c3 => ?_)
  · replace h := it_t c3 h
    refine lv_aload_n hx hb dX1_stands_18 rfl (lv_at hl 0 rfl) ?_
    refine lv_iconst (v := ((-1) : Int32)) hx hb dX1_stands_19 (by decide) ?_
    obtain ⟨r4, n5, g6, h⟩ := bo2 h
    refine zb_callV (As := [.int ((-1) : Int32)]) (rest := []) ⟨hx, hb, hml, hown, hts⟩ (zc_X1_refuse l D cI ad g_now g_mind g_taken g_isTaken g_letters g_letterCount g_told g_toldCount g_refusals g_costs g_gains g_seed ((-1) : Int32) r4 n5 g6) (cwV 1 hts gX1_stands_X1_refuse rfl rfl rfl hd_X1_refuse ⟨Nat.le_of_ble_eq_true rfl, Nat.le_of_ble_eq_true rfl⟩) hK hP hD hS hA (zb_sG) (q0 := 0) rfl rfl rfl hl.1 rfl (Nat.le_of_ble_eq_true rfl) dX1_stands_20 ⟨Nat.le_refl _, Nat.le_refl _⟩ (fun H locs hP hD hS => ?_)
    obtain ⟨rfl, rfl, rfl⟩ := re3 h
    exact zb_iret hx hb hr hlk hP hS dX1_stands_23
  · replace h := it_f c3 h
    refine lv_iload_n hx hb dX1_stands_11 rfl (lv_at hl 2 rfl) ?_
    obtain ⟨r7, g8, h⟩ := bo1 h
    refine zb_callS (As := [.int v2]) (rest := []) ⟨hx, hb, hml, hown, hts⟩ (zc_X1_isNode l D cI v2 r7 g8) (va_cwS 1 hts gX1_stands_X1_isNode rfl rfl rfl hd_X1_isNode.2 ⟨Nat.le_of_ble_eq_true rfl, Nat.le_of_ble_eq_true rfl⟩) hK hP hD hS hA (zb_none _) rfl hl.1 rfl (Nat.le_of_ble_eq_true rfl) dX1_stands_12 ⟨Nat.le_refl _, Nat.le_refl _⟩ (fun H locs hP hD hS => ?_)
    refine lv_if_ne (tgt := 24) hx hb dX1_stands_15 (by decide) (fun c9 => ?_) (fun c9 => ?_)
    · replace h := it_f c9 h
      refine lv_aload_n hx hb dX1_stands_24 rfl (lv_at hl 0 rfl) ?_
      refine va_get (D := D) (ci := 1) (v := .ref (ad 1)) (C := RX1) (T := TX1) (N := 12) hx hb hts zi_X1_stands_X1 hown hK.1 hP 0 rfl rfl 0 (by decide) (hts _ zk_X1_stands_0) (fun _ h9 => h9) rfl dX1_stands_25 ?_
      refine lv_iload_n hx hb dX1_stands_28 rfl (lv_at hl 1 rfl) ?_
      obtain ⟨r10, g11, h⟩ := bo1 h
      refine zb_callV (As := [.int v1]) (rest := []) ⟨hx, hb, hml, hown, hts⟩ (zc_X0_placeOf l D cI (ad 1) (ad 2) (ad 3) (ad 4) (ad 5) (ad 6) (ad 7) g_now v1 r10 g11) (cwV 1 hts gX1_stands_X0_placeOf rfl rfl rfl hd_X0_placeOf ⟨Nat.le_of_ble_eq_true rfl, Nat.le_of_ble_eq_true rfl⟩) hK hP hD hS hA (zb_cGn) (q0 := 0) rfl rfl rfl hl.1 rfl (Nat.le_of_ble_eq_true rfl) dX1_stands_29 ⟨Nat.le_refl _, Nat.le_refl _⟩ (fun H locs hP hD hS => ?_)
      refine lv_istore_n (lv' := [(3, .int r10), (0, .ref (ad 0)), (1, .int v1), (2, .int v2)]) hx hb dX1_stands_32 rfl hl (by decide) rfl (fun ls hl => ?_)
      refine lv_aload_n hx hb dX1_stands_33 rfl (lv_at hl 1 rfl) ?_
      refine va_get (D := D) (ci := 1) (v := .ref (ad 1)) (C := RX1) (T := TX1) (N := 12) hx hb hts zi_X1_stands_X1 hown hK.1 hP 0 rfl rfl 0 (by decide) (hts _ zk_X1_stands_0) (fun _ h9 => h9) rfl dX1_stands_34 ?_
      refine lv_iload_n hx hb dX1_stands_37 rfl (lv_at hl 2 rfl) ?_
      refine lv_iload_n hx hb dX1_stands_38 rfl (lv_at hl 3 rfl) ?_
      obtain ⟨n12, g13, h⟩ := bo1 h
      refine zb_callV (As := [.int v1, .int v2]) (rest := []) ⟨hx, hb, hml, hown, hts⟩ (zc_X0_putPlace l D cI (ad 1) (ad 2) (ad 3) (ad 4) (ad 5) (ad 6) (ad 7) g_now v1 v2 n12 g13) (cwV 2 hts gX1_stands_X0_putPlace rfl rfl rfl hd_X0_putPlace ⟨Nat.le_of_ble_eq_true rfl, Nat.le_of_ble_eq_true rfl⟩) hK hP hD hS hA (zb_cGn) (q0 := 0) rfl rfl rfl hl.1 rfl (Nat.le_of_ble_eq_true rfl) dX1_stands_39 ⟨Nat.le_refl _, Nat.le_refl _⟩ (fun H locs hP hD hS => ?_)
      refine lv_iload_n hx hb dX1_stands_42 rfl (lv_at hl 0 rfl) ?_
      obtain ⟨rfl, rfl, rfl⟩ := re3 h
      exact zb_iret hx hb hr hlk hP hS dX1_stands_43
    · replace h := it_t c9 h
      refine lv_aload_n hx hb dX1_stands_18 rfl (lv_at hl 0 rfl) ?_
      refine lv_iconst (v := ((-1) : Int32)) hx hb dX1_stands_19 (by decide) ?_
      obtain ⟨r14, n15, g16, h⟩ := bo2 h
      refine zb_callV (As := [.int ((-1) : Int32)]) (rest := []) ⟨hx, hb, hml, hown, hts⟩ (zc_X1_refuse l D cI ad g_now g_mind g_taken g_isTaken g_letters g_letterCount g_told g_toldCount g_refusals g_costs g_gains g_seed ((-1) : Int32) r14 n15 g16) (cwV 1 hts gX1_stands_X1_refuse rfl rfl rfl hd_X1_refuse ⟨Nat.le_of_ble_eq_true rfl, Nat.le_of_ble_eq_true rfl⟩) hK hP hD hS hA (zb_sG) (q0 := 0) rfl rfl rfl hl.1 rfl (Nat.le_of_ble_eq_true rfl) dX1_stands_20 ⟨Nat.le_refl _, Nat.le_refl _⟩ (fun H locs hP hD hS => ?_)
      obtain ⟨rfl, rfl, rfl⟩ := re3 h
      exact zb_iret hx hb hr hlk hP hS dX1_stands_23
abbrev rm_X1_steps : Room := { frames := 4, cells := 0, slots := 0, locals := 90 }
theorem hd_X1_steps : yX1_steps.cls = RX1 ∧ yX1_steps.cls ≠ "java/lang/invoke/MethodHandle" ∧ yX1_steps.cls ≠ "java/lang/invoke/VarHandle" ∧ (parseMethodDescriptor yX1_steps.desc).map (fun d => d.parameters.length) = some 1 := by decide +kernel
theorem zi_X1_steps_X1 : ∀ w ∈ wsX10, w ∈ wsX1_steps := fun _ h => List.mem_cons_of_mem _ (List.mem_append_left _ (List.mem_append_right _ h))
theorem zk_X1_steps_0 : Cond.fieldLink RX1 10 "GroutingIsFollowed" "now" "LGroutingIsFollowed$Bath;" ∈ wsX1_steps := by decide +kernel
set_option maxHeartbeats 4000000 in
set_option maxRecDepth 100000 in
theorem zc_X1_steps (l : Launch) (D : va_G) (cI : ClassId) (ad : Nat → Nat) (g_now : BT) (g_mind : BT) (g_taken : BT) (g_isTaken : Int32) (g_letters : (Nat → Int32)) (g_letterCount : Int32) (g_told : (Nat → Int32)) (g_toldCount : Int32) (g_refusals : (Nat → Int32)) (g_costs : (Nat → Int32)) (g_gains : (Nat → Int32)) (g_seed : Int32) (v1 : Int32) (r0 : Int32) (w_g_now : BT) (w_g_refusals : (Nat → Int32)) (h : zf_X1_steps g_now g_refusals v1 = some (r0, w_g_now, w_g_refusals)) : Cn l D cI yX1_steps wsX1_steps rm_X1_steps [.ref (ad 0), .int v1] (zb_G cI ad g_now g_mind g_taken g_isTaken g_letters g_letterCount g_told g_toldCount g_refusals g_costs g_gains g_seed) (some (.int r0)) (zb_G cI ad w_g_now g_mind g_taken g_isTaken g_letters g_letterCount g_told g_toldCount w_g_refusals g_costs g_gains g_seed) := by
  refine zb_ofW (cc := cX1_steps) (maxL := 3) (ret := (some .int)) (by decide) rfl (Nat.le_of_ble_eq_true rfl) ?_
  intro p e s m args below meth c A ls hx hb hr hml hts hown hlk hK hP hD hA hl
  have hS : va_S A s.heap s.heap [] := va_S.rf
  have hl : lv_has ls 3 [(0, .ref (ad 0)), (1, .int v1)] := hl
  unfold zf_X1_steps at h
  refine lv_iload_n hx hb dX1_steps_0 rfl (lv_at hl 1 rfl) ?_
  refine lv_iconst (v := (1 : Int32)) hx hb dX1_steps_1 (by decide) ?_
  refine lv_bipush (v := (60 : Int32)) hx hb dX1_steps_2 (by decide) ?_
  obtain ⟨r1, g2, h⟩ := bo1 h
  refine zb_callS (As := [.int v1, .int (1 : Int32), .int (60 : Int32)]) (rest := []) ⟨hx, hb, hml, hown, hts⟩ (zc_X1_outside l D cI v1 (1 : Int32) (60 : Int32) r1 g2) (va_cwS 3 hts gX1_steps_X1_outside rfl rfl rfl hd_X1_outside.2 ⟨Nat.le_of_ble_eq_true rfl, Nat.le_of_ble_eq_true rfl⟩) hK hP hD hS hA (zb_none _) rfl hl.1 rfl (Nat.le_of_ble_eq_true rfl) dX1_steps_4 ⟨Nat.le_refl _, Nat.le_refl _⟩ (fun H locs hP hD hS => ?_)
  refine lv_istore_n (lv' := [(2, .int r1), (0, .ref (ad 0)), (1, .int v1)]) hx hb dX1_steps_7 rfl hl (by decide) rfl (fun ls hl => ?_)
  refine lv_iload_n hx hb dX1_steps_8 rfl (lv_at hl 0 rfl) ?_
  refine lv_if_eq (tgt := 18) hx hb dX1_steps_9 (by decide) (fun c3 => ?_) (fun c3 => ?_)
  · replace h := it_t c3 h
    refine lv_aload_n hx hb dX1_steps_18 rfl (lv_at hl 1 rfl) ?_
    refine va_get (D := D) (ci := 1) (v := .ref (ad 1)) (C := RX1) (T := TX1) (N := 12) hx hb hts zi_X1_steps_X1 hown hK.1 hP 0 rfl rfl 0 (by decide) (hts _ zk_X1_steps_0) (fun _ h9 => h9) rfl dX1_steps_19 ?_
    obtain ⟨r4, g5, h⟩ := bo1 h
    refine zb_callV (As := []) (rest := []) ⟨hx, hb, hml, hown, hts⟩ (zc_X0_stepCount l D cI (ad 1) (ad 2) (ad 3) (ad 4) (ad 5) (ad 6) (ad 7) g_now r4 g5) (cwV 0 hts gX1_steps_X0_stepCount rfl rfl rfl hd_X0_stepCount ⟨Nat.le_of_ble_eq_true rfl, Nat.le_of_ble_eq_true rfl⟩) hK hP hD hS hA (zb_cGn) (q0 := 0) rfl rfl rfl hl.1 rfl (Nat.le_of_ble_eq_true rfl) dX1_steps_22 ⟨Nat.le_refl _, Nat.le_refl _⟩ (fun H locs hP hD hS => ?_)
    refine lv_iload_n hx hb dX1_steps_25 rfl (lv_at hl 2 rfl) ?_
    refine lv_iadd hx hb dX1_steps_26 ?_
    refine lv_sipush (v := (999 : Int32)) hx hb dX1_steps_27 (by decide) ?_
    refine lv_icmp_le (tgt := 40) hx hb dX1_steps_30 (by decide) (fun c6 => ?_) (fun c6 => ?_)
    · replace h := it_t c6 h
      refine lv_aload_n hx hb dX1_steps_40 rfl (lv_at hl 1 rfl) ?_
      refine va_get (D := D) (ci := 1) (v := .ref (ad 1)) (C := RX1) (T := TX1) (N := 12) hx hb hts zi_X1_steps_X1 hown hK.1 hP 0 rfl rfl 0 (by decide) (hts _ zk_X1_steps_0) (fun _ h9 => h9) rfl dX1_steps_41 ?_
      refine lv_iload_n hx hb dX1_steps_44 rfl (lv_at hl 2 rfl) ?_
      refine lv_iconst (v := (0 : Int32)) hx hb dX1_steps_45 (by decide) ?_
      obtain ⟨n7, g8, h⟩ := bo1 h
      refine zb_callV (As := [.int v1, .int (0 : Int32)]) (rest := []) ⟨hx, hb, hml, hown, hts⟩ (zc_X0_goOn l D cI (ad 1) (ad 2) (ad 3) (ad 4) (ad 5) (ad 6) (ad 7) g_now v1 (0 : Int32) n7 g8) (cwV 2 hts gX1_steps_X0_goOn rfl rfl rfl hd_X0_goOn ⟨Nat.le_of_ble_eq_true rfl, Nat.le_of_ble_eq_true rfl⟩) hK hP hD hS hA (zb_cGn) (q0 := 0) rfl rfl rfl hl.1 rfl (Nat.le_of_ble_eq_true rfl) dX1_steps_46 ⟨Nat.le_refl _, Nat.le_refl _⟩ (fun H locs hP hD hS => ?_)
      refine lv_aload_n hx hb dX1_steps_49 rfl (lv_at hl 1 rfl) ?_
      refine va_get (D := D) (ci := 1) (v := .ref (ad 1)) (C := RX1) (T := TX1) (N := 12) hx hb hts zi_X1_steps_X1 hown hK.1 hP 0 rfl rfl 0 (by decide) (hts _ zk_X1_steps_0) (fun _ h9 => h9) rfl dX1_steps_50 ?_
      obtain ⟨r9, g10, h⟩ := bo1 h
      refine zb_callV (As := []) (rest := []) ⟨hx, hb, hml, hown, hts⟩ (zc_X0_allWet l D cI (ad 1) (ad 2) (ad 3) (ad 4) (ad 5) (ad 6) (ad 7) n7 r9 g10) (cwV 0 hts gX1_steps_X0_allWet rfl rfl rfl hd_X0_allWet ⟨Nat.le_of_ble_eq_true rfl, Nat.le_of_ble_eq_true rfl⟩) hK hP hD hS hA (zb_cGn) (q0 := 0) rfl rfl rfl hl.1 rfl (Nat.le_of_ble_eq_true rfl) dX1_steps_53 ⟨Nat.le_refl _, Nat.le_refl _⟩ (fun H locs hP hD hS => ?_)
      obtain ⟨rfl, rfl, rfl⟩ := re3 h
      exact zb_iret hx hb hr hlk hP hS dX1_steps_56
    · replace h := it_f c6 h
      refine lv_aload_n hx hb dX1_steps_33 rfl (lv_at hl 1 rfl) ?_
      refine lv_bipush (v := ((-6) : Int32)) hx hb dX1_steps_34 (by decide) ?_
      obtain ⟨r11, n12, g13, h⟩ := bo2 h
      refine zb_callV (As := [.int ((-6) : Int32)]) (rest := []) ⟨hx, hb, hml, hown, hts⟩ (zc_X1_refuse l D cI ad g_now g_mind g_taken g_isTaken g_letters g_letterCount g_told g_toldCount g_refusals g_costs g_gains g_seed ((-6) : Int32) r11 n12 g13) (cwV 1 hts gX1_steps_X1_refuse rfl rfl rfl hd_X1_refuse ⟨Nat.le_of_ble_eq_true rfl, Nat.le_of_ble_eq_true rfl⟩) hK hP hD hS hA (zb_sG) (q0 := 0) rfl rfl rfl hl.1 rfl (Nat.le_of_ble_eq_true rfl) dX1_steps_36 ⟨Nat.le_refl _, Nat.le_refl _⟩ (fun H locs hP hD hS => ?_)
      obtain ⟨rfl, rfl, rfl⟩ := re3 h
      exact zb_iret hx hb hr hlk hP hS dX1_steps_39
  · replace h := it_f c3 h
    refine lv_aload_n hx hb dX1_steps_12 rfl (lv_at hl 1 rfl) ?_
    refine lv_iload_n hx hb dX1_steps_13 rfl (lv_at hl 0 rfl) ?_
    obtain ⟨r14, n15, g16, h⟩ := bo2 h
    refine zb_callV (As := [.int r1]) (rest := []) ⟨hx, hb, hml, hown, hts⟩ (zc_X1_refuse l D cI ad g_now g_mind g_taken g_isTaken g_letters g_letterCount g_told g_toldCount g_refusals g_costs g_gains g_seed r1 r14 n15 g16) (cwV 1 hts gX1_steps_X1_refuse rfl rfl rfl hd_X1_refuse ⟨Nat.le_of_ble_eq_true rfl, Nat.le_of_ble_eq_true rfl⟩) hK hP hD hS hA (zb_sG) (q0 := 0) rfl rfl rfl hl.1 rfl (Nat.le_of_ble_eq_true rfl) dX1_steps_14 ⟨Nat.le_refl _, Nat.le_refl _⟩ (fun H locs hP hD hS => ?_)
    obtain ⟨rfl, rfl, rfl⟩ := re3 h
    exact zb_iret hx hb hr hlk hP hS dX1_steps_17
abbrev rm_X1_personThen : Room := { frames := 4, cells := 0, slots := 0, locals := 90 }
theorem hd_X1_personThen : yX1_personThen.cls = RX1 ∧ yX1_personThen.cls ≠ "java/lang/invoke/MethodHandle" ∧ yX1_personThen.cls ≠ "java/lang/invoke/VarHandle" ∧ (parseMethodDescriptor yX1_personThen.desc).map (fun d => d.parameters.length) = some 3 := by decide +kernel
theorem zi_X1_personThen_X1 : ∀ w ∈ wsX10, w ∈ wsX1_personThen := fun _ h => List.mem_cons_of_mem _ (List.mem_append_left _ (List.mem_append_right _ h))
theorem zk_X1_personThen_0 : Cond.fieldLink RX1 10 "GroutingIsFollowed" "now" "LGroutingIsFollowed$Bath;" ∈ wsX1_personThen := by decide +kernel
theorem zk_X1_personThen_1 : Cond.fieldLink RX1 16 "GroutingIsFollowed" "mind" "LGroutingIsFollowed$Bath;" ∈ wsX1_personThen := by decide +kernel
set_option maxHeartbeats 4000000 in
set_option maxRecDepth 100000 in
theorem zc_X1_personThen (l : Launch) (D : va_G) (cI : ClassId) (ad : Nat → Nat) (g_now : BT) (g_mind : BT) (g_taken : BT) (g_isTaken : Int32) (g_letters : (Nat → Int32)) (g_letterCount : Int32) (g_told : (Nat → Int32)) (g_toldCount : Int32) (g_refusals : (Nat → Int32)) (g_costs : (Nat → Int32)) (g_gains : (Nat → Int32)) (g_seed : Int32) (v1 : Int32) (v2 : Int32) (v3 : Int32) (r0 : Int32) (w_g_mind : BT) (w_g_refusals : (Nat → Int32)) (h : zf_X1_personThen g_now g_mind g_refusals v1 v2 v3 = some (r0, w_g_mind, w_g_refusals)) : Cn l D cI yX1_personThen wsX1_personThen rm_X1_personThen [.ref (ad 0), .int v1, .int v2, .int v3] (zb_G cI ad g_now g_mind g_taken g_isTaken g_letters g_letterCount g_told g_toldCount g_refusals g_costs g_gains g_seed) (some (.int r0)) (zb_G cI ad g_now w_g_mind g_taken g_isTaken g_letters g_letterCount g_told g_toldCount w_g_refusals g_costs g_gains g_seed) := by
  refine zb_ofW (cc := cX1_personThen) (maxL := 5) (ret := (some .int)) (by decide) rfl (Nat.le_of_ble_eq_true rfl) ?_
  intro p e s m args below meth c A ls hx hb hr hml hts hown hlk hK hP hD hA hl
  have hS : va_S A s.heap s.heap [] := va_S.rf
  have hl : lv_has ls 5 [(0, .ref (ad 0)), (1, .int v1), (2, .int v2), (3, .int v3)] := hl
  unfold zf_X1_personThen at h
  refine lv_aload_n hx hb dX1_personThen_0 rfl (lv_at hl 0 rfl) ?_
  refine va_get (D := D) (ci := 1) (v := .ref (ad 1)) (C := RX1) (T := TX1) (N := 12) hx hb hts zi_X1_personThen_X1 hown hK.1 hP 0 rfl rfl 0 (by decide) (hts _ zk_X1_personThen_0) (fun _ h9 => h9) rfl dX1_personThen_1 ?_
  refine lv_iload_n hx hb dX1_personThen_4 rfl (lv_at hl 1 rfl) ?_
  obtain ⟨r1, g2, h⟩ := bo1 h
  refine zb_callV (As := [.int v1]) (rest := []) ⟨hx, hb, hml, hown, hts⟩ (zc_X0_has l D cI (ad 1) (ad 2) (ad 3) (ad 4) (ad 5) (ad 6) (ad 7) g_now v1 r1 g2) (cwV 1 hts gX1_personThen_X0_has rfl rfl rfl hd_X0_has ⟨Nat.le_of_ble_eq_true rfl, Nat.le_of_ble_eq_true rfl⟩) hK hP hD hS hA (zb_cGn) (q0 := 0) rfl rfl rfl hl.1 rfl (Nat.le_of_ble_eq_true rfl) dX1_personThen_5 ⟨Nat.le_refl _, Nat.le_refl _⟩ (fun H locs hP hD hS => ?_)
  refine lv_if_ne (tgt := 17) hx hb dX1_personThen_8 (by decide) (fun c3 => ?_) (fun c3 => ?_)
  · replace h := it_f c3 h
    refine lv_iload_n hx hb dX1_personThen_17 rfl (lv_at hl 2 rfl) ?_
    refine lv_iconst (v := (0 : Int32)) hx hb dX1_personThen_18 (by decide) ?_
    refine lv_bipush (v := (60 : Int32)) hx hb dX1_personThen_19 (by decide) ?_
    obtain ⟨r4, g5, h⟩ := bo1 h
    refine zb_callS (As := [.int v2, .int (0 : Int32), .int (60 : Int32)]) (rest := []) ⟨hx, hb, hml, hown, hts⟩ (zc_X1_outside l D cI v2 (0 : Int32) (60 : Int32) r4 g5) (va_cwS 3 hts gX1_personThen_X1_outside rfl rfl rfl hd_X1_outside.2 ⟨Nat.le_of_ble_eq_true rfl, Nat.le_of_ble_eq_true rfl⟩) hK hP hD hS hA (zb_none _) rfl hl.1 rfl (Nat.le_of_ble_eq_true rfl) dX1_personThen_21 ⟨Nat.le_refl _, Nat.le_refl _⟩ (fun H locs hP hD hS => ?_)
    refine lv_istore (lv' := [(4, .int r4), (0, .ref (ad 0)), (1, .int v1), (2, .int v2), (3, .int v3)]) hx hb dX1_personThen_24 hl (by decide) rfl (fun ls hl => ?_)
    refine lv_iload hx hb dX1_personThen_26 (lv_at hl 0 rfl) ?_
    refine lv_if_eq (tgt := 38) hx hb dX1_personThen_28 (by decide) (fun c6 => ?_) (fun c6 => ?_)
    · replace h := it_t c6 h
      refine lv_iload_n hx hb dX1_personThen_38 rfl (lv_at hl 4 rfl) ?_
      refine lv_if_lt (tgt := 47) hx hb dX1_personThen_39 (by decide) (fun c7 => ?_) (fun c7 => ?_)
      · replace h := it_t c7 h
        refine lv_aload_n hx hb dX1_personThen_47 rfl (lv_at hl 1 rfl) ?_
        refine lv_bipush (v := ((-2) : Int32)) hx hb dX1_personThen_48 (by decide) ?_
        obtain ⟨r8, n9, g10, h⟩ := bo2 h
        refine zb_callV (As := [.int ((-2) : Int32)]) (rest := []) ⟨hx, hb, hml, hown, hts⟩ (zc_X1_refuse l D cI ad g_now g_mind g_taken g_isTaken g_letters g_letterCount g_told g_toldCount g_refusals g_costs g_gains g_seed ((-2) : Int32) r8 n9 g10) (cwV 1 hts gX1_personThen_X1_refuse rfl rfl rfl hd_X1_refuse ⟨Nat.le_of_ble_eq_true rfl, Nat.le_of_ble_eq_true rfl⟩) hK hP hD hS hA (zb_sG) (q0 := 0) rfl rfl rfl hl.1 rfl (Nat.le_of_ble_eq_true rfl) dX1_personThen_50 ⟨Nat.le_refl _, Nat.le_refl _⟩ (fun H locs hP hD hS => ?_)
        obtain ⟨rfl, rfl, rfl⟩ := re3 h
        exact zb_iret hx hb hr hlk hP hS dX1_personThen_53
      · replace h := it_f c7 h
        refine lv_iload_n hx hb dX1_personThen_42 rfl (lv_at hl 4 rfl) ?_
        refine lv_iconst (v := (2 : Int32)) hx hb dX1_personThen_43 (by decide) ?_
        refine lv_icmp_le (tgt := 54) hx hb dX1_personThen_44 (by decide) (fun c11 => ?_) (fun c11 => ?_)
        · replace h := it_t c11 h
          refine lv_aload_n hx hb dX1_personThen_54 rfl (lv_at hl 1 rfl) ?_
          refine va_get (D := D) (ci := 1) (v := .ref (ad 8)) (C := RX1) (T := TX1) (N := 12) hx hb hts zi_X1_personThen_X1 hown hK.1 hP 0 rfl rfl 1 (by decide) (hts _ zk_X1_personThen_1) (fun _ h9 => h9) rfl dX1_personThen_55 ?_
          refine lv_aload_n hx hb dX1_personThen_58 rfl (lv_at hl 1 rfl) ?_
          refine va_get (D := D) (ci := 1) (v := .ref (ad 1)) (C := RX1) (T := TX1) (N := 12) hx hb hts zi_X1_personThen_X1 hown hK.1 hP 0 rfl rfl 0 (by decide) (hts _ zk_X1_personThen_0) (fun _ h9 => h9) rfl dX1_personThen_59 ?_
          obtain ⟨n12, g13, h⟩ := bo1 h
          refine zb_callV (As := [.ref (ad 1)]) (rest := []) ⟨hx, hb, hml, hown, hts⟩ (zc_X0_becomes l D cI (ad 8) (ad 9) (ad 10) (ad 11) (ad 12) (ad 13) (ad 14) (ad 1) (ad 2) (ad 3) (ad 4) (ad 5) (ad 6) (ad 7) g_mind g_now n12 g13) (cwV 1 hts gX1_personThen_X0_becomes rfl rfl rfl hd_X0_becomes ⟨Nat.le_of_ble_eq_true rfl, Nat.le_of_ble_eq_true rfl⟩) hK hP hD hS hA (zb_cGmn) (q0 := 0) rfl rfl rfl hl.1 rfl (Nat.le_of_ble_eq_true rfl) dX1_personThen_62 ⟨Nat.le_refl _, Nat.le_refl _⟩ (fun H locs hP hD hS => ?_)
          refine lv_aload_n hx hb dX1_personThen_65 rfl (lv_at hl 1 rfl) ?_
          refine va_get (D := D) (ci := 1) (v := .ref (ad 8)) (C := RX1) (T := TX1) (N := 12) hx hb hts zi_X1_personThen_X1 hown hK.1 hP 0 rfl rfl 1 (by decide) (hts _ zk_X1_personThen_1) (fun _ h9 => h9) rfl dX1_personThen_66 ?_
          refine lv_iload_n hx hb dX1_personThen_69 rfl (lv_at hl 3 rfl) ?_
          refine lv_iconst (v := (0 : Int32)) hx hb dX1_personThen_70 (by decide) ?_
          obtain ⟨n14, g15, h⟩ := bo1 h
          refine zb_callV (As := [.int v2, .int (0 : Int32)]) (rest := []) ⟨hx, hb, hml, hown, hts⟩ (zc_X0_goOn l D cI (ad 8) (ad 9) (ad 10) (ad 11) (ad 12) (ad 13) (ad 14) n12 v2 (0 : Int32) n14 g15) (cwV 2 hts gX1_personThen_X0_goOn rfl rfl rfl hd_X0_goOn ⟨Nat.le_of_ble_eq_true rfl, Nat.le_of_ble_eq_true rfl⟩) hK hP hD hS hA (zb_cGm) (q0 := 0) rfl rfl rfl hl.1 rfl (Nat.le_of_ble_eq_true rfl) dX1_personThen_71 ⟨Nat.le_refl _, Nat.le_refl _⟩ (fun H locs hP hD hS => ?_)
          refine lv_aload_n hx hb dX1_personThen_74 rfl (lv_at hl 1 rfl) ?_
          refine va_get (D := D) (ci := 1) (v := .ref (ad 8)) (C := RX1) (T := TX1) (N := 12) hx hb hts zi_X1_personThen_X1 hown hK.1 hP 0 rfl rfl 1 (by decide) (hts _ zk_X1_personThen_1) (fun _ h9 => h9) rfl dX1_personThen_75 ?_
          refine lv_iload_n hx hb dX1_personThen_78 rfl (lv_at hl 2 rfl) ?_
          refine lv_iload_n hx hb dX1_personThen_79 rfl (lv_at hl 4 rfl) ?_
          obtain ⟨r16, g17, h⟩ := bo1 h
          refine zb_callV (As := [.int v1, .int v3]) (rest := []) ⟨hx, hb, hml, hown, hts⟩ (zc_X0_ofPerson l D cI (ad 8) (ad 9) (ad 10) (ad 11) (ad 12) (ad 13) (ad 14) n14 v1 v3 r16 g17) (cwV 2 hts gX1_personThen_X0_ofPerson rfl rfl rfl hd_X0_ofPerson ⟨Nat.le_of_ble_eq_true rfl, Nat.le_of_ble_eq_true rfl⟩) hK hP hD hS hA (zb_cGm) (q0 := 0) rfl rfl rfl hl.1 rfl (Nat.le_of_ble_eq_true rfl) dX1_personThen_80 ⟨Nat.le_refl _, Nat.le_refl _⟩ (fun H locs hP hD hS => ?_)
          obtain ⟨rfl, rfl, rfl⟩ := re3 h
          exact zb_iret hx hb hr hlk hP hS dX1_personThen_83
        · replace h := it_f c11 h
          refine lv_aload_n hx hb dX1_personThen_47 rfl (lv_at hl 1 rfl) ?_
          refine lv_bipush (v := ((-2) : Int32)) hx hb dX1_personThen_48 (by decide) ?_
          obtain ⟨r18, n19, g20, h⟩ := bo2 h
          refine zb_callV (As := [.int ((-2) : Int32)]) (rest := []) ⟨hx, hb, hml, hown, hts⟩ (zc_X1_refuse l D cI ad g_now g_mind g_taken g_isTaken g_letters g_letterCount g_told g_toldCount g_refusals g_costs g_gains g_seed ((-2) : Int32) r18 n19 g20) (cwV 1 hts gX1_personThen_X1_refuse rfl rfl rfl hd_X1_refuse ⟨Nat.le_of_ble_eq_true rfl, Nat.le_of_ble_eq_true rfl⟩) hK hP hD hS hA (zb_sG) (q0 := 0) rfl rfl rfl hl.1 rfl (Nat.le_of_ble_eq_true rfl) dX1_personThen_50 ⟨Nat.le_refl _, Nat.le_refl _⟩ (fun H locs hP hD hS => ?_)
          obtain ⟨rfl, rfl, rfl⟩ := re3 h
          exact zb_iret hx hb hr hlk hP hS dX1_personThen_53
    · replace h := it_f c6 h
      refine lv_aload_n hx hb dX1_personThen_31 rfl (lv_at hl 1 rfl) ?_
      refine lv_iload hx hb dX1_personThen_32 (lv_at hl 0 rfl) ?_
      obtain ⟨r21, n22, g23, h⟩ := bo2 h
      refine zb_callV (As := [.int r4]) (rest := []) ⟨hx, hb, hml, hown, hts⟩ (zc_X1_refuse l D cI ad g_now g_mind g_taken g_isTaken g_letters g_letterCount g_told g_toldCount g_refusals g_costs g_gains g_seed r4 r21 n22 g23) (cwV 1 hts gX1_personThen_X1_refuse rfl rfl rfl hd_X1_refuse ⟨Nat.le_of_ble_eq_true rfl, Nat.le_of_ble_eq_true rfl⟩) hK hP hD hS hA (zb_sG) (q0 := 0) rfl rfl rfl hl.1 rfl (Nat.le_of_ble_eq_true rfl) dX1_personThen_34 ⟨Nat.le_refl _, Nat.le_refl _⟩ (fun H locs hP hD hS => ?_)
      obtain ⟨rfl, rfl, rfl⟩ := re3 h
      exact zb_iret hx hb hr hlk hP hS dX1_personThen_37
  · replace h := it_t c3 h
    refine lv_aload_n hx hb dX1_personThen_11 rfl (lv_at hl 0 rfl) ?_
    refine lv_iconst (v := ((-1) : Int32)) hx hb dX1_personThen_12 (by decide) ?_
    obtain ⟨r24, n25, g26, h⟩ := bo2 h
    refine zb_callV (As := [.int ((-1) : Int32)]) (rest := []) ⟨hx, hb, hml, hown, hts⟩ (zc_X1_refuse l D cI ad g_now g_mind g_taken g_isTaken g_letters g_letterCount g_told g_toldCount g_refusals g_costs g_gains g_seed ((-1) : Int32) r24 n25 g26) (cwV 1 hts gX1_personThen_X1_refuse rfl rfl rfl hd_X1_refuse ⟨Nat.le_of_ble_eq_true rfl, Nat.le_of_ble_eq_true rfl⟩) hK hP hD hS hA (zb_sG) (q0 := 0) rfl rfl rfl hl.1 rfl (Nat.le_of_ble_eq_true rfl) dX1_personThen_13 ⟨Nat.le_refl _, Nat.le_refl _⟩ (fun H locs hP hD hS => ?_)
    obtain ⟨rfl, rfl, rfl⟩ := re3 h
    exact zb_iret hx hb hr hlk hP hS dX1_personThen_16
abbrev rm_X1_wetThen : Room := { frames := 4, cells := 0, slots := 0, locals := 90 }
theorem hd_X1_wetThen : yX1_wetThen.cls = RX1 ∧ yX1_wetThen.cls ≠ "java/lang/invoke/MethodHandle" ∧ yX1_wetThen.cls ≠ "java/lang/invoke/VarHandle" ∧ (parseMethodDescriptor yX1_wetThen.desc).map (fun d => d.parameters.length) = some 2 := by decide +kernel
theorem zi_X1_wetThen_X1 : ∀ w ∈ wsX10, w ∈ wsX1_wetThen := fun _ h => List.mem_cons_of_mem _ (List.mem_append_left _ (List.mem_append_right _ h))
theorem zk_X1_wetThen_0 : Cond.fieldLink RX1 16 "GroutingIsFollowed" "mind" "LGroutingIsFollowed$Bath;" ∈ wsX1_wetThen := by decide +kernel
theorem zk_X1_wetThen_1 : Cond.fieldLink RX1 10 "GroutingIsFollowed" "now" "LGroutingIsFollowed$Bath;" ∈ wsX1_wetThen := by decide +kernel
set_option maxHeartbeats 4000000 in
set_option maxRecDepth 100000 in
theorem zc_X1_wetThen (l : Launch) (D : va_G) (cI : ClassId) (ad : Nat → Nat) (g_now : BT) (g_mind : BT) (g_taken : BT) (g_isTaken : Int32) (g_letters : (Nat → Int32)) (g_letterCount : Int32) (g_told : (Nat → Int32)) (g_toldCount : Int32) (g_refusals : (Nat → Int32)) (g_costs : (Nat → Int32)) (g_gains : (Nat → Int32)) (g_seed : Int32) (v1 : Int32) (v2 : Int32) (r0 : Int32) (w_g_mind : BT) (w_g_refusals : (Nat → Int32)) (h : zf_X1_wetThen g_now g_mind g_refusals v1 v2 = some (r0, w_g_mind, w_g_refusals)) : Cn l D cI yX1_wetThen wsX1_wetThen rm_X1_wetThen [.ref (ad 0), .int v1, .int v2] (zb_G cI ad g_now g_mind g_taken g_isTaken g_letters g_letterCount g_told g_toldCount g_refusals g_costs g_gains g_seed) (some (.int r0)) (zb_G cI ad g_now w_g_mind g_taken g_isTaken g_letters g_letterCount g_told g_toldCount w_g_refusals g_costs g_gains g_seed) := by
  refine zb_ofW (cc := cX1_wetThen) (maxL := 4) (ret := (some .int)) (by decide) rfl (Nat.le_of_ble_eq_true rfl) ?_
  intro p e s m args below meth c A ls hx hb hr hml hts hown hlk hK hP hD hA hl
  have hS : va_S A s.heap s.heap [] := va_S.rf
  have hl : lv_has ls 4 [(0, .ref (ad 0)), (1, .int v1), (2, .int v2)] := hl
  unfold zf_X1_wetThen at h
  refine lv_iload_n hx hb dX1_wetThen_0 rfl (lv_at hl 1 rfl) ?_
  obtain ⟨r1, g2, h⟩ := bo1 h
  refine zb_callS (As := [.int v1]) (rest := []) ⟨hx, hb, hml, hown, hts⟩ (zc_X1_isNode l D cI v1 r1 g2) (va_cwS 1 hts gX1_wetThen_X1_isNode rfl rfl rfl hd_X1_isNode.2 ⟨Nat.le_of_ble_eq_true rfl, Nat.le_of_ble_eq_true rfl⟩) hK hP hD hS hA (zb_none _) rfl hl.1 rfl (Nat.le_of_ble_eq_true rfl) dX1_wetThen_1 ⟨Nat.le_refl _, Nat.le_refl _⟩ (fun H locs hP hD hS => ?_)
  refine lv_if_ne (tgt := 13) hx hb dX1_wetThen_4 (by decide) (fun c3 => ?_) (fun c3 => ?_)
  · replace h := it_f c3 h
    refine lv_iload_n hx hb dX1_wetThen_13 rfl (lv_at hl 2 rfl) ?_
    refine lv_iconst (v := (0 : Int32)) hx hb dX1_wetThen_14 (by decide) ?_
    refine lv_bipush (v := (60 : Int32)) hx hb dX1_wetThen_15 (by decide) ?_
    obtain ⟨r4, g5, h⟩ := bo1 h
    refine zb_callS (As := [.int v2, .int (0 : Int32), .int (60 : Int32)]) (rest := []) ⟨hx, hb, hml, hown, hts⟩ (zc_X1_outside l D cI v2 (0 : Int32) (60 : Int32) r4 g5) (va_cwS 3 hts gX1_wetThen_X1_outside rfl rfl rfl hd_X1_outside.2 ⟨Nat.le_of_ble_eq_true rfl, Nat.le_of_ble_eq_true rfl⟩) hK hP hD hS hA (zb_none _) rfl hl.1 rfl (Nat.le_of_ble_eq_true rfl) dX1_wetThen_17 ⟨Nat.le_refl _, Nat.le_refl _⟩ (fun H locs hP hD hS => ?_)
    refine lv_istore_n (lv' := [(3, .int r4), (0, .ref (ad 0)), (1, .int v1), (2, .int v2)]) hx hb dX1_wetThen_20 rfl hl (by decide) rfl (fun ls hl => ?_)
    refine lv_iload_n hx hb dX1_wetThen_21 rfl (lv_at hl 0 rfl) ?_
    refine lv_if_eq (tgt := 31) hx hb dX1_wetThen_22 (by decide) (fun c6 => ?_) (fun c6 => ?_)
    · replace h := it_t c6 h
      refine lv_aload_n hx hb dX1_wetThen_31 rfl (lv_at hl 1 rfl) ?_
      refine va_get (D := D) (ci := 1) (v := .ref (ad 8)) (C := RX1) (T := TX1) (N := 12) hx hb hts zi_X1_wetThen_X1 hown hK.1 hP 0 rfl rfl 1 (by decide) (hts _ zk_X1_wetThen_0) (fun _ h9 => h9) rfl dX1_wetThen_32 ?_
      refine lv_aload_n hx hb dX1_wetThen_35 rfl (lv_at hl 1 rfl) ?_
      refine va_get (D := D) (ci := 1) (v := .ref (ad 1)) (C := RX1) (T := TX1) (N := 12) hx hb hts zi_X1_wetThen_X1 hown hK.1 hP 0 rfl rfl 0 (by decide) (hts _ zk_X1_wetThen_1) (fun _ h9 => h9) rfl dX1_wetThen_36 ?_
      obtain ⟨n7, g8, h⟩ := bo1 h
      refine zb_callV (As := [.ref (ad 1)]) (rest := []) ⟨hx, hb, hml, hown, hts⟩ (zc_X0_becomes l D cI (ad 8) (ad 9) (ad 10) (ad 11) (ad 12) (ad 13) (ad 14) (ad 1) (ad 2) (ad 3) (ad 4) (ad 5) (ad 6) (ad 7) g_mind g_now n7 g8) (cwV 1 hts gX1_wetThen_X0_becomes rfl rfl rfl hd_X0_becomes ⟨Nat.le_of_ble_eq_true rfl, Nat.le_of_ble_eq_true rfl⟩) hK hP hD hS hA (zb_cGmn) (q0 := 0) rfl rfl rfl hl.1 rfl (Nat.le_of_ble_eq_true rfl) dX1_wetThen_39 ⟨Nat.le_refl _, Nat.le_refl _⟩ (fun H locs hP hD hS => ?_)
      refine lv_aload_n hx hb dX1_wetThen_42 rfl (lv_at hl 1 rfl) ?_
      refine va_get (D := D) (ci := 1) (v := .ref (ad 8)) (C := RX1) (T := TX1) (N := 12) hx hb hts zi_X1_wetThen_X1 hown hK.1 hP 0 rfl rfl 1 (by decide) (hts _ zk_X1_wetThen_0) (fun _ h9 => h9) rfl dX1_wetThen_43 ?_
      refine lv_iload_n hx hb dX1_wetThen_46 rfl (lv_at hl 3 rfl) ?_
      refine lv_iconst (v := (0 : Int32)) hx hb dX1_wetThen_47 (by decide) ?_
      obtain ⟨n9, g10, h⟩ := bo1 h
      refine zb_callV (As := [.int v2, .int (0 : Int32)]) (rest := []) ⟨hx, hb, hml, hown, hts⟩ (zc_X0_goOn l D cI (ad 8) (ad 9) (ad 10) (ad 11) (ad 12) (ad 13) (ad 14) n7 v2 (0 : Int32) n9 g10) (cwV 2 hts gX1_wetThen_X0_goOn rfl rfl rfl hd_X0_goOn ⟨Nat.le_of_ble_eq_true rfl, Nat.le_of_ble_eq_true rfl⟩) hK hP hD hS hA (zb_cGm) (q0 := 0) rfl rfl rfl hl.1 rfl (Nat.le_of_ble_eq_true rfl) dX1_wetThen_48 ⟨Nat.le_refl _, Nat.le_refl _⟩ (fun H locs hP hD hS => ?_)
      refine lv_aload_n hx hb dX1_wetThen_51 rfl (lv_at hl 1 rfl) ?_
      refine va_get (D := D) (ci := 1) (v := .ref (ad 8)) (C := RX1) (T := TX1) (N := 12) hx hb hts zi_X1_wetThen_X1 hown hK.1 hP 0 rfl rfl 1 (by decide) (hts _ zk_X1_wetThen_0) (fun _ h9 => h9) rfl dX1_wetThen_52 ?_
      refine lv_iload_n hx hb dX1_wetThen_55 rfl (lv_at hl 2 rfl) ?_
      obtain ⟨r11, g12, h⟩ := bo1 h
      refine zb_callV (As := [.int v1]) (rest := []) ⟨hx, hb, hml, hown, hts⟩ (zc_X0_wetOf l D cI (ad 8) (ad 9) (ad 10) (ad 11) (ad 12) (ad 13) (ad 14) n9 v1 r11 g12) (cwV 1 hts gX1_wetThen_X0_wetOf rfl rfl rfl hd_X0_wetOf ⟨Nat.le_of_ble_eq_true rfl, Nat.le_of_ble_eq_true rfl⟩) hK hP hD hS hA (zb_cGm) (q0 := 0) rfl rfl rfl hl.1 rfl (Nat.le_of_ble_eq_true rfl) dX1_wetThen_56 ⟨Nat.le_refl _, Nat.le_refl _⟩ (fun H locs hP hD hS => ?_)
      obtain ⟨rfl, rfl, rfl⟩ := re3 h
      exact zb_iret hx hb hr hlk hP hS dX1_wetThen_59
    · replace h := it_f c6 h
      refine lv_aload_n hx hb dX1_wetThen_25 rfl (lv_at hl 1 rfl) ?_
      refine lv_iload_n hx hb dX1_wetThen_26 rfl (lv_at hl 0 rfl) ?_
      obtain ⟨r13, n14, g15, h⟩ := bo2 h
      refine zb_callV (As := [.int r4]) (rest := []) ⟨hx, hb, hml, hown, hts⟩ (zc_X1_refuse l D cI ad g_now g_mind g_taken g_isTaken g_letters g_letterCount g_told g_toldCount g_refusals g_costs g_gains g_seed r4 r13 n14 g15) (cwV 1 hts gX1_wetThen_X1_refuse rfl rfl rfl hd_X1_refuse ⟨Nat.le_of_ble_eq_true rfl, Nat.le_of_ble_eq_true rfl⟩) hK hP hD hS hA (zb_sG) (q0 := 0) rfl rfl rfl hl.1 rfl (Nat.le_of_ble_eq_true rfl) dX1_wetThen_27 ⟨Nat.le_refl _, Nat.le_refl _⟩ (fun H locs hP hD hS => ?_)
      obtain ⟨rfl, rfl, rfl⟩ := re3 h
      exact zb_iret hx hb hr hlk hP hS dX1_wetThen_30
  · replace h := it_t c3 h
    refine lv_aload_n hx hb dX1_wetThen_7 rfl (lv_at hl 0 rfl) ?_
    refine lv_iconst (v := ((-1) : Int32)) hx hb dX1_wetThen_8 (by decide) ?_
    obtain ⟨r16, n17, g18, h⟩ := bo2 h
    refine zb_callV (As := [.int ((-1) : Int32)]) (rest := []) ⟨hx, hb, hml, hown, hts⟩ (zc_X1_refuse l D cI ad g_now g_mind g_taken g_isTaken g_letters g_letterCount g_told g_toldCount g_refusals g_costs g_gains g_seed ((-1) : Int32) r16 n17 g18) (cwV 1 hts gX1_wetThen_X1_refuse rfl rfl rfl hd_X1_refuse ⟨Nat.le_of_ble_eq_true rfl, Nat.le_of_ble_eq_true rfl⟩) hK hP hD hS hA (zb_sG) (q0 := 0) rfl rfl rfl hl.1 rfl (Nat.le_of_ble_eq_true rfl) dX1_wetThen_9 ⟨Nat.le_refl _, Nat.le_refl _⟩ (fun H locs hP hD hS => ?_)
    obtain ⟨rfl, rfl, rfl⟩ := re3 h
    exact zb_iret hx hb hr hlk hP hS dX1_wetThen_12
abbrev rm_X1_comes : Room := { frames := 5, cells := 0, slots := 0, locals := 113 }
theorem hd_X1_comes : yX1_comes.cls = RX1 ∧ yX1_comes.cls ≠ "java/lang/invoke/MethodHandle" ∧ yX1_comes.cls ≠ "java/lang/invoke/VarHandle" ∧ (parseMethodDescriptor yX1_comes.desc).map (fun d => d.parameters.length) = some 2 := by decide +kernel
theorem zi_X1_comes_X1 : ∀ w ∈ wsX10, w ∈ wsX1_comes := fun _ h => List.mem_cons_of_mem _ (List.mem_append_left _ (List.mem_append_right _ h))
theorem zk_X1_comes_0 : Cond.fieldLink RX1 10 "GroutingIsFollowed" "now" "LGroutingIsFollowed$Bath;" ∈ wsX1_comes := by decide +kernel
theorem zk_X1_comes_1 : Cond.fieldLink RX1 16 "GroutingIsFollowed" "mind" "LGroutingIsFollowed$Bath;" ∈ wsX1_comes := by decide +kernel
set_option maxHeartbeats 4000000 in
set_option maxRecDepth 100000 in
theorem zc_X1_comes (l : Launch) (D : va_G) (cI : ClassId) (ad : Nat → Nat) (g_now : BT) (g_mind : BT) (g_taken : BT) (g_isTaken : Int32) (g_letters : (Nat → Int32)) (g_letterCount : Int32) (g_told : (Nat → Int32)) (g_toldCount : Int32) (g_refusals : (Nat → Int32)) (g_costs : (Nat → Int32)) (g_gains : (Nat → Int32)) (g_seed : Int32) (v1 : Int32) (v2 : Int32) (r0 : Int32) (w_g_mind : BT) (w_g_refusals : (Nat → Int32)) (h : zf_X1_comes g_now g_mind g_refusals v1 v2 = some (r0, w_g_mind, w_g_refusals)) : Cn l D cI yX1_comes wsX1_comes rm_X1_comes [.ref (ad 0), .int v1, .int v2] (zb_G cI ad g_now g_mind g_taken g_isTaken g_letters g_letterCount g_told g_toldCount g_refusals g_costs g_gains g_seed) (some (.int r0)) (zb_G cI ad g_now w_g_mind g_taken g_isTaken g_letters g_letterCount g_told g_toldCount w_g_refusals g_costs g_gains g_seed) := by
  refine zb_ofW (cc := cX1_comes) (maxL := 3) (ret := (some .int)) (by decide) rfl (Nat.le_of_ble_eq_true rfl) ?_
  intro p e s m args below meth c A ls hx hb hr hml hts hown hlk hK hP hD hA hl
  have hS : va_S A s.heap s.heap [] := va_S.rf
  have hl : lv_has ls 3 [(0, .ref (ad 0)), (1, .int v1), (2, .int v2)] := hl
  unfold zf_X1_comes at h
  refine lv_aload_n hx hb dX1_comes_0 rfl (lv_at hl 0 rfl) ?_
  refine va_get (D := D) (ci := 1) (v := .ref (ad 1)) (C := RX1) (T := TX1) (N := 12) hx hb hts zi_X1_comes_X1 hown hK.1 hP 0 rfl rfl 0 (by decide) (hts _ zk_X1_comes_0) (fun _ h9 => h9) rfl dX1_comes_1 ?_
  refine lv_iload_n hx hb dX1_comes_4 rfl (lv_at hl 1 rfl) ?_
  obtain ⟨r1, g2, h⟩ := bo1 h
  refine zb_callV (As := [.int v1]) (rest := []) ⟨hx, hb, hml, hown, hts⟩ (zc_X0_has l D cI (ad 1) (ad 2) (ad 3) (ad 4) (ad 5) (ad 6) (ad 7) g_now v1 r1 g2) (cwV 1 hts gX1_comes_X0_has rfl rfl rfl hd_X0_has ⟨Nat.le_of_ble_eq_true rfl, Nat.le_of_ble_eq_true rfl⟩) hK hP hD hS hA (zb_cGn) (q0 := 0) rfl rfl rfl hl.1 rfl (Nat.le_of_ble_eq_true rfl) dX1_comes_5 ⟨Nat.le_refl _, Nat.le_refl _⟩ (fun H locs hP hD hS => ?_)
  refine lv_if_eq (tgt := 18) hx hb dX1_comes_8 (by decide) (fun c3 => ?_) (fun c3 => ?_)
  · replace h := it_t c3 h
    refine lv_aload_n hx hb dX1_comes_18 rfl (lv_at hl 0 rfl) ?_
    refine lv_iconst (v := ((-1) : Int32)) hx hb dX1_comes_19 (by decide) ?_
    obtain ⟨r4, n5, g6, h⟩ := bo2 h
    refine zb_callV (As := [.int ((-1) : Int32)]) (rest := []) ⟨hx, hb, hml, hown, hts⟩ (zc_X1_refuse l D cI ad g_now g_mind g_taken g_isTaken g_letters g_letterCount g_told g_toldCount g_refusals g_costs g_gains g_seed ((-1) : Int32) r4 n5 g6) (cwV 1 hts gX1_comes_X1_refuse rfl rfl rfl hd_X1_refuse ⟨Nat.le_of_ble_eq_true rfl, Nat.le_of_ble_eq_true rfl⟩) hK hP hD hS hA (zb_sG) (q0 := 0) rfl rfl rfl hl.1 rfl (Nat.le_of_ble_eq_true rfl) dX1_comes_20 ⟨Nat.le_refl _, Nat.le_refl _⟩ (fun H locs hP hD hS => ?_)
    obtain ⟨rfl, rfl, rfl⟩ := re3 h
    exact zb_iret hx hb hr hlk hP hS dX1_comes_23
  · replace h := it_f c3 h
    refine lv_iload_n hx hb dX1_comes_11 rfl (lv_at hl 2 rfl) ?_
    obtain ⟨r7, g8, h⟩ := bo1 h
    refine zb_callS (As := [.int v2]) (rest := []) ⟨hx, hb, hml, hown, hts⟩ (zc_X1_isNode l D cI v2 r7 g8) (va_cwS 1 hts gX1_comes_X1_isNode rfl rfl rfl hd_X1_isNode.2 ⟨Nat.le_of_ble_eq_true rfl, Nat.le_of_ble_eq_true rfl⟩) hK hP hD hS hA (zb_none _) rfl hl.1 rfl (Nat.le_of_ble_eq_true rfl) dX1_comes_12 ⟨Nat.le_refl _, Nat.le_refl _⟩ (fun H locs hP hD hS => ?_)
    refine lv_if_ne (tgt := 24) hx hb dX1_comes_15 (by decide) (fun c9 => ?_) (fun c9 => ?_)
    · replace h := it_f c9 h
      refine lv_aload_n hx hb dX1_comes_24 rfl (lv_at hl 0 rfl) ?_
      refine va_get (D := D) (ci := 1) (v := .ref (ad 8)) (C := RX1) (T := TX1) (N := 12) hx hb hts zi_X1_comes_X1 hown hK.1 hP 0 rfl rfl 1 (by decide) (hts _ zk_X1_comes_1) (fun _ h9 => h9) rfl dX1_comes_25 ?_
      refine lv_aload_n hx hb dX1_comes_28 rfl (lv_at hl 0 rfl) ?_
      refine va_get (D := D) (ci := 1) (v := .ref (ad 1)) (C := RX1) (T := TX1) (N := 12) hx hb hts zi_X1_comes_X1 hown hK.1 hP 0 rfl rfl 0 (by decide) (hts _ zk_X1_comes_0) (fun _ h9 => h9) rfl dX1_comes_29 ?_
      obtain ⟨n10, g11, h⟩ := bo1 h
      refine zb_callV (As := [.ref (ad 1)]) (rest := []) ⟨hx, hb, hml, hown, hts⟩ (zc_X0_becomes l D cI (ad 8) (ad 9) (ad 10) (ad 11) (ad 12) (ad 13) (ad 14) (ad 1) (ad 2) (ad 3) (ad 4) (ad 5) (ad 6) (ad 7) g_mind g_now n10 g11) (cwV 1 hts gX1_comes_X0_becomes rfl rfl rfl hd_X0_becomes ⟨Nat.le_of_ble_eq_true rfl, Nat.le_of_ble_eq_true rfl⟩) hK hP hD hS hA (zb_cGmn) (q0 := 0) rfl rfl rfl hl.1 rfl (Nat.le_of_ble_eq_true rfl) dX1_comes_32 ⟨Nat.le_refl _, Nat.le_refl _⟩ (fun H locs hP hD hS => ?_)
      refine lv_aload_n hx hb dX1_comes_35 rfl (lv_at hl 0 rfl) ?_
      refine va_get (D := D) (ci := 1) (v := .ref (ad 8)) (C := RX1) (T := TX1) (N := 12) hx hb hts zi_X1_comes_X1 hown hK.1 hP 0 rfl rfl 1 (by decide) (hts _ zk_X1_comes_1) (fun _ h9 => h9) rfl dX1_comes_36 ?_
      refine lv_iload_n hx hb dX1_comes_39 rfl (lv_at hl 1 rfl) ?_
      refine lv_iload_n hx hb dX1_comes_40 rfl (lv_at hl 2 rfl) ?_
      obtain ⟨r12, n13, g14, h⟩ := bo2 h
      refine zb_callV (As := [.int v1, .int v2]) (rest := []) ⟨hx, hb, hml, hown, hts⟩ (zc_X0_soonestAt l D cI (ad 8) (ad 9) (ad 10) (ad 11) (ad 12) (ad 13) (ad 14) n10 v1 v2 r12 n13 g14) (cwV 2 hts gX1_comes_X0_soonestAt rfl rfl rfl hd_X0_soonestAt ⟨Nat.le_of_ble_eq_true rfl, Nat.le_of_ble_eq_true rfl⟩) hK hP hD hS hA (zb_cGm) (q0 := 0) rfl rfl rfl hl.1 rfl (Nat.le_of_ble_eq_true rfl) dX1_comes_41 ⟨Nat.le_refl _, Nat.le_refl _⟩ (fun H locs hP hD hS => ?_)
      obtain ⟨rfl, rfl, rfl⟩ := re3 h
      exact zb_iret hx hb hr hlk hP hS dX1_comes_44
    · replace h := it_t c9 h
      refine lv_aload_n hx hb dX1_comes_18 rfl (lv_at hl 0 rfl) ?_
      refine lv_iconst (v := ((-1) : Int32)) hx hb dX1_comes_19 (by decide) ?_
      obtain ⟨r15, n16, g17, h⟩ := bo2 h
      refine zb_callV (As := [.int ((-1) : Int32)]) (rest := []) ⟨hx, hb, hml, hown, hts⟩ (zc_X1_refuse l D cI ad g_now g_mind g_taken g_isTaken g_letters g_letterCount g_told g_toldCount g_refusals g_costs g_gains g_seed ((-1) : Int32) r15 n16 g17) (cwV 1 hts gX1_comes_X1_refuse rfl rfl rfl hd_X1_refuse ⟨Nat.le_of_ble_eq_true rfl, Nat.le_of_ble_eq_true rfl⟩) hK hP hD hS hA (zb_sG) (q0 := 0) rfl rfl rfl hl.1 rfl (Nat.le_of_ble_eq_true rfl) dX1_comes_20 ⟨Nat.le_refl _, Nat.le_refl _⟩ (fun H locs hP hD hS => ?_)
      obtain ⟨rfl, rfl, rfl⟩ := re3 h
      exact zb_iret hx hb hr hlk hP hS dX1_comes_23
abbrev rm_X1_visits : Room := { frames := 5, cells := 0, slots := 0, locals := 114 }
theorem hd_X1_visits : yX1_visits.cls = RX1 ∧ yX1_visits.cls ≠ "java/lang/invoke/MethodHandle" ∧ yX1_visits.cls ≠ "java/lang/invoke/VarHandle" ∧ (parseMethodDescriptor yX1_visits.desc).map (fun d => d.parameters.length) = some 2 := by decide +kernel
theorem zi_X1_visits_X1 : ∀ w ∈ wsX10, w ∈ wsX1_visits := fun _ h => List.mem_cons_of_mem _ (List.mem_append_left _ (List.mem_append_right _ h))
theorem zk_X1_visits_0 : Cond.fieldLink RX1 10 "GroutingIsFollowed" "now" "LGroutingIsFollowed$Bath;" ∈ wsX1_visits := by decide +kernel
theorem zk_X1_visits_1 : Cond.fieldLink RX1 16 "GroutingIsFollowed" "mind" "LGroutingIsFollowed$Bath;" ∈ wsX1_visits := by decide +kernel
set_option maxHeartbeats 4000000 in
set_option maxRecDepth 100000 in
theorem zc_X1_visits (l : Launch) (D : va_G) (cI : ClassId) (ad : Nat → Nat) (g_now : BT) (g_mind : BT) (g_taken : BT) (g_isTaken : Int32) (g_letters : (Nat → Int32)) (g_letterCount : Int32) (g_told : (Nat → Int32)) (g_toldCount : Int32) (g_refusals : (Nat → Int32)) (g_costs : (Nat → Int32)) (g_gains : (Nat → Int32)) (g_seed : Int32) (v1 : Int32) (v2 : Int32) (r0 : Int32) (w_g_mind : BT) (w_g_refusals : (Nat → Int32)) (h : zf_X1_visits g_now g_mind g_refusals v1 v2 = some (r0, w_g_mind, w_g_refusals)) : Cn l D cI yX1_visits wsX1_visits rm_X1_visits [.ref (ad 0), .int v1, .int v2] (zb_G cI ad g_now g_mind g_taken g_isTaken g_letters g_letterCount g_told g_toldCount g_refusals g_costs g_gains g_seed) (some (.int r0)) (zb_G cI ad g_now w_g_mind g_taken g_isTaken g_letters g_letterCount g_told g_toldCount w_g_refusals g_costs g_gains g_seed) := by
  refine zb_ofW (cc := cX1_visits) (maxL := 4) (ret := (some .int)) (by decide) rfl (Nat.le_of_ble_eq_true rfl) ?_
  intro p e s m args below meth c A ls hx hb hr hml hts hown hlk hK hP hD hA hl
  have hS : va_S A s.heap s.heap [] := va_S.rf
  have hl : lv_has ls 4 [(0, .ref (ad 0)), (1, .int v1), (2, .int v2)] := hl
  unfold zf_X1_visits at h
  refine lv_aload_n hx hb dX1_visits_0 rfl (lv_at hl 0 rfl) ?_
  refine va_get (D := D) (ci := 1) (v := .ref (ad 1)) (C := RX1) (T := TX1) (N := 12) hx hb hts zi_X1_visits_X1 hown hK.1 hP 0 rfl rfl 0 (by decide) (hts _ zk_X1_visits_0) (fun _ h9 => h9) rfl dX1_visits_1 ?_
  refine lv_iload_n hx hb dX1_visits_4 rfl (lv_at hl 1 rfl) ?_
  obtain ⟨r1, g2, h⟩ := bo1 h
  refine zb_callV (As := [.int v1]) (rest := []) ⟨hx, hb, hml, hown, hts⟩ (zc_X0_has l D cI (ad 1) (ad 2) (ad 3) (ad 4) (ad 5) (ad 6) (ad 7) g_now v1 r1 g2) (cwV 1 hts gX1_visits_X0_has rfl rfl rfl hd_X0_has ⟨Nat.le_of_ble_eq_true rfl, Nat.le_of_ble_eq_true rfl⟩) hK hP hD hS hA (zb_cGn) (q0 := 0) rfl rfl rfl hl.1 rfl (Nat.le_of_ble_eq_true rfl) dX1_visits_5 ⟨Nat.le_refl _, Nat.le_refl _⟩ (fun H locs hP hD hS => ?_)
  refine lv_if_ne (tgt := 17) hx hb dX1_visits_8 (by decide) (fun c3 => ?_) (fun c3 => ?_)
  · replace h := it_f c3 h
    refine lv_iload_n hx hb dX1_visits_17 rfl (lv_at hl 2 rfl) ?_
    refine lv_iconst (v := (0 : Int32)) hx hb dX1_visits_18 (by decide) ?_
    refine lv_bipush (v := (60 : Int32)) hx hb dX1_visits_19 (by decide) ?_
    obtain ⟨r4, g5, h⟩ := bo1 h
    refine zb_callS (As := [.int v2, .int (0 : Int32), .int (60 : Int32)]) (rest := []) ⟨hx, hb, hml, hown, hts⟩ (zc_X1_outside l D cI v2 (0 : Int32) (60 : Int32) r4 g5) (va_cwS 3 hts gX1_visits_X1_outside rfl rfl rfl hd_X1_outside.2 ⟨Nat.le_of_ble_eq_true rfl, Nat.le_of_ble_eq_true rfl⟩) hK hP hD hS hA (zb_none _) rfl hl.1 rfl (Nat.le_of_ble_eq_true rfl) dX1_visits_21 ⟨Nat.le_refl _, Nat.le_refl _⟩ (fun H locs hP hD hS => ?_)
    refine lv_istore_n (lv' := [(3, .int r4), (0, .ref (ad 0)), (1, .int v1), (2, .int v2)]) hx hb dX1_visits_24 rfl hl (by decide) rfl (fun ls hl => ?_)
    refine lv_iload_n hx hb dX1_visits_25 rfl (lv_at hl 0 rfl) ?_
    refine lv_if_eq (tgt := 35) hx hb dX1_visits_26 (by decide) (fun c6 => ?_) (fun c6 => ?_)
    · replace h := it_t c6 h
      refine lv_aload_n hx hb dX1_visits_35 rfl (lv_at hl 1 rfl) ?_
      refine va_get (D := D) (ci := 1) (v := .ref (ad 8)) (C := RX1) (T := TX1) (N := 12) hx hb hts zi_X1_visits_X1 hown hK.1 hP 0 rfl rfl 1 (by decide) (hts _ zk_X1_visits_1) (fun _ h9 => h9) rfl dX1_visits_36 ?_
      refine lv_aload_n hx hb dX1_visits_39 rfl (lv_at hl 1 rfl) ?_
      refine va_get (D := D) (ci := 1) (v := .ref (ad 1)) (C := RX1) (T := TX1) (N := 12) hx hb hts zi_X1_visits_X1 hown hK.1 hP 0 rfl rfl 0 (by decide) (hts _ zk_X1_visits_0) (fun _ h9 => h9) rfl dX1_visits_40 ?_
      obtain ⟨n7, g8, h⟩ := bo1 h
      refine zb_callV (As := [.ref (ad 1)]) (rest := []) ⟨hx, hb, hml, hown, hts⟩ (zc_X0_becomes l D cI (ad 8) (ad 9) (ad 10) (ad 11) (ad 12) (ad 13) (ad 14) (ad 1) (ad 2) (ad 3) (ad 4) (ad 5) (ad 6) (ad 7) g_mind g_now n7 g8) (cwV 1 hts gX1_visits_X0_becomes rfl rfl rfl hd_X0_becomes ⟨Nat.le_of_ble_eq_true rfl, Nat.le_of_ble_eq_true rfl⟩) hK hP hD hS hA (zb_cGmn) (q0 := 0) rfl rfl rfl hl.1 rfl (Nat.le_of_ble_eq_true rfl) dX1_visits_43 ⟨Nat.le_refl _, Nat.le_refl _⟩ (fun H locs hP hD hS => ?_)
      refine lv_aload_n hx hb dX1_visits_46 rfl (lv_at hl 1 rfl) ?_
      refine va_get (D := D) (ci := 1) (v := .ref (ad 8)) (C := RX1) (T := TX1) (N := 12) hx hb hts zi_X1_visits_X1 hown hK.1 hP 0 rfl rfl 1 (by decide) (hts _ zk_X1_visits_1) (fun _ h9 => h9) rfl dX1_visits_47 ?_
      refine lv_iload_n hx hb dX1_visits_50 rfl (lv_at hl 2 rfl) ?_
      refine lv_iload_n hx hb dX1_visits_51 rfl (lv_at hl 3 rfl) ?_
      obtain ⟨r9, n10, g11, h⟩ := bo2 h
      refine zb_callV (As := [.int v1, .int v2]) (rest := []) ⟨hx, hb, hml, hown, hts⟩ (zc_X0_visitsIn l D cI (ad 8) (ad 9) (ad 10) (ad 11) (ad 12) (ad 13) (ad 14) n7 v1 v2 r9 n10 g11) (cwV 2 hts gX1_visits_X0_visitsIn rfl rfl rfl hd_X0_visitsIn ⟨Nat.le_of_ble_eq_true rfl, Nat.le_of_ble_eq_true rfl⟩) hK hP hD hS hA (zb_cGm) (q0 := 0) rfl rfl rfl hl.1 rfl (Nat.le_of_ble_eq_true rfl) dX1_visits_52 ⟨Nat.le_refl _, Nat.le_refl _⟩ (fun H locs hP hD hS => ?_)
      obtain ⟨rfl, rfl, rfl⟩ := re3 h
      exact zb_iret hx hb hr hlk hP hS dX1_visits_55
    · replace h := it_f c6 h
      refine lv_aload_n hx hb dX1_visits_29 rfl (lv_at hl 1 rfl) ?_
      refine lv_iload_n hx hb dX1_visits_30 rfl (lv_at hl 0 rfl) ?_
      obtain ⟨r12, n13, g14, h⟩ := bo2 h
      refine zb_callV (As := [.int r4]) (rest := []) ⟨hx, hb, hml, hown, hts⟩ (zc_X1_refuse l D cI ad g_now g_mind g_taken g_isTaken g_letters g_letterCount g_told g_toldCount g_refusals g_costs g_gains g_seed r4 r12 n13 g14) (cwV 1 hts gX1_visits_X1_refuse rfl rfl rfl hd_X1_refuse ⟨Nat.le_of_ble_eq_true rfl, Nat.le_of_ble_eq_true rfl⟩) hK hP hD hS hA (zb_sG) (q0 := 0) rfl rfl rfl hl.1 rfl (Nat.le_of_ble_eq_true rfl) dX1_visits_31 ⟨Nat.le_refl _, Nat.le_refl _⟩ (fun H locs hP hD hS => ?_)
      obtain ⟨rfl, rfl, rfl⟩ := re3 h
      exact zb_iret hx hb hr hlk hP hS dX1_visits_34
  · replace h := it_t c3 h
    refine lv_aload_n hx hb dX1_visits_11 rfl (lv_at hl 0 rfl) ?_
    refine lv_iconst (v := ((-1) : Int32)) hx hb dX1_visits_12 (by decide) ?_
    obtain ⟨r15, n16, g17, h⟩ := bo2 h
    refine zb_callV (As := [.int ((-1) : Int32)]) (rest := []) ⟨hx, hb, hml, hown, hts⟩ (zc_X1_refuse l D cI ad g_now g_mind g_taken g_isTaken g_letters g_letterCount g_told g_toldCount g_refusals g_costs g_gains g_seed ((-1) : Int32) r15 n16 g17) (cwV 1 hts gX1_visits_X1_refuse rfl rfl rfl hd_X1_refuse ⟨Nat.le_of_ble_eq_true rfl, Nat.le_of_ble_eq_true rfl⟩) hK hP hD hS hA (zb_sG) (q0 := 0) rfl rfl rfl hl.1 rfl (Nat.le_of_ble_eq_true rfl) dX1_visits_13 ⟨Nat.le_refl _, Nat.le_refl _⟩ (fun H locs hP hD hS => ?_)
    obtain ⟨rfl, rfl, rfl⟩ := re3 h
    exact zb_iret hx hb hr hlk hP hS dX1_visits_16
abbrev rm_X1_stops : Room := { frames := 4, cells := 0, slots := 0, locals := 90 }
theorem hd_X1_stops : yX1_stops.cls = RX1 ∧ yX1_stops.cls ≠ "java/lang/invoke/MethodHandle" ∧ yX1_stops.cls ≠ "java/lang/invoke/VarHandle" ∧ (parseMethodDescriptor yX1_stops.desc).map (fun d => d.parameters.length) = some 1 := by decide +kernel
theorem zi_X1_stops_X1 : ∀ w ∈ wsX10, w ∈ wsX1_stops := fun _ h => List.mem_cons_of_mem _ (List.mem_append_left _ (List.mem_append_right _ h))
theorem zk_X1_stops_0 : Cond.fieldLink RX1 10 "GroutingIsFollowed" "now" "LGroutingIsFollowed$Bath;" ∈ wsX1_stops := by decide +kernel
theorem zk_X1_stops_1 : Cond.fieldLink RX1 16 "GroutingIsFollowed" "mind" "LGroutingIsFollowed$Bath;" ∈ wsX1_stops := by decide +kernel
set_option maxHeartbeats 4000000 in
set_option maxRecDepth 100000 in
theorem zc_X1_stops (l : Launch) (D : va_G) (cI : ClassId) (ad : Nat → Nat) (g_now : BT) (g_mind : BT) (g_taken : BT) (g_isTaken : Int32) (g_letters : (Nat → Int32)) (g_letterCount : Int32) (g_told : (Nat → Int32)) (g_toldCount : Int32) (g_refusals : (Nat → Int32)) (g_costs : (Nat → Int32)) (g_gains : (Nat → Int32)) (g_seed : Int32) (v1 : Int32) (r0 : Int32) (w_g_mind : BT) (w_g_refusals : (Nat → Int32)) (h : zf_X1_stops g_now g_mind g_refusals v1 = some (r0, w_g_mind, w_g_refusals)) : Cn l D cI yX1_stops wsX1_stops rm_X1_stops [.ref (ad 0), .int v1] (zb_G cI ad g_now g_mind g_taken g_isTaken g_letters g_letterCount g_told g_toldCount g_refusals g_costs g_gains g_seed) (some (.int r0)) (zb_G cI ad g_now w_g_mind g_taken g_isTaken g_letters g_letterCount g_told g_toldCount w_g_refusals g_costs g_gains g_seed) := by
  refine zb_ofW (cc := cX1_stops) (maxL := 3) (ret := (some .int)) (by decide) rfl (Nat.le_of_ble_eq_true rfl) ?_
  intro p e s m args below meth c A ls hx hb hr hml hts hown hlk hK hP hD hA hl
  have hS : va_S A s.heap s.heap [] := va_S.rf
  have hl : lv_has ls 3 [(0, .ref (ad 0)), (1, .int v1)] := hl
  unfold zf_X1_stops at h
  refine lv_aload_n hx hb dX1_stops_0 rfl (lv_at hl 0 rfl) ?_
  refine va_get (D := D) (ci := 1) (v := .ref (ad 1)) (C := RX1) (T := TX1) (N := 12) hx hb hts zi_X1_stops_X1 hown hK.1 hP 0 rfl rfl 0 (by decide) (hts _ zk_X1_stops_0) (fun _ h9 => h9) rfl dX1_stops_1 ?_
  refine lv_iload_n hx hb dX1_stops_4 rfl (lv_at hl 1 rfl) ?_
  obtain ⟨r1, g2, h⟩ := bo1 h
  refine zb_callV (As := [.int v1]) (rest := []) ⟨hx, hb, hml, hown, hts⟩ (zc_X0_has l D cI (ad 1) (ad 2) (ad 3) (ad 4) (ad 5) (ad 6) (ad 7) g_now v1 r1 g2) (cwV 1 hts gX1_stops_X0_has rfl rfl rfl hd_X0_has ⟨Nat.le_of_ble_eq_true rfl, Nat.le_of_ble_eq_true rfl⟩) hK hP hD hS hA (zb_cGn) (q0 := 0) rfl rfl rfl hl.1 rfl (Nat.le_of_ble_eq_true rfl) dX1_stops_5 ⟨Nat.le_refl _, Nat.le_refl _⟩ (fun H locs hP hD hS => ?_)
  refine lv_if_ne (tgt := 17) hx hb dX1_stops_8 (by decide) (fun c3 => ?_) (fun c3 => ?_)
  · replace h := it_f c3 h
    refine lv_aload_n hx hb dX1_stops_17 rfl (lv_at hl 0 rfl) ?_
    refine va_get (D := D) (ci := 1) (v := .ref (ad 8)) (C := RX1) (T := TX1) (N := 12) hx hb hts zi_X1_stops_X1 hown hK.1 hP 0 rfl rfl 1 (by decide) (hts _ zk_X1_stops_1) (fun _ h9 => h9) rfl dX1_stops_18 ?_
    refine lv_aload_n hx hb dX1_stops_21 rfl (lv_at hl 0 rfl) ?_
    refine va_get (D := D) (ci := 1) (v := .ref (ad 1)) (C := RX1) (T := TX1) (N := 12) hx hb hts zi_X1_stops_X1 hown hK.1 hP 0 rfl rfl 0 (by decide) (hts _ zk_X1_stops_0) (fun _ h9 => h9) rfl dX1_stops_22 ?_
    obtain ⟨n4, g5, h⟩ := bo1 h
    refine zb_callV (As := [.ref (ad 1)]) (rest := []) ⟨hx, hb, hml, hown, hts⟩ (zc_X0_becomes l D cI (ad 8) (ad 9) (ad 10) (ad 11) (ad 12) (ad 13) (ad 14) (ad 1) (ad 2) (ad 3) (ad 4) (ad 5) (ad 6) (ad 7) g_mind g_now n4 g5) (cwV 1 hts gX1_stops_X0_becomes rfl rfl rfl hd_X0_becomes ⟨Nat.le_of_ble_eq_true rfl, Nat.le_of_ble_eq_true rfl⟩) hK hP hD hS hA (zb_cGmn) (q0 := 0) rfl rfl rfl hl.1 rfl (Nat.le_of_ble_eq_true rfl) dX1_stops_25 ⟨Nat.le_refl _, Nat.le_refl _⟩ (fun H locs hP hD hS => ?_)
    refine lv_iconst (v := (0 : Int32)) hx hb dX1_stops_28 (by decide) ?_
    refine lv_istore_n (lv' := [(2, .int (0 : Int32)), (0, .ref (ad 0)), (1, .int v1)]) hx hb dX1_stops_29 rfl hl (by decide) rfl (fun ls hl => ?_)
    have lp8 : ∀ (fu8 : Nat) (x6 : Int32) (x7 : BT) (H : Heap) (locs : List Loc) (hP : va_P D zb_cl (zb_G cI ad g_now x7 g_taken g_isTaken g_letters g_letterCount g_told g_toldCount g_refusals g_costs g_gains g_seed) H) (hD : va_D A (zb_G cI ad g_now x7 g_taken g_isTaken g_letters g_letterCount g_told g_toldCount g_refusals g_costs g_gains g_seed)) (hS : va_S A s.heap H locs) (ls : Array Slot) (hl : lv_has ls 3 [(0, .ref (ad 0)), (1, .int v1), (2, .int x6)]) (h : zl2 (zf_X1_stops_b30 v1 g_refusals) fu8 x6 x7 = some (r0, w_g_mind, w_g_refusals)), W p l e rm_X1_stops s m args below meth c H locs 0 0 (zb_Q below D (some (.int r0)) (zb_G cI ad g_now w_g_mind g_taken g_isTaken g_letters g_letterCount g_told g_toldCount w_g_refusals g_costs g_gains g_seed) A args s) (F0 m 30 ls []) := by
      intro fu8
      induction fu8 with
      | zero => intro x6 x7 H locs hP hD hS ls hl h; exact zb_no h
      | succ fu8 ih8 =>
        intro x6 x7 H locs hP hD hS ls hl h
        replace h : zf_X1_stops_b30 v1 g_refusals (zl2 (zf_X1_stops_b30 v1 g_refusals) fu8) x6 x7 = some (r0, w_g_mind, w_g_refusals) := h
        unfold zf_X1_stops_b30 at h
        refine lv_iload_n hx hb dX1_stops_30 rfl (lv_at hl 2 rfl) ?_
        refine lv_bipush (v := (60 : Int32)) hx hb dX1_stops_31 (by decide) ?_
        refine lv_icmp_gt (tgt := 71) hx hb dX1_stops_33 (by decide) (fun c9 => ?_) (fun c9 => ?_)
        · replace h := it_t c9 h
          refine lv_bipush (v := ((-9) : Int32)) hx hb dX1_stops_71 (by decide) ?_
          obtain ⟨rfl, rfl, rfl⟩ := re3 h
          exact zb_iret hx hb hr hlk hP hS dX1_stops_73
        · replace h := it_f c9 h
          refine lv_aload_n hx hb dX1_stops_36 rfl (lv_at hl 0 rfl) ?_
          refine va_get (D := D) (ci := 1) (v := .ref (ad 8)) (C := RX1) (T := TX1) (N := 12) hx hb hts zi_X1_stops_X1 hown hK.1 hP 0 rfl rfl 1 (by decide) (hts _ zk_X1_stops_1) (fun _ h9 => h9) rfl dX1_stops_37 ?_
          refine lv_aload_n hx hb dX1_stops_40 rfl (lv_at hl 0 rfl) ?_
          refine va_get (D := D) (ci := 1) (v := .ref (ad 8)) (C := RX1) (T := TX1) (N := 12) hx hb hts zi_X1_stops_X1 hown hK.1 hP 0 rfl rfl 1 (by decide) (hts _ zk_X1_stops_1) (fun _ h9 => h9) rfl dX1_stops_41 ?_
          refine lv_iload_n hx hb dX1_stops_44 rfl (lv_at hl 1 rfl) ?_
          obtain ⟨r10, g11, h⟩ := bo1 h
          refine zb_callV (As := [.int v1]) (rest := [.ref (ad 8)]) ⟨hx, hb, hml, hown, hts⟩ (zc_X0_placeOf l D cI (ad 8) (ad 9) (ad 10) (ad 11) (ad 12) (ad 13) (ad 14) x7 v1 r10 g11) (cwV 1 hts gX1_stops_X0_placeOf rfl rfl rfl hd_X0_placeOf ⟨Nat.le_of_ble_eq_true rfl, Nat.le_of_ble_eq_true rfl⟩) hK hP hD hS hA (zb_cGm) (q0 := 0) rfl rfl rfl hl.1 rfl (Nat.le_of_ble_eq_true rfl) dX1_stops_45 ⟨Nat.le_refl _, Nat.le_refl _⟩ (fun H locs hP hD hS => ?_)
          obtain ⟨r12, g13, h⟩ := bo1 h
          refine zb_callV (As := [.int r10]) (rest := []) ⟨hx, hb, hml, hown, hts⟩ (zc_X0_wetOf l D cI (ad 8) (ad 9) (ad 10) (ad 11) (ad 12) (ad 13) (ad 14) x7 r10 r12 g13) (cwV 1 hts gX1_stops_X0_wetOf rfl rfl rfl hd_X0_wetOf ⟨Nat.le_of_ble_eq_true rfl, Nat.le_of_ble_eq_true rfl⟩) hK hP hD hS hA (zb_cGm) (q0 := 0) rfl rfl rfl hl.1 rfl (Nat.le_of_ble_eq_true rfl) dX1_stops_48 ⟨Nat.le_refl _, Nat.le_refl _⟩ (fun H locs hP hD hS => ?_)
          refine lv_if_ne (tgt := 56) hx hb dX1_stops_51 (by decide) (fun c14 => ?_) (fun c14 => ?_)
          · replace h := it_f c14 h
            refine lv_aload_n hx hb dX1_stops_56 rfl (lv_at hl 0 rfl) ?_
            refine va_get (D := D) (ci := 1) (v := .ref (ad 8)) (C := RX1) (T := TX1) (N := 12) hx hb hts zi_X1_stops_X1 hown hK.1 hP 0 rfl rfl 1 (by decide) (hts _ zk_X1_stops_1) (fun _ h9 => h9) rfl dX1_stops_57 ?_
            refine lv_iconst (v := (1 : Int32)) hx hb dX1_stops_60 (by decide) ?_
            refine lv_iconst (v := (0 : Int32)) hx hb dX1_stops_61 (by decide) ?_
            obtain ⟨n15, g16, h⟩ := bo1 h
            refine zb_callV (As := [.int (1 : Int32), .int (0 : Int32)]) (rest := []) ⟨hx, hb, hml, hown, hts⟩ (zc_X0_goOn l D cI (ad 8) (ad 9) (ad 10) (ad 11) (ad 12) (ad 13) (ad 14) x7 (1 : Int32) (0 : Int32) n15 g16) (cwV 2 hts gX1_stops_X0_goOn rfl rfl rfl hd_X0_goOn ⟨Nat.le_of_ble_eq_true rfl, Nat.le_of_ble_eq_true rfl⟩) hK hP hD hS hA (zb_cGm) (q0 := 0) rfl rfl rfl hl.1 rfl (Nat.le_of_ble_eq_true rfl) dX1_stops_62 ⟨Nat.le_refl _, Nat.le_refl _⟩ (fun H locs hP hD hS => ?_)
            refine lv_iinc (v := (x6 + (1 : Int32))) (lv' := [(2, .int (x6 + (1 : Int32))), (0, .ref (ad 0)), (1, .int v1)]) hx hb dX1_stops_65 hl (k := 2) rfl (by first | rfl | decide) (by decide) rfl (fun ls hl => ?_)
            refine lv_goto (tgt := 30) hx hb dX1_stops_68 (by decide) ?_
            exact ih8 (x6 + (1 : Int32)) n15 _ _ hP hD hS ls (lv_sub hl [1, 2, 0] rfl) h
          · replace h := it_t c14 h
            refine lv_iload_n hx hb dX1_stops_54 rfl (lv_at hl 2 rfl) ?_
            obtain ⟨rfl, rfl, rfl⟩ := re3 h
            exact zb_iret hx hb hr hlk hP hS dX1_stops_55
    exact lp8 zb_FU (0 : Int32) n4 _ _ hP hD hS ls (lv_sub hl [1, 2, 0] rfl) h
  · replace h := it_t c3 h
    refine lv_aload_n hx hb dX1_stops_11 rfl (lv_at hl 0 rfl) ?_
    refine lv_iconst (v := ((-1) : Int32)) hx hb dX1_stops_12 (by decide) ?_
    obtain ⟨r17, n18, g19, h⟩ := bo2 h
    refine zb_callV (As := [.int ((-1) : Int32)]) (rest := []) ⟨hx, hb, hml, hown, hts⟩ (zc_X1_refuse l D cI ad g_now g_mind g_taken g_isTaken g_letters g_letterCount g_told g_toldCount g_refusals g_costs g_gains g_seed ((-1) : Int32) r17 n18 g19) (cwV 1 hts gX1_stops_X1_refuse rfl rfl rfl hd_X1_refuse ⟨Nat.le_of_ble_eq_true rfl, Nat.le_of_ble_eq_true rfl⟩) hK hP hD hS hA (zb_sG) (q0 := 0) rfl rfl rfl hl.1 rfl (Nat.le_of_ble_eq_true rfl) dX1_stops_13 ⟨Nat.le_refl _, Nat.le_refl _⟩ (fun H locs hP hD hS => ?_)
    obtain ⟨rfl, rfl, rfl⟩ := re3 h
    exact zb_iret hx hb hr hlk hP hS dX1_stops_16
abbrev rm_X1_areTwo : Room := { frames := 1, cells := 0, slots := 0, locals := 21 }
theorem hd_X1_areTwo : yX1_areTwo.cls = RX1 ∧ yX1_areTwo.cls ≠ "java/lang/invoke/MethodHandle" ∧ yX1_areTwo.cls ≠ "java/lang/invoke/VarHandle" ∧ (parseMethodDescriptor yX1_areTwo.desc).map (fun d => d.parameters.length) = some 2 := by decide +kernel
theorem zi_X1_areTwo_X1 : ∀ w ∈ wsX10, w ∈ wsX1_areTwo := fun _ h => List.mem_cons_of_mem _ (List.mem_append_left _ (List.mem_append_right _ h))
theorem zk_X1_areTwo_0 : Cond.fieldLink RX1 10 "GroutingIsFollowed" "now" "LGroutingIsFollowed$Bath;" ∈ wsX1_areTwo := by decide +kernel
set_option maxHeartbeats 4000000 in
set_option maxRecDepth 100000 in
theorem zc_X1_areTwo (l : Launch) (D : va_G) (cI : ClassId) (ad : Nat → Nat) (g_now : BT) (g_mind : BT) (g_taken : BT) (g_isTaken : Int32) (g_letters : (Nat → Int32)) (g_letterCount : Int32) (g_told : (Nat → Int32)) (g_toldCount : Int32) (g_refusals : (Nat → Int32)) (g_costs : (Nat → Int32)) (g_gains : (Nat → Int32)) (g_seed : Int32) (v1 : Int32) (v2 : Int32) (r0 : Int32) (h : zf_X1_areTwo g_now v1 v2 = some r0) : Cn l D cI yX1_areTwo wsX1_areTwo rm_X1_areTwo [.ref (ad 0), .int v1, .int v2] (zb_G cI ad g_now g_mind g_taken g_isTaken g_letters g_letterCount g_told g_toldCount g_refusals g_costs g_gains g_seed) (some (.int r0)) (zb_G cI ad g_now g_mind g_taken g_isTaken g_letters g_letterCount g_told g_toldCount g_refusals g_costs g_gains g_seed) := by
  refine zb_ofW (cc := cX1_areTwo) (maxL := 3) (ret := (some .boolean)) (by decide) rfl (Nat.le_of_ble_eq_true rfl) ?_
  intro p e s m args below meth c A ls hx hb hr hml hts hown hlk hK hP hD hA hl
  have hS : va_S A s.heap s.heap [] := va_S.rf
  have hl : lv_has ls 3 [(0, .ref (ad 0)), (1, .int v1), (2, .int v2)] := hl
  unfold zf_X1_areTwo at h
  refine lv_aload_n hx hb dX1_areTwo_0 rfl (lv_at hl 0 rfl) ?_
  refine va_get (D := D) (ci := 1) (v := .ref (ad 1)) (C := RX1) (T := TX1) (N := 12) hx hb hts zi_X1_areTwo_X1 hown hK.1 hP 0 rfl rfl 0 (by decide) (hts _ zk_X1_areTwo_0) (fun _ h9 => h9) rfl dX1_areTwo_1 ?_
  refine lv_iload_n hx hb dX1_areTwo_4 rfl (lv_at hl 1 rfl) ?_
  obtain ⟨r1, g2, h⟩ := bo1 h
  refine zb_callV (As := [.int v1]) (rest := []) ⟨hx, hb, hml, hown, hts⟩ (zc_X0_has l D cI (ad 1) (ad 2) (ad 3) (ad 4) (ad 5) (ad 6) (ad 7) g_now v1 r1 g2) (cwV 1 hts gX1_areTwo_X0_has rfl rfl rfl hd_X0_has ⟨Nat.le_of_ble_eq_true rfl, Nat.le_of_ble_eq_true rfl⟩) hK hP hD hS hA (zb_cGn) (q0 := 0) rfl rfl rfl hl.1 rfl (Nat.le_of_ble_eq_true rfl) dX1_areTwo_5 ⟨Nat.le_refl _, Nat.le_refl _⟩ (fun H locs hP hD hS => ?_)
  refine lv_if_eq (tgt := 31) hx hb dX1_areTwo_8 (by decide) (fun c3 => ?_) (fun c3 => ?_)
  · replace h := it_t c3 h
    refine lv_iconst (v := (0 : Int32)) hx hb dX1_areTwo_31 (by decide) ?_
    obtain rfl := re1 h
    exact zb_zret hx hb hr hlk rfl hP hS dX1_areTwo_32
  · replace h := it_f c3 h
    refine lv_aload_n hx hb dX1_areTwo_11 rfl (lv_at hl 0 rfl) ?_
    refine va_get (D := D) (ci := 1) (v := .ref (ad 1)) (C := RX1) (T := TX1) (N := 12) hx hb hts zi_X1_areTwo_X1 hown hK.1 hP 0 rfl rfl 0 (by decide) (hts _ zk_X1_areTwo_0) (fun _ h9 => h9) rfl dX1_areTwo_12 ?_
    refine lv_iload_n hx hb dX1_areTwo_15 rfl (lv_at hl 2 rfl) ?_
    obtain ⟨r4, g5, h⟩ := bo1 h
    refine zb_callV (As := [.int v2]) (rest := []) ⟨hx, hb, hml, hown, hts⟩ (zc_X0_has l D cI (ad 1) (ad 2) (ad 3) (ad 4) (ad 5) (ad 6) (ad 7) g_now v2 r4 g5) (cwV 1 hts gX1_areTwo_X0_has rfl rfl rfl hd_X0_has ⟨Nat.le_of_ble_eq_true rfl, Nat.le_of_ble_eq_true rfl⟩) hK hP hD hS hA (zb_cGn) (q0 := 0) rfl rfl rfl hl.1 rfl (Nat.le_of_ble_eq_true rfl) dX1_areTwo_16 ⟨Nat.le_refl _, Nat.le_refl _⟩ (fun H locs hP hD hS => ?_)
    refine lv_if_eq (tgt := 31) hx hb dX1_areTwo_19 (by decide) (fun c6 => ?_) (fun c6 => ?_)
    · replace h := it_t c6 h
      refine lv_iconst (v := (0 : Int32)) hx hb dX1_areTwo_31 (by decide) ?_
      obtain rfl := re1 h
      exact zb_zret hx hb hr hlk rfl hP hS dX1_areTwo_32
    · replace h := it_f c6 h
      refine lv_iload_n hx hb dX1_areTwo_22 rfl (lv_at hl 1 rfl) ?_
      refine lv_iload_n hx hb dX1_areTwo_23 rfl (lv_at hl 2 rfl) ?_
      refine lv_icmp_eq (tgt := 31) hx hb dX1_areTwo_24 (by decide) (fun c7 => ?_) (fun c7 => ?_)
      · replace h := it_t c7 h
        refine lv_iconst (v := (0 : Int32)) hx hb dX1_areTwo_31 (by decide) ?_
        obtain rfl := re1 h
        exact zb_zret hx hb hr hlk rfl hP hS dX1_areTwo_32
      · replace h := it_f c7 h
        refine lv_iconst (v := (1 : Int32)) hx hb dX1_areTwo_27 (by decide) ?_
        refine lv_goto (tgt := 32) hx hb dX1_areTwo_28 (by decide) ?_
        obtain rfl := re1 h
        exact zb_zret hx hb hr hlk rfl hP hS dX1_areTwo_32
abbrev rm_X1_meets : Room := { frames := 4, cells := 0, slots := 0, locals := 90 }
theorem hd_X1_meets : yX1_meets.cls = RX1 ∧ yX1_meets.cls ≠ "java/lang/invoke/MethodHandle" ∧ yX1_meets.cls ≠ "java/lang/invoke/VarHandle" ∧ (parseMethodDescriptor yX1_meets.desc).map (fun d => d.parameters.length) = some 2 := by decide +kernel
theorem zi_X1_meets_X1 : ∀ w ∈ wsX10, w ∈ wsX1_meets := fun _ h => List.mem_cons_of_mem _ (List.mem_append_left _ (List.mem_append_right _ h))
theorem zk_X1_meets_0 : Cond.fieldLink RX1 16 "GroutingIsFollowed" "mind" "LGroutingIsFollowed$Bath;" ∈ wsX1_meets := by decide +kernel
theorem zk_X1_meets_1 : Cond.fieldLink RX1 10 "GroutingIsFollowed" "now" "LGroutingIsFollowed$Bath;" ∈ wsX1_meets := by decide +kernel
set_option maxHeartbeats 4000000 in
set_option maxRecDepth 100000 in
theorem zc_X1_meets (l : Launch) (D : va_G) (cI : ClassId) (ad : Nat → Nat) (g_now : BT) (g_mind : BT) (g_taken : BT) (g_isTaken : Int32) (g_letters : (Nat → Int32)) (g_letterCount : Int32) (g_told : (Nat → Int32)) (g_toldCount : Int32) (g_refusals : (Nat → Int32)) (g_costs : (Nat → Int32)) (g_gains : (Nat → Int32)) (g_seed : Int32) (v1 : Int32) (v2 : Int32) (r0 : Int32) (w_g_mind : BT) (w_g_refusals : (Nat → Int32)) (h : zf_X1_meets g_now g_mind g_refusals v1 v2 = some (r0, w_g_mind, w_g_refusals)) : Cn l D cI yX1_meets wsX1_meets rm_X1_meets [.ref (ad 0), .int v1, .int v2] (zb_G cI ad g_now g_mind g_taken g_isTaken g_letters g_letterCount g_told g_toldCount g_refusals g_costs g_gains g_seed) (some (.int r0)) (zb_G cI ad g_now w_g_mind g_taken g_isTaken g_letters g_letterCount g_told g_toldCount w_g_refusals g_costs g_gains g_seed) := by
  refine zb_ofW (cc := cX1_meets) (maxL := 4) (ret := (some .int)) (by decide) rfl (Nat.le_of_ble_eq_true rfl) ?_
  intro p e s m args below meth c A ls hx hb hr hml hts hown hlk hK hP hD hA hl
  have hS : va_S A s.heap s.heap [] := va_S.rf
  have hl : lv_has ls 4 [(0, .ref (ad 0)), (1, .int v1), (2, .int v2)] := hl
  unfold zf_X1_meets at h
  refine lv_aload_n hx hb dX1_meets_0 rfl (lv_at hl 0 rfl) ?_
  refine lv_iload_n hx hb dX1_meets_1 rfl (lv_at hl 1 rfl) ?_
  refine lv_iload_n hx hb dX1_meets_2 rfl (lv_at hl 2 rfl) ?_
  obtain ⟨r1, g2, h⟩ := bo1 h
  refine zb_callV (As := [.int v1, .int v2]) (rest := []) ⟨hx, hb, hml, hown, hts⟩ (zc_X1_areTwo l D cI ad g_now g_mind g_taken g_isTaken g_letters g_letterCount g_told g_toldCount g_refusals g_costs g_gains g_seed v1 v2 r1 g2) (cwV 2 hts gX1_meets_X1_areTwo rfl rfl rfl hd_X1_areTwo ⟨Nat.le_of_ble_eq_true rfl, Nat.le_of_ble_eq_true rfl⟩) hK hP hD hS hA (zb_sG) (q0 := 0) rfl rfl rfl hl.1 rfl (Nat.le_of_ble_eq_true rfl) dX1_meets_3 ⟨Nat.le_refl _, Nat.le_refl _⟩ (fun H locs hP hD hS => ?_)
  refine lv_if_ne (tgt := 15) hx hb dX1_meets_6 (by decide) (fun c3 => ?_) (fun c3 => ?_)
  · replace h := it_f c3 h
    refine lv_aload_n hx hb dX1_meets_15 rfl (lv_at hl 0 rfl) ?_
    refine va_get (D := D) (ci := 1) (v := .ref (ad 8)) (C := RX1) (T := TX1) (N := 12) hx hb hts zi_X1_meets_X1 hown hK.1 hP 0 rfl rfl 1 (by decide) (hts _ zk_X1_meets_0) (fun _ h9 => h9) rfl dX1_meets_16 ?_
    refine lv_aload_n hx hb dX1_meets_19 rfl (lv_at hl 0 rfl) ?_
    refine va_get (D := D) (ci := 1) (v := .ref (ad 1)) (C := RX1) (T := TX1) (N := 12) hx hb hts zi_X1_meets_X1 hown hK.1 hP 0 rfl rfl 0 (by decide) (hts _ zk_X1_meets_1) (fun _ h9 => h9) rfl dX1_meets_20 ?_
    obtain ⟨n4, g5, h⟩ := bo1 h
    refine zb_callV (As := [.ref (ad 1)]) (rest := []) ⟨hx, hb, hml, hown, hts⟩ (zc_X0_becomes l D cI (ad 8) (ad 9) (ad 10) (ad 11) (ad 12) (ad 13) (ad 14) (ad 1) (ad 2) (ad 3) (ad 4) (ad 5) (ad 6) (ad 7) g_mind g_now n4 g5) (cwV 1 hts gX1_meets_X0_becomes rfl rfl rfl hd_X0_becomes ⟨Nat.le_of_ble_eq_true rfl, Nat.le_of_ble_eq_true rfl⟩) hK hP hD hS hA (zb_cGmn) (q0 := 0) rfl rfl rfl hl.1 rfl (Nat.le_of_ble_eq_true rfl) dX1_meets_23 ⟨Nat.le_refl _, Nat.le_refl _⟩ (fun H locs hP hD hS => ?_)
    refine lv_iconst (v := (0 : Int32)) hx hb dX1_meets_26 (by decide) ?_
    refine lv_istore_n (lv' := [(3, .int (0 : Int32)), (0, .ref (ad 0)), (1, .int v1), (2, .int v2)]) hx hb dX1_meets_27 rfl hl (by decide) rfl (fun ls hl => ?_)
    have lp8 : ∀ (fu8 : Nat) (x6 : Int32) (x7 : BT) (H : Heap) (locs : List Loc) (hP : va_P D zb_cl (zb_G cI ad g_now x7 g_taken g_isTaken g_letters g_letterCount g_told g_toldCount g_refusals g_costs g_gains g_seed) H) (hD : va_D A (zb_G cI ad g_now x7 g_taken g_isTaken g_letters g_letterCount g_told g_toldCount g_refusals g_costs g_gains g_seed)) (hS : va_S A s.heap H locs) (ls : Array Slot) (hl : lv_has ls 4 [(0, .ref (ad 0)), (1, .int v1), (2, .int v2), (3, .int x6)]) (h : zl2 (zf_X1_meets_b28 v1 v2 g_refusals) fu8 x6 x7 = some (r0, w_g_mind, w_g_refusals)), W p l e rm_X1_meets s m args below meth c H locs 0 0 (zb_Q below D (some (.int r0)) (zb_G cI ad g_now w_g_mind g_taken g_isTaken g_letters g_letterCount g_told g_toldCount w_g_refusals g_costs g_gains g_seed) A args s) (F0 m 28 ls []) := by
      intro fu8
      induction fu8 with
      | zero => intro x6 x7 H locs hP hD hS ls hl h; exact zb_no h
      | succ fu8 ih8 =>
        intro x6 x7 H locs hP hD hS ls hl h
        replace h : zf_X1_meets_b28 v1 v2 g_refusals (zl2 (zf_X1_meets_b28 v1 v2 g_refusals) fu8) x6 x7 = some (r0, w_g_mind, w_g_refusals) := h
        unfold zf_X1_meets_b28 at h
        refine lv_iload_n hx hb dX1_meets_28 rfl (lv_at hl 3 rfl) ?_
        refine lv_bipush (v := (60 : Int32)) hx hb dX1_meets_29 (by decide) ?_
        refine lv_icmp_gt (tgt := 70) hx hb dX1_meets_31 (by decide) (fun c9 => ?_) (fun c9 => ?_)
        · replace h := it_t c9 h
          refine lv_bipush (v := ((-9) : Int32)) hx hb dX1_meets_70 (by decide) ?_
          obtain ⟨rfl, rfl, rfl⟩ := re3 h
          exact zb_iret hx hb hr hlk hP hS dX1_meets_72
        · replace h := it_f c9 h
          refine lv_aload_n hx hb dX1_meets_34 rfl (lv_at hl 0 rfl) ?_
          refine va_get (D := D) (ci := 1) (v := .ref (ad 8)) (C := RX1) (T := TX1) (N := 12) hx hb hts zi_X1_meets_X1 hown hK.1 hP 0 rfl rfl 1 (by decide) (hts _ zk_X1_meets_0) (fun _ h9 => h9) rfl dX1_meets_35 ?_
          refine lv_iload_n hx hb dX1_meets_38 rfl (lv_at hl 1 rfl) ?_
          obtain ⟨r10, g11, h⟩ := bo1 h
          refine zb_callV (As := [.int v1]) (rest := []) ⟨hx, hb, hml, hown, hts⟩ (zc_X0_placeOf l D cI (ad 8) (ad 9) (ad 10) (ad 11) (ad 12) (ad 13) (ad 14) x7 v1 r10 g11) (cwV 1 hts gX1_meets_X0_placeOf rfl rfl rfl hd_X0_placeOf ⟨Nat.le_of_ble_eq_true rfl, Nat.le_of_ble_eq_true rfl⟩) hK hP hD hS hA (zb_cGm) (q0 := 0) rfl rfl rfl hl.1 rfl (Nat.le_of_ble_eq_true rfl) dX1_meets_39 ⟨Nat.le_refl _, Nat.le_refl _⟩ (fun H locs hP hD hS => ?_)
          refine lv_aload_n hx hb dX1_meets_42 rfl (lv_at hl 0 rfl) ?_
          refine va_get (D := D) (ci := 1) (v := .ref (ad 8)) (C := RX1) (T := TX1) (N := 12) hx hb hts zi_X1_meets_X1 hown hK.1 hP 0 rfl rfl 1 (by decide) (hts _ zk_X1_meets_0) (fun _ h9 => h9) rfl dX1_meets_43 ?_
          refine lv_iload_n hx hb dX1_meets_46 rfl (lv_at hl 2 rfl) ?_
          obtain ⟨r12, g13, h⟩ := bo1 h
          refine zb_callV (As := [.int v2]) (rest := [.int r10]) ⟨hx, hb, hml, hown, hts⟩ (zc_X0_placeOf l D cI (ad 8) (ad 9) (ad 10) (ad 11) (ad 12) (ad 13) (ad 14) x7 v2 r12 g13) (cwV 1 hts gX1_meets_X0_placeOf rfl rfl rfl hd_X0_placeOf ⟨Nat.le_of_ble_eq_true rfl, Nat.le_of_ble_eq_true rfl⟩) hK hP hD hS hA (zb_cGm) (q0 := 0) rfl rfl rfl hl.1 rfl (Nat.le_of_ble_eq_true rfl) dX1_meets_47 ⟨Nat.le_refl _, Nat.le_refl _⟩ (fun H locs hP hD hS => ?_)
          refine lv_icmp_ne (tgt := 55) hx hb dX1_meets_50 (by decide) (fun c14 => ?_) (fun c14 => ?_)
          · replace h := it_f c14 h
            refine lv_aload_n hx hb dX1_meets_55 rfl (lv_at hl 0 rfl) ?_
            refine va_get (D := D) (ci := 1) (v := .ref (ad 8)) (C := RX1) (T := TX1) (N := 12) hx hb hts zi_X1_meets_X1 hown hK.1 hP 0 rfl rfl 1 (by decide) (hts _ zk_X1_meets_0) (fun _ h9 => h9) rfl dX1_meets_56 ?_
            refine lv_iconst (v := (1 : Int32)) hx hb dX1_meets_59 (by decide) ?_
            refine lv_iconst (v := (0 : Int32)) hx hb dX1_meets_60 (by decide) ?_
            obtain ⟨n15, g16, h⟩ := bo1 h
            refine zb_callV (As := [.int (1 : Int32), .int (0 : Int32)]) (rest := []) ⟨hx, hb, hml, hown, hts⟩ (zc_X0_goOn l D cI (ad 8) (ad 9) (ad 10) (ad 11) (ad 12) (ad 13) (ad 14) x7 (1 : Int32) (0 : Int32) n15 g16) (cwV 2 hts gX1_meets_X0_goOn rfl rfl rfl hd_X0_goOn ⟨Nat.le_of_ble_eq_true rfl, Nat.le_of_ble_eq_true rfl⟩) hK hP hD hS hA (zb_cGm) (q0 := 0) rfl rfl rfl hl.1 rfl (Nat.le_of_ble_eq_true rfl) dX1_meets_61 ⟨Nat.le_refl _, Nat.le_refl _⟩ (fun H locs hP hD hS => ?_)
            refine lv_iinc (v := (x6 + (1 : Int32))) (lv' := [(3, .int (x6 + (1 : Int32))), (0, .ref (ad 0)), (1, .int v1), (2, .int v2)]) hx hb dX1_meets_64 hl (k := 3) rfl (by first | rfl | decide) (by decide) rfl (fun ls hl => ?_)
            refine lv_goto (tgt := 28) hx hb dX1_meets_67 (by decide) ?_
            exact ih8 (x6 + (1 : Int32)) n15 _ _ hP hD hS ls (lv_sub hl [1, 2, 3, 0] rfl) h
          · replace h := it_t c14 h
            refine lv_iload_n hx hb dX1_meets_53 rfl (lv_at hl 3 rfl) ?_
            obtain ⟨rfl, rfl, rfl⟩ := re3 h
            exact zb_iret hx hb hr hlk hP hS dX1_meets_54
    exact lp8 zb_FU (0 : Int32) n4 _ _ hP hD hS ls (lv_sub hl [1, 2, 3, 0] rfl) h
  · replace h := it_t c3 h
    refine lv_aload_n hx hb dX1_meets_9 rfl (lv_at hl 0 rfl) ?_
    refine lv_iconst (v := ((-1) : Int32)) hx hb dX1_meets_10 (by decide) ?_
    obtain ⟨r17, n18, g19, h⟩ := bo2 h
    refine zb_callV (As := [.int ((-1) : Int32)]) (rest := []) ⟨hx, hb, hml, hown, hts⟩ (zc_X1_refuse l D cI ad g_now g_mind g_taken g_isTaken g_letters g_letterCount g_told g_toldCount g_refusals g_costs g_gains g_seed ((-1) : Int32) r17 n18 g19) (cwV 1 hts gX1_meets_X1_refuse rfl rfl rfl hd_X1_refuse ⟨Nat.le_of_ble_eq_true rfl, Nat.le_of_ble_eq_true rfl⟩) hK hP hD hS hA (zb_sG) (q0 := 0) rfl rfl rfl hl.1 rfl (Nat.le_of_ble_eq_true rfl) dX1_meets_11 ⟨Nat.le_refl _, Nat.le_refl _⟩ (fun H locs hP hD hS => ?_)
    obtain ⟨rfl, rfl, rfl⟩ := re3 h
    exact zb_iret hx hb hr hlk hP hS dX1_meets_14
abbrev rm_X1_round : Room := { frames := 4, cells := 0, slots := 0, locals := 90 }
theorem hd_X1_round : yX1_round.cls = RX1 ∧ yX1_round.cls ≠ "java/lang/invoke/MethodHandle" ∧ yX1_round.cls ≠ "java/lang/invoke/VarHandle" ∧ (parseMethodDescriptor yX1_round.desc).map (fun d => d.parameters.length) = some 1 := by decide +kernel
theorem zi_X1_round_X1 : ∀ w ∈ wsX10, w ∈ wsX1_round := fun _ h => List.mem_cons_of_mem _ (List.mem_append_left _ (List.mem_append_right _ h))
theorem zk_X1_round_0 : Cond.fieldLink RX1 10 "GroutingIsFollowed" "now" "LGroutingIsFollowed$Bath;" ∈ wsX1_round := by decide +kernel
theorem zk_X1_round_1 : Cond.fieldLink RX1 16 "GroutingIsFollowed" "mind" "LGroutingIsFollowed$Bath;" ∈ wsX1_round := by decide +kernel
set_option maxHeartbeats 4000000 in
set_option maxRecDepth 100000 in
theorem zc_X1_round (l : Launch) (D : va_G) (cI : ClassId) (ad : Nat → Nat) (g_now : BT) (g_mind : BT) (g_taken : BT) (g_isTaken : Int32) (g_letters : (Nat → Int32)) (g_letterCount : Int32) (g_told : (Nat → Int32)) (g_toldCount : Int32) (g_refusals : (Nat → Int32)) (g_costs : (Nat → Int32)) (g_gains : (Nat → Int32)) (g_seed : Int32) (v1 : Int32) (r0 : Int32) (w_g_mind : BT) (w_g_refusals : (Nat → Int32)) (h : zf_X1_round g_now g_mind g_refusals v1 = some (r0, w_g_mind, w_g_refusals)) : Cn l D cI yX1_round wsX1_round rm_X1_round [.ref (ad 0), .int v1] (zb_G cI ad g_now g_mind g_taken g_isTaken g_letters g_letterCount g_told g_toldCount g_refusals g_costs g_gains g_seed) (some (.int r0)) (zb_G cI ad g_now w_g_mind g_taken g_isTaken g_letters g_letterCount g_told g_toldCount w_g_refusals g_costs g_gains g_seed) := by
  refine zb_ofW (cc := cX1_round) (maxL := 4) (ret := (some .int)) (by decide) rfl (Nat.le_of_ble_eq_true rfl) ?_
  intro p e s m args below meth c A ls hx hb hr hml hts hown hlk hK hP hD hA hl
  have hS : va_S A s.heap s.heap [] := va_S.rf
  have hl : lv_has ls 4 [(0, .ref (ad 0)), (1, .int v1)] := hl
  unfold zf_X1_round at h
  refine lv_aload_n hx hb dX1_round_0 rfl (lv_at hl 0 rfl) ?_
  refine va_get (D := D) (ci := 1) (v := .ref (ad 1)) (C := RX1) (T := TX1) (N := 12) hx hb hts zi_X1_round_X1 hown hK.1 hP 0 rfl rfl 0 (by decide) (hts _ zk_X1_round_0) (fun _ h9 => h9) rfl dX1_round_1 ?_
  refine lv_iload_n hx hb dX1_round_4 rfl (lv_at hl 1 rfl) ?_
  obtain ⟨r1, g2, h⟩ := bo1 h
  refine zb_callV (As := [.int v1]) (rest := []) ⟨hx, hb, hml, hown, hts⟩ (zc_X0_has l D cI (ad 1) (ad 2) (ad 3) (ad 4) (ad 5) (ad 6) (ad 7) g_now v1 r1 g2) (cwV 1 hts gX1_round_X0_has rfl rfl rfl hd_X0_has ⟨Nat.le_of_ble_eq_true rfl, Nat.le_of_ble_eq_true rfl⟩) hK hP hD hS hA (zb_cGn) (q0 := 0) rfl rfl rfl hl.1 rfl (Nat.le_of_ble_eq_true rfl) dX1_round_5 ⟨Nat.le_refl _, Nat.le_refl _⟩ (fun H locs hP hD hS => ?_)
  refine lv_if_ne (tgt := 17) hx hb dX1_round_8 (by decide) (fun c3 => ?_) (fun c3 => ?_)
  · replace h := it_f c3 h
    refine lv_aload_n hx hb dX1_round_17 rfl (lv_at hl 0 rfl) ?_
    refine va_get (D := D) (ci := 1) (v := .ref (ad 8)) (C := RX1) (T := TX1) (N := 12) hx hb hts zi_X1_round_X1 hown hK.1 hP 0 rfl rfl 1 (by decide) (hts _ zk_X1_round_1) (fun _ h9 => h9) rfl dX1_round_18 ?_
    refine lv_aload_n hx hb dX1_round_21 rfl (lv_at hl 0 rfl) ?_
    refine va_get (D := D) (ci := 1) (v := .ref (ad 1)) (C := RX1) (T := TX1) (N := 12) hx hb hts zi_X1_round_X1 hown hK.1 hP 0 rfl rfl 0 (by decide) (hts _ zk_X1_round_0) (fun _ h9 => h9) rfl dX1_round_22 ?_
    obtain ⟨n4, g5, h⟩ := bo1 h
    refine zb_callV (As := [.ref (ad 1)]) (rest := []) ⟨hx, hb, hml, hown, hts⟩ (zc_X0_becomes l D cI (ad 8) (ad 9) (ad 10) (ad 11) (ad 12) (ad 13) (ad 14) (ad 1) (ad 2) (ad 3) (ad 4) (ad 5) (ad 6) (ad 7) g_mind g_now n4 g5) (cwV 1 hts gX1_round_X0_becomes rfl rfl rfl hd_X0_becomes ⟨Nat.le_of_ble_eq_true rfl, Nat.le_of_ble_eq_true rfl⟩) hK hP hD hS hA (zb_cGmn) (q0 := 0) rfl rfl rfl hl.1 rfl (Nat.le_of_ble_eq_true rfl) dX1_round_25 ⟨Nat.le_refl _, Nat.le_refl _⟩ (fun H locs hP hD hS => ?_)
    refine lv_iconst (v := (1 : Int32)) hx hb dX1_round_28 (by decide) ?_
    refine lv_istore_n (lv' := [(2, .int (1 : Int32)), (0, .ref (ad 0)), (1, .int v1)]) hx hb dX1_round_29 rfl hl (by decide) rfl (fun ls hl => ?_)
    have lp8 : ∀ (fu8 : Nat) (x6 : Int32) (x7 : BT) (H : Heap) (locs : List Loc) (hP : va_P D zb_cl (zb_G cI ad g_now x7 g_taken g_isTaken g_letters g_letterCount g_told g_toldCount g_refusals g_costs g_gains g_seed) H) (hD : va_D A (zb_G cI ad g_now x7 g_taken g_isTaken g_letters g_letterCount g_told g_toldCount g_refusals g_costs g_gains g_seed)) (hS : va_S A s.heap H locs) (ls : Array Slot) (hl : lv_has ls 4 [(0, .ref (ad 0)), (1, .int v1), (2, .int x6)]) (h : zl2 (zf_X1_round_b30 v1 g_now g_refusals) fu8 x6 x7 = some (r0, w_g_mind, w_g_refusals)), W p l e rm_X1_round s m args below meth c H locs 0 0 (zb_Q below D (some (.int r0)) (zb_G cI ad g_now w_g_mind g_taken g_isTaken g_letters g_letterCount g_told g_toldCount w_g_refusals g_costs g_gains g_seed) A args s) (F0 m 30 ls []) := by
      intro fu8
      induction fu8 with
      | zero => intro x6 x7 H locs hP hD hS ls hl h; exact zb_no h
      | succ fu8 ih8 =>
        intro x6 x7 H locs hP hD hS ls hl h
        replace h : zf_X1_round_b30 v1 g_now g_refusals (zl2 (zf_X1_round_b30 v1 g_now g_refusals) fu8) x6 x7 = some (r0, w_g_mind, w_g_refusals) := h
        unfold zf_X1_round_b30 at h
        refine lv_iload_n hx hb dX1_round_30 rfl (lv_at hl 2 rfl) ?_
        refine lv_bipush (v := (60 : Int32)) hx hb dX1_round_31 (by decide) ?_
        refine lv_icmp_gt (tgt := 101) hx hb dX1_round_33 (by decide) (fun c9 => ?_) (fun c9 => ?_)
        · replace h := it_t c9 h
          refine lv_bipush (v := ((-9) : Int32)) hx hb dX1_round_101 (by decide) ?_
          obtain ⟨rfl, rfl, rfl⟩ := re3 h
          exact zb_iret hx hb hr hlk hP hS dX1_round_103
        · replace h := it_f c9 h
          refine lv_aload_n hx hb dX1_round_36 rfl (lv_at hl 0 rfl) ?_
          refine va_get (D := D) (ci := 1) (v := .ref (ad 8)) (C := RX1) (T := TX1) (N := 12) hx hb hts zi_X1_round_X1 hown hK.1 hP 0 rfl rfl 1 (by decide) (hts _ zk_X1_round_1) (fun _ h9 => h9) rfl dX1_round_37 ?_
          refine lv_iconst (v := (1 : Int32)) hx hb dX1_round_40 (by decide) ?_
          refine lv_iconst (v := (0 : Int32)) hx hb dX1_round_41 (by decide) ?_
          obtain ⟨n10, g11, h⟩ := bo1 h
          refine zb_callV (As := [.int (1 : Int32), .int (0 : Int32)]) (rest := []) ⟨hx, hb, hml, hown, hts⟩ (zc_X0_goOn l D cI (ad 8) (ad 9) (ad 10) (ad 11) (ad 12) (ad 13) (ad 14) x7 (1 : Int32) (0 : Int32) n10 g11) (cwV 2 hts gX1_round_X0_goOn rfl rfl rfl hd_X0_goOn ⟨Nat.le_of_ble_eq_true rfl, Nat.le_of_ble_eq_true rfl⟩) hK hP hD hS hA (zb_cGm) (q0 := 0) rfl rfl rfl hl.1 rfl (Nat.le_of_ble_eq_true rfl) dX1_round_42 ⟨Nat.le_refl _, Nat.le_refl _⟩ (fun H locs hP hD hS => ?_)
          refine lv_aload_n hx hb dX1_round_45 rfl (lv_at hl 0 rfl) ?_
          refine va_get (D := D) (ci := 1) (v := .ref (ad 8)) (C := RX1) (T := TX1) (N := 12) hx hb hts zi_X1_round_X1 hown hK.1 hP 0 rfl rfl 1 (by decide) (hts _ zk_X1_round_1) (fun _ h9 => h9) rfl dX1_round_46 ?_
          refine lv_iload_n hx hb dX1_round_49 rfl (lv_at hl 1 rfl) ?_
          obtain ⟨r12, g13, h⟩ := bo1 h
          refine zb_callV (As := [.int v1]) (rest := []) ⟨hx, hb, hml, hown, hts⟩ (zc_X0_placeOf l D cI (ad 8) (ad 9) (ad 10) (ad 11) (ad 12) (ad 13) (ad 14) n10 v1 r12 g13) (cwV 1 hts gX1_round_X0_placeOf rfl rfl rfl hd_X0_placeOf ⟨Nat.le_of_ble_eq_true rfl, Nat.le_of_ble_eq_true rfl⟩) hK hP hD hS hA (zb_cGm) (q0 := 0) rfl rfl rfl hl.1 rfl (Nat.le_of_ble_eq_true rfl) dX1_round_50 ⟨Nat.le_refl _, Nat.le_refl _⟩ (fun H locs hP hD hS => ?_)
          refine lv_aload_n hx hb dX1_round_53 rfl (lv_at hl 0 rfl) ?_
          refine va_get (D := D) (ci := 1) (v := .ref (ad 1)) (C := RX1) (T := TX1) (N := 12) hx hb hts zi_X1_round_X1 hown hK.1 hP 0 rfl rfl 0 (by decide) (hts _ zk_X1_round_0) (fun _ h9 => h9) rfl dX1_round_54 ?_
          refine lv_iload_n hx hb dX1_round_57 rfl (lv_at hl 1 rfl) ?_
          obtain ⟨r14, g15, h⟩ := bo1 h
          refine zb_callV (As := [.int v1]) (rest := [.int r12]) ⟨hx, hb, hml, hown, hts⟩ (zc_X0_placeOf l D cI (ad 1) (ad 2) (ad 3) (ad 4) (ad 5) (ad 6) (ad 7) g_now v1 r14 g15) (cwV 1 hts gX1_round_X0_placeOf rfl rfl rfl hd_X0_placeOf ⟨Nat.le_of_ble_eq_true rfl, Nat.le_of_ble_eq_true rfl⟩) hK hP hD hS hA (zb_cGn) (q0 := 0) rfl rfl rfl hl.1 rfl (Nat.le_of_ble_eq_true rfl) dX1_round_58 ⟨Nat.le_refl _, Nat.le_refl _⟩ (fun H locs hP hD hS => ?_)
          refine lv_icmp_ne (tgt := 68) hx hb dX1_round_61 (by decide) (fun c16 => ?_) (fun c16 => ?_)
          · replace h := it_f c16 h
            refine lv_iconst (v := (0 : Int32)) hx hb dX1_round_68 (by decide) ?_
            refine lv_istore_n (lv' := [(3, .int (0 : Int32)), (0, .ref (ad 0)), (1, .int v1), (2, .int x6)]) hx hb dX1_round_69 rfl hl (by decide) rfl (fun ls hl => ?_)
            refine lv_iload_n hx hb dX1_round_70 rfl (lv_at hl 0 rfl) ?_
            refine lv_if_eq (tgt := 95) hx hb dX1_round_71 (by decide) (fun _ => ?_) (fun c17 => absurd c17 (by decide))
            refine lv_iinc (v := (x6 + (1 : Int32))) (lv' := [(2, .int (x6 + (1 : Int32))), (3, .int (0 : Int32)), (0, .ref (ad 0)), (1, .int v1)]) hx hb dX1_round_95 hl (k := 3) rfl (by first | rfl | decide) (by decide) rfl (fun ls hl => ?_)
            refine lv_goto (tgt := 30) hx hb dX1_round_98 (by decide) ?_
            exact ih8 (x6 + (1 : Int32)) n10 _ _ hP hD hS ls (lv_sub hl [2, 3, 0] rfl) h
          · replace h := it_t c16 h
            refine lv_iconst (v := (1 : Int32)) hx hb dX1_round_64 (by decide) ?_
            refine lv_goto (tgt := 69) hx hb dX1_round_65 (by decide) ?_
            refine lv_istore_n (lv' := [(3, .int (1 : Int32)), (0, .ref (ad 0)), (1, .int v1), (2, .int x6)]) hx hb dX1_round_69 rfl hl (by decide) rfl (fun ls hl => ?_)
            refine lv_iload_n hx hb dX1_round_70 rfl (lv_at hl 0 rfl) ?_
            refine lv_if_eq (tgt := 95) hx hb dX1_round_71 (by decide) (fun c18 => absurd c18 (by decide)) (fun _ => ?_)
            refine lv_aload_n hx hb dX1_round_74 rfl (lv_at hl 1 rfl) ?_
            refine va_get (D := D) (ci := 1) (v := .ref (ad 8)) (C := RX1) (T := TX1) (N := 12) hx hb hts zi_X1_round_X1 hown hK.1 hP 0 rfl rfl 1 (by decide) (hts _ zk_X1_round_1) (fun _ h9 => h9) rfl dX1_round_75 ?_
            refine lv_iload_n hx hb dX1_round_78 rfl (lv_at hl 2 rfl) ?_
            obtain ⟨r19, g20, h⟩ := bo1 h
            refine zb_callV (As := [.int v1]) (rest := []) ⟨hx, hb, hml, hown, hts⟩ (zc_X0_headingOf l D cI (ad 8) (ad 9) (ad 10) (ad 11) (ad 12) (ad 13) (ad 14) n10 v1 r19 g20) (cwV 1 hts gX1_round_X0_headingOf rfl rfl rfl hd_X0_headingOf ⟨Nat.le_of_ble_eq_true rfl, Nat.le_of_ble_eq_true rfl⟩) hK hP hD hS hA (zb_cGm) (q0 := 0) rfl rfl rfl hl.1 rfl (Nat.le_of_ble_eq_true rfl) dX1_round_79 ⟨Nat.le_refl _, Nat.le_refl _⟩ (fun H locs hP hD hS => ?_)
            refine lv_aload_n hx hb dX1_round_82 rfl (lv_at hl 1 rfl) ?_
            refine va_get (D := D) (ci := 1) (v := .ref (ad 1)) (C := RX1) (T := TX1) (N := 12) hx hb hts zi_X1_round_X1 hown hK.1 hP 0 rfl rfl 0 (by decide) (hts _ zk_X1_round_0) (fun _ h9 => h9) rfl dX1_round_83 ?_
            refine lv_iload_n hx hb dX1_round_86 rfl (lv_at hl 2 rfl) ?_
            obtain ⟨r21, g22, h⟩ := bo1 h
            refine zb_callV (As := [.int v1]) (rest := [.int r19]) ⟨hx, hb, hml, hown, hts⟩ (zc_X0_headingOf l D cI (ad 1) (ad 2) (ad 3) (ad 4) (ad 5) (ad 6) (ad 7) g_now v1 r21 g22) (cwV 1 hts gX1_round_X0_headingOf rfl rfl rfl hd_X0_headingOf ⟨Nat.le_of_ble_eq_true rfl, Nat.le_of_ble_eq_true rfl⟩) hK hP hD hS hA (zb_cGn) (q0 := 0) rfl rfl rfl hl.1 rfl (Nat.le_of_ble_eq_true rfl) dX1_round_87 ⟨Nat.le_refl _, Nat.le_refl _⟩ (fun H locs hP hD hS => ?_)
            refine lv_icmp_ne (tgt := 95) hx hb dX1_round_90 (by decide) (fun c23 => ?_) (fun c23 => ?_)
            · replace h := it_f c23 h
              refine lv_iinc (v := (x6 + (1 : Int32))) (lv' := [(2, .int (x6 + (1 : Int32))), (3, .int (1 : Int32)), (0, .ref (ad 0)), (1, .int v1)]) hx hb dX1_round_95 hl (k := 3) rfl (by first | rfl | decide) (by decide) rfl (fun ls hl => ?_)
              refine lv_goto (tgt := 30) hx hb dX1_round_98 (by decide) ?_
              exact ih8 (x6 + (1 : Int32)) n10 _ _ hP hD hS ls (lv_sub hl [2, 3, 0] rfl) h
            · replace h := it_t c23 h
              refine lv_iload_n hx hb dX1_round_93 rfl (lv_at hl 3 rfl) ?_
              obtain ⟨rfl, rfl, rfl⟩ := re3 h
              exact zb_iret hx hb hr hlk hP hS dX1_round_94
    exact lp8 zb_FU (1 : Int32) n4 _ _ hP hD hS ls (lv_sub hl [1, 2, 0] rfl) h
  · replace h := it_t c3 h
    refine lv_aload_n hx hb dX1_round_11 rfl (lv_at hl 0 rfl) ?_
    refine lv_iconst (v := ((-1) : Int32)) hx hb dX1_round_12 (by decide) ?_
    obtain ⟨r24, n25, g26, h⟩ := bo2 h
    refine zb_callV (As := [.int ((-1) : Int32)]) (rest := []) ⟨hx, hb, hml, hown, hts⟩ (zc_X1_refuse l D cI ad g_now g_mind g_taken g_isTaken g_letters g_letterCount g_told g_toldCount g_refusals g_costs g_gains g_seed ((-1) : Int32) r24 n25 g26) (cwV 1 hts gX1_round_X1_refuse rfl rfl rfl hd_X1_refuse ⟨Nat.le_of_ble_eq_true rfl, Nat.le_of_ble_eq_true rfl⟩) hK hP hD hS hA (zb_sG) (q0 := 0) rfl rfl rfl hl.1 rfl (Nat.le_of_ble_eq_true rfl) dX1_round_13 ⟨Nat.le_refl _, Nat.le_refl _⟩ (fun H locs hP hD hS => ?_)
    obtain ⟨rfl, rfl, rfl⟩ := re3 h
    exact zb_iret hx hb hr hlk hP hS dX1_round_16
abbrev rm_X1_costOf : Room := { frames := 0, cells := 0, slots := 0, locals := 0 }
theorem hd_X1_costOf : yX1_costOf.cls = RX1 ∧ yX1_costOf.cls ≠ "java/lang/invoke/MethodHandle" ∧ yX1_costOf.cls ≠ "java/lang/invoke/VarHandle" ∧ (parseMethodDescriptor yX1_costOf.desc).map (fun d => d.parameters.length) = some 1 := by decide +kernel
theorem zi_X1_costOf_X1 : ∀ w ∈ wsX10, w ∈ wsX1_costOf := fun _ h => List.mem_cons_of_mem _ (List.mem_append_right _ h)
theorem zk_X1_costOf_0 : Cond.fieldLink RX1 32 "GroutingIsFollowed" "costs" "[I" ∈ wsX1_costOf := by decide +kernel
set_option maxHeartbeats 4000000 in
set_option maxRecDepth 100000 in
theorem zc_X1_costOf (l : Launch) (D : va_G) (cI : ClassId) (ad : Nat → Nat) (g_now : BT) (g_mind : BT) (g_taken : BT) (g_isTaken : Int32) (g_letters : (Nat → Int32)) (g_letterCount : Int32) (g_told : (Nat → Int32)) (g_toldCount : Int32) (g_refusals : (Nat → Int32)) (g_costs : (Nat → Int32)) (g_gains : (Nat → Int32)) (g_seed : Int32) (v1 : Int32) (r0 : Int32) (h : zf_X1_costOf g_costs v1 = some r0) : Cn l D cI yX1_costOf wsX1_costOf rm_X1_costOf [.ref (ad 0), .int v1] (zb_G cI ad g_now g_mind g_taken g_isTaken g_letters g_letterCount g_told g_toldCount g_refusals g_costs g_gains g_seed) (some (.int r0)) (zb_G cI ad g_now g_mind g_taken g_isTaken g_letters g_letterCount g_told g_toldCount g_refusals g_costs g_gains g_seed) := by
  refine zb_ofW (cc := cX1_costOf) (maxL := 2) (ret := (some .int)) (by decide) rfl (Nat.le_of_ble_eq_true rfl) ?_
  intro p e s m args below meth c A ls hx hb hr hml hts hown hlk hK hP hD hA hl
  have hS : va_S A s.heap s.heap [] := va_S.rf
  have hl : lv_has ls 2 [(0, .ref (ad 0)), (1, .int v1)] := hl
  unfold zf_X1_costOf at h
  refine lv_iload_n hx hb dX1_costOf_0 rfl (lv_at hl 1 rfl) ?_
  refine lv_if_lt (tgt := 22) hx hb dX1_costOf_1 (by decide) (fun c1 => ?_) (fun c1 => ?_)
  · replace h := it_t c1 h
    refine lv_sipush (v := (1000 : Int32)) hx hb dX1_costOf_22 (by decide) ?_
    obtain rfl := re1 h
    exact zb_iret hx hb hr hlk hP hS dX1_costOf_25
  · replace h := it_f c1 h
    refine lv_iload_n hx hb dX1_costOf_4 rfl (lv_at hl 1 rfl) ?_
    refine lv_aload_n hx hb dX1_costOf_5 rfl (lv_at hl 0 rfl) ?_
    refine va_get (D := D) (ci := 1) (v := .ref (ad 25)) (C := RX1) (T := TX1) (N := 12) hx hb hts zi_X1_costOf_X1 hown hK.1 hP 0 rfl rfl 9 (by decide) (hts _ zk_X1_costOf_0) (fun _ h9 => h9) rfl dX1_costOf_6 ?_
    refine va_alen (v := (30 : Int32)) hx hb hK.1 hP 25 0 rfl rfl rfl dX1_costOf_9 ?_
    refine lv_icmp_ge (tgt := 22) hx hb dX1_costOf_10 (by decide) (fun c2 => ?_) (fun c2 => ?_)
    · replace h := it_t c2 h
      refine lv_sipush (v := (1000 : Int32)) hx hb dX1_costOf_22 (by decide) ?_
      obtain rfl := re1 h
      exact zb_iret hx hb hr hlk hP hS dX1_costOf_25
    · replace h := it_f c2 h
      refine lv_aload_n hx hb dX1_costOf_13 rfl (lv_at hl 0 rfl) ?_
      refine va_get (D := D) (ci := 1) (v := .ref (ad 25)) (C := RX1) (T := TX1) (N := 12) hx hb hts zi_X1_costOf_X1 hown hK.1 hP 0 rfl rfl 9 (by decide) (hts _ zk_X1_costOf_0) (fun _ h9 => h9) rfl dX1_costOf_14 ?_
      refine lv_iload_n hx hb dX1_costOf_17 rfl (lv_at hl 1 rfl) ?_
      obtain ⟨h3, h⟩ := it_g h
      refine va_iald hx hb hK.1 hP 25 0 rfl rfl h3 dX1_costOf_18 ?_
      refine lv_goto (tgt := 25) hx hb dX1_costOf_19 (by decide) ?_
      obtain rfl := re1 h
      exact zb_iret hx hb hr hlk hP hS dX1_costOf_25
abbrev rm_X1_putCost : Room := { frames := 0, cells := 0, slots := 0, locals := 0 }
theorem hd_X1_putCost : yX1_putCost.cls = RX1 ∧ yX1_putCost.cls ≠ "java/lang/invoke/MethodHandle" ∧ yX1_putCost.cls ≠ "java/lang/invoke/VarHandle" ∧ (parseMethodDescriptor yX1_putCost.desc).map (fun d => d.parameters.length) = some 2 := by decide +kernel
theorem zi_X1_putCost_X1 : ∀ w ∈ wsX10, w ∈ wsX1_putCost := fun _ h => List.mem_cons_of_mem _ (List.mem_append_right _ h)
theorem zk_X1_putCost_0 : Cond.fieldLink RX1 32 "GroutingIsFollowed" "costs" "[I" ∈ wsX1_putCost := by decide +kernel
set_option maxHeartbeats 4000000 in
set_option maxRecDepth 100000 in
theorem zc_X1_putCost (l : Launch) (D : va_G) (cI : ClassId) (ad : Nat → Nat) (g_now : BT) (g_mind : BT) (g_taken : BT) (g_isTaken : Int32) (g_letters : (Nat → Int32)) (g_letterCount : Int32) (g_told : (Nat → Int32)) (g_toldCount : Int32) (g_refusals : (Nat → Int32)) (g_costs : (Nat → Int32)) (g_gains : (Nat → Int32)) (g_seed : Int32) (v1 : Int32) (v2 : Int32) (w_g_costs : (Nat → Int32)) (h : zf_X1_putCost g_costs v1 v2 = some w_g_costs) : Cn l D cI yX1_putCost wsX1_putCost rm_X1_putCost [.ref (ad 0), .int v1, .int v2] (zb_G cI ad g_now g_mind g_taken g_isTaken g_letters g_letterCount g_told g_toldCount g_refusals g_costs g_gains g_seed) none (zb_G cI ad g_now g_mind g_taken g_isTaken g_letters g_letterCount g_told g_toldCount g_refusals w_g_costs g_gains g_seed) := by
  refine zb_ofW (cc := cX1_putCost) (maxL := 3) (ret := none) (by decide) rfl (Nat.le_of_ble_eq_true rfl) ?_
  intro p e s m args below meth c A ls hx hb hr hml hts hown hlk hK hP hD hA hl
  have hS : va_S A s.heap s.heap [] := va_S.rf
  have hl : lv_has ls 3 [(0, .ref (ad 0)), (1, .int v1), (2, .int v2)] := hl
  unfold zf_X1_putCost at h
  refine lv_iload_n hx hb dX1_putCost_0 rfl (lv_at hl 1 rfl) ?_
  refine lv_if_lt (tgt := 20) hx hb dX1_putCost_1 (by decide) (fun c1 => ?_) (fun c1 => ?_)
  · replace h := it_t c1 h
    obtain rfl := re1 h
    exact zb_vret hx hb hr hlk hP hS dX1_putCost_20
  · replace h := it_f c1 h
    refine lv_iload_n hx hb dX1_putCost_4 rfl (lv_at hl 1 rfl) ?_
    refine lv_aload_n hx hb dX1_putCost_5 rfl (lv_at hl 0 rfl) ?_
    refine va_get (D := D) (ci := 1) (v := .ref (ad 25)) (C := RX1) (T := TX1) (N := 12) hx hb hts zi_X1_putCost_X1 hown hK.1 hP 0 rfl rfl 9 (by decide) (hts _ zk_X1_putCost_0) (fun _ h9 => h9) rfl dX1_putCost_6 ?_
    refine va_alen (v := (30 : Int32)) hx hb hK.1 hP 25 0 rfl rfl rfl dX1_putCost_9 ?_
    refine lv_icmp_ge (tgt := 20) hx hb dX1_putCost_10 (by decide) (fun c2 => ?_) (fun c2 => ?_)
    · replace h := it_t c2 h
      obtain rfl := re1 h
      exact zb_vret hx hb hr hlk hP hS dX1_putCost_20
    · replace h := it_f c2 h
      refine lv_aload_n hx hb dX1_putCost_13 rfl (lv_at hl 0 rfl) ?_
      refine va_get (D := D) (ci := 1) (v := .ref (ad 25)) (C := RX1) (T := TX1) (N := 12) hx hb hts zi_X1_putCost_X1 hown hK.1 hP 0 rfl rfl 9 (by decide) (hts _ zk_X1_putCost_0) (fun _ h9 => h9) rfl dX1_putCost_14 ?_
      refine lv_iload_n hx hb dX1_putCost_17 rfl (lv_at hl 1 rfl) ?_
      refine lv_iload_n hx hb dX1_putCost_18 rfl (lv_at hl 2 rfl) ?_
      obtain ⟨h3, h⟩ := it_g h
      refine va_iast hx hb hK.1 hP hD hS 25 0 rfl rfl h3 dX1_putCost_19 (fun H locs hP hD hS => ?_)
      have hP : va_P D zb_cl (zb_G cI ad g_now g_mind g_taken g_isTaken g_letters g_letterCount g_told g_toldCount g_refusals (upd g_costs v1.toNatClampNeg v2) g_gains g_seed) H := hP
      have hD : va_D A (zb_G cI ad g_now g_mind g_taken g_isTaken g_letters g_letterCount g_told g_toldCount g_refusals (upd g_costs v1.toNatClampNeg v2) g_gains g_seed) := hD
      obtain rfl := re1 h
      exact zb_vret hx hb hr hlk hP hS dX1_putCost_20
abbrev rm_X1_spread : Room := { frames := 1, cells := 0, slots := 0, locals := 23 }
theorem hd_X1_spread : yX1_spread.cls = RX1 ∧ yX1_spread.cls ≠ "java/lang/invoke/MethodHandle" ∧ yX1_spread.cls ≠ "java/lang/invoke/VarHandle" ∧ (parseMethodDescriptor yX1_spread.desc).map (fun d => d.parameters.length) = some 2 := by decide +kernel
set_option maxHeartbeats 4000000 in
set_option maxRecDepth 100000 in
theorem zc_X1_spread (l : Launch) (D : va_G) (cI : ClassId) (ad : Nat → Nat) (g_now : BT) (g_mind : BT) (g_taken : BT) (g_isTaken : Int32) (g_letters : (Nat → Int32)) (g_letterCount : Int32) (g_told : (Nat → Int32)) (g_toldCount : Int32) (g_refusals : (Nat → Int32)) (g_costs : (Nat → Int32)) (g_gains : (Nat → Int32)) (g_seed : Int32) (v1 : Int32) (v2 : Int32) (r0 : Int32) (w_g_costs : (Nat → Int32)) (h : zf_X1_spread g_costs v1 v2 = some (r0, w_g_costs)) : Cn l D cI yX1_spread wsX1_spread rm_X1_spread [.ref (ad 0), .int v1, .int v2] (zb_G cI ad g_now g_mind g_taken g_isTaken g_letters g_letterCount g_told g_toldCount g_refusals g_costs g_gains g_seed) (some (.int r0)) (zb_G cI ad g_now g_mind g_taken g_isTaken g_letters g_letterCount g_told g_toldCount g_refusals w_g_costs g_gains g_seed) := by
  refine zb_ofW (cc := cX1_spread) (maxL := 6) (ret := (some .boolean)) (by decide) rfl (Nat.le_of_ble_eq_true rfl) ?_
  intro p e s m args below meth c A ls hx hb hr hml hts hown hlk hK hP hD hA hl
  have hS : va_S A s.heap s.heap [] := va_S.rf
  have hl : lv_has ls 6 [(0, .ref (ad 0)), (1, .int v1), (2, .int v2)] := hl
  unfold zf_X1_spread at h
  refine lv_iconst (v := (0 : Int32)) hx hb dX1_spread_0 (by decide) ?_
  refine lv_istore_n (lv' := [(3, .int (0 : Int32)), (0, .ref (ad 0)), (1, .int v1), (2, .int v2)]) hx hb dX1_spread_1 rfl hl (by decide) rfl (fun ls hl => ?_)
  refine lv_iconst (v := (0 : Int32)) hx hb dX1_spread_2 (by decide) ?_
  refine lv_istore (lv' := [(4, .int (0 : Int32)), (3, .int (0 : Int32)), (0, .ref (ad 0)), (1, .int v1), (2, .int v2)]) hx hb dX1_spread_3 hl (by decide) rfl (fun ls hl => ?_)
  have lp4 : ∀ (fu4 : Nat) (x1 : Int32) (x2 : Int32) (x3 : (Nat → Int32)) (H : Heap) (locs : List Loc) (hP : va_P D zb_cl (zb_G cI ad g_now g_mind g_taken g_isTaken g_letters g_letterCount g_told g_toldCount g_refusals x3 g_gains g_seed) H) (hD : va_D A (zb_G cI ad g_now g_mind g_taken g_isTaken g_letters g_letterCount g_told g_toldCount g_refusals x3 g_gains g_seed)) (hS : va_S A s.heap H locs) (ls : Array Slot) (hl : lv_has ls 6 [(0, .ref (ad 0)), (1, .int v1), (2, .int v2), (3, .int x1), (4, .int x2)]) (h : zl3 (zf_X1_spread_b5 v1 v2) fu4 x1 x2 x3 = some (r0, w_g_costs)), W p l e rm_X1_spread s m args below meth c H locs 0 0 (zb_Q below D (some (.int r0)) (zb_G cI ad g_now g_mind g_taken g_isTaken g_letters g_letterCount g_told g_toldCount g_refusals w_g_costs g_gains g_seed) A args s) (F0 m 5 ls []) := by
    intro fu4
    induction fu4 with
    | zero => intro x1 x2 x3 H locs hP hD hS ls hl h; exact zb_no h
    | succ fu4 ih4 =>
      intro x1 x2 x3 H locs hP hD hS ls hl h
      replace h : zf_X1_spread_b5 v1 v2 (zl3 (zf_X1_spread_b5 v1 v2) fu4) x1 x2 x3 = some (r0, w_g_costs) := h
      unfold zf_X1_spread_b5 at h
      refine lv_iload hx hb dX1_spread_5 (lv_at hl 4 rfl) ?_
      refine lv_iconst (v := (4 : Int32)) hx hb dX1_spread_7 (by decide) ?_
      refine lv_icmp_ge (tgt := 49) hx hb dX1_spread_8 (by decide) (fun c5 => ?_) (fun c5 => ?_)
      · replace h := it_t c5 h
        refine lv_iload_n hx hb dX1_spread_49 rfl (lv_at hl 3 rfl) ?_
        obtain ⟨hz, h⟩ := it_z h
        obtain ⟨rfl, rfl⟩ := re2 h
        exact zb_zret hx hb hr hlk hz hP hS dX1_spread_50
      · replace h := it_f c5 h
        refine lv_iload_n hx hb dX1_spread_11 rfl (lv_at hl 1 rfl) ?_
        refine lv_iload hx hb dX1_spread_12 (lv_at hl 4 rfl) ?_
        obtain ⟨r6, g7, h⟩ := bo1 h
        refine zb_callS (As := [.int v1, .int x2]) (rest := []) ⟨hx, hb, hml, hown, hts⟩ (zc_X1_nodeThatWay l D cI v1 x2 r6 g7) (va_cwS 2 hts gX1_spread_X1_nodeThatWay rfl rfl rfl hd_X1_nodeThatWay.2 ⟨Nat.le_of_ble_eq_true rfl, Nat.le_of_ble_eq_true rfl⟩) hK hP hD hS hA (zb_none _) rfl hl.1 rfl (Nat.le_of_ble_eq_true rfl) dX1_spread_14 ⟨Nat.le_refl _, Nat.le_refl _⟩ (fun H locs hP hD hS => ?_)
        refine lv_istore (lv' := [(5, .int r6), (0, .ref (ad 0)), (1, .int v1), (2, .int v2), (3, .int x1), (4, .int x2)]) hx hb dX1_spread_17 hl (by decide) rfl (fun ls hl => ?_)
        refine lv_iload hx hb dX1_spread_19 (lv_at hl 0 rfl) ?_
        refine lv_if_lt (tgt := 43) hx hb dX1_spread_21 (by decide) (fun c8 => ?_) (fun c8 => ?_)
        · replace h := it_t c8 h
          refine lv_iinc (v := (x2 + (1 : Int32))) (lv' := [(4, .int (x2 + (1 : Int32))), (5, .int r6), (0, .ref (ad 0)), (1, .int v1), (2, .int v2), (3, .int x1)]) hx hb dX1_spread_43 hl (k := 5) rfl (by first | rfl | decide) (by decide) rfl (fun ls hl => ?_)
          refine lv_goto (tgt := 5) hx hb dX1_spread_46 (by decide) ?_
          exact ih4 x1 (x2 + (1 : Int32)) x3 _ _ hP hD hS ls (lv_sub hl [2, 3, 4, 5, 0] rfl) h
        · replace h := it_f c8 h
          refine lv_iload_n hx hb dX1_spread_24 rfl (lv_at hl 3 rfl) ?_
          refine lv_aload_n hx hb dX1_spread_25 rfl (lv_at hl 1 rfl) ?_
          refine lv_iload hx hb dX1_spread_26 (lv_at hl 0 rfl) ?_
          obtain ⟨r9, g10, h⟩ := bo1 h
          refine zb_callV (As := [.int r6]) (rest := [.int v2]) ⟨hx, hb, hml, hown, hts⟩ (zc_X1_costOf l D cI ad g_now g_mind g_taken g_isTaken g_letters g_letterCount g_told g_toldCount g_refusals x3 g_gains g_seed r6 r9 g10) (cwV 1 hts gX1_spread_X1_costOf rfl rfl rfl hd_X1_costOf ⟨Nat.le_of_ble_eq_true rfl, Nat.le_of_ble_eq_true rfl⟩) hK hP hD hS hA (zb_sG) (q0 := 0) rfl rfl rfl hl.1 rfl (Nat.le_of_ble_eq_true rfl) dX1_spread_28 ⟨Nat.le_refl _, Nat.le_refl _⟩ (fun H locs hP hD hS => ?_)
          refine lv_icmp_ge (tgt := 43) hx hb dX1_spread_31 (by decide) (fun c11 => ?_) (fun c11 => ?_)
          · replace h := it_t c11 h
            refine lv_iinc (v := (x2 + (1 : Int32))) (lv' := [(4, .int (x2 + (1 : Int32))), (5, .int r6), (0, .ref (ad 0)), (1, .int v1), (2, .int v2), (3, .int x1)]) hx hb dX1_spread_43 hl (k := 5) rfl (by first | rfl | decide) (by decide) rfl (fun ls hl => ?_)
            refine lv_goto (tgt := 5) hx hb dX1_spread_46 (by decide) ?_
            exact ih4 x1 (x2 + (1 : Int32)) x3 _ _ hP hD hS ls (lv_sub hl [2, 3, 4, 5, 0] rfl) h
          · replace h := it_f c11 h
            refine lv_aload_n hx hb dX1_spread_34 rfl (lv_at hl 1 rfl) ?_
            refine lv_iload hx hb dX1_spread_35 (lv_at hl 0 rfl) ?_
            refine lv_iload_n hx hb dX1_spread_37 rfl (lv_at hl 3 rfl) ?_
            obtain ⟨n12, g13, h⟩ := bo1 h
            refine zb_callV (As := [.int r6, .int v2]) (rest := []) ⟨hx, hb, hml, hown, hts⟩ (zc_X1_putCost l D cI ad g_now g_mind g_taken g_isTaken g_letters g_letterCount g_told g_toldCount g_refusals x3 g_gains g_seed r6 v2 n12 g13) (cwV 2 hts gX1_spread_X1_putCost rfl rfl rfl hd_X1_putCost ⟨Nat.le_of_ble_eq_true rfl, Nat.le_of_ble_eq_true rfl⟩) hK hP hD hS hA (zb_sG) (q0 := 0) rfl rfl rfl hl.1 rfl (Nat.le_of_ble_eq_true rfl) dX1_spread_38 ⟨Nat.le_refl _, Nat.le_refl _⟩ (fun H locs hP hD hS => ?_)
            refine lv_iconst (v := (1 : Int32)) hx hb dX1_spread_41 (by decide) ?_
            refine lv_istore_n (lv' := [(3, .int (1 : Int32)), (5, .int r6), (0, .ref (ad 0)), (1, .int v1), (2, .int v2), (4, .int x2)]) hx hb dX1_spread_42 rfl hl (by decide) rfl (fun ls hl => ?_)
            refine lv_iinc (v := (x2 + (1 : Int32))) (lv' := [(4, .int (x2 + (1 : Int32))), (3, .int (1 : Int32)), (5, .int r6), (0, .ref (ad 0)), (1, .int v1), (2, .int v2)]) hx hb dX1_spread_43 hl (k := 5) rfl (by first | rfl | decide) (by decide) rfl (fun ls hl => ?_)
            refine lv_goto (tgt := 5) hx hb dX1_spread_46 (by decide) ?_
            exact ih4 (1 : Int32) (x2 + (1 : Int32)) n12 _ _ hP hD hS ls (lv_sub hl [3, 4, 5, 1, 0] rfl) h
  exact lp4 zb_FU (0 : Int32) (0 : Int32) g_costs _ _ hP hD hS ls (lv_sub hl [2, 3, 4, 1, 0] rfl) h
