abbrev rm_X1_row : Room := { frames := 1, cells := 0, slots := 0, locals := 22 }
theorem hd_X1_row : yX1_row.cls = RX1 ∧ yX1_row.cls ≠ "java/lang/invoke/MethodHandle" ∧ yX1_row.cls ≠ "java/lang/invoke/VarHandle" ∧ (parseMethodDescriptor yX1_row.desc).map (fun d => d.parameters.length) = some 1 := by decide +kernel
theorem zi_X1_row_X1 : ∀ w ∈ wsX10, w ∈ wsX1_row := fun _ h => List.mem_cons_of_mem _ (List.mem_append_right _ h)
theorem zk_X1_row_0 : Cond.fieldLink RX1 192 "GroutingIsFollowed" "toldCount" "I" ∈ wsX1_row := by decide +kernel
theorem zk_X1_row_1 : Cond.fieldLink RX1 26 "GroutingIsFollowed" "told" "[I" ∈ wsX1_row := by decide +kernel
set_option maxHeartbeats 4000000 in
set_option maxRecDepth 100000 in
theorem zc_X1_row (l : Launch) (D : va_G) (cI : ClassId) (ad : Nat → Nat) (g_now : BT) (g_mind : BT) (g_taken : BT) (g_isTaken : Int32) (g_letters : (Nat → Int32)) (g_letterCount : Int32) (g_told : (Nat → Int32)) (g_toldCount : Int32) (g_refusals : (Nat → Int32)) (g_costs : (Nat → Int32)) (g_gains : (Nat → Int32)) (g_seed : Int32) (v1 : Int32) (r0 : Int32) (w_g_told : (Nat → Int32)) (w_g_toldCount : Int32) (w_g_refusals : (Nat → Int32)) (h : zf_X1_row g_told g_toldCount g_refusals v1 = some (r0, w_g_told, w_g_toldCount, w_g_refusals)) : Cn l D cI yX1_row wsX1_row rm_X1_row [.ref (ad 0), .int v1] (zb_G cI ad g_now g_mind g_taken g_isTaken g_letters g_letterCount g_told g_toldCount g_refusals g_costs g_gains g_seed) (some (.int r0)) (zb_G cI ad g_now g_mind g_taken g_isTaken g_letters g_letterCount w_g_told w_g_toldCount w_g_refusals g_costs g_gains g_seed) := by
  refine zb_ofW (cc := cX1_row) (maxL := 2) (ret := (some .int)) (by decide) rfl (Nat.le_of_ble_eq_true rfl) ?_
  intro p e s m args below meth c A ls hx hb hr hml hts hown hlk hK hP hD hA hl
  have hS : va_S A s.heap s.heap [] := va_S.rf
  have hl : lv_has ls 2 [(0, .ref (ad 0)), (1, .int v1)] := hl
  unfold zf_X1_row at h
  refine lv_iload_n hx hb dX1_row_0 rfl (lv_at hl 1 rfl) ?_
  refine lv_if_ge (tgt := 11) hx hb dX1_row_1 (by decide) (fun c1 => ?_) (fun c1 => ?_)
  · replace h := it_t c1 h
    refine lv_iload_n hx hb dX1_row_11 rfl (lv_at hl 1 rfl) ?_
    refine lv_bipush (v := (99 : Int32)) hx hb dX1_row_12 (by decide) ?_
    refine lv_icmp_gt (tgt := 26) hx hb dX1_row_14 (by decide) (fun c2 => ?_) (fun c2 => ?_)
    · replace h := it_t c2 h
      refine lv_aload_n hx hb dX1_row_26 rfl (lv_at hl 0 rfl) ?_
      refine lv_bipush (v := ((-6) : Int32)) hx hb dX1_row_27 (by decide) ?_
      obtain ⟨r3, n4, g5, h⟩ := bo2 h
      refine zb_callV (As := [.int ((-6) : Int32)]) (rest := []) ⟨hx, hb, hml, hown, hts⟩ (zc_X1_refuse l D cI ad g_now g_mind g_taken g_isTaken g_letters g_letterCount g_told g_toldCount g_refusals g_costs g_gains g_seed ((-6) : Int32) r3 n4 g5) (cwV 1 hts gX1_row_X1_refuse rfl rfl rfl hd_X1_refuse ⟨Nat.le_of_ble_eq_true rfl, Nat.le_of_ble_eq_true rfl⟩) hK hP hD hS hA (zb_sG) (q0 := 0) rfl rfl rfl hl.1 rfl (Nat.le_of_ble_eq_true rfl) dX1_row_29 ⟨Nat.le_refl _, Nat.le_refl _⟩ (fun H locs hP hD hS => ?_)
      obtain ⟨rfl, rfl, rfl, rfl⟩ := re4 h
      exact zb_iret hx hb hr hlk hP hS dX1_row_32
    · replace h := it_f c2 h
      refine lv_aload_n hx hb dX1_row_17 rfl (lv_at hl 0 rfl) ?_
      refine va_get (D := D) (ci := 1) (v := .int g_toldCount) (C := RX1) (T := TX1) (N := 12) hx hb hts zi_X1_row_X1 hown hK.1 hP 0 rfl rfl 7 (by decide) (hts _ zk_X1_row_0) (fun _ h9 => h9) rfl dX1_row_18 ?_
      refine lv_bipush (v := (16 : Int32)) hx hb dX1_row_21 (by decide) ?_
      refine lv_icmp_lt (tgt := 33) hx hb dX1_row_23 (by decide) (fun c6 => ?_) (fun c6 => ?_)
      · replace h := it_t c6 h
        refine lv_aload_n hx hb dX1_row_33 rfl (lv_at hl 0 rfl) ?_
        refine va_get (D := D) (ci := 1) (v := .int g_toldCount) (C := RX1) (T := TX1) (N := 12) hx hb hts zi_X1_row_X1 hown hK.1 hP 0 rfl rfl 7 (by decide) (hts _ zk_X1_row_0) (fun _ h9 => h9) rfl dX1_row_34 ?_
        refine lv_if_lt (tgt := 62) hx hb dX1_row_37 (by decide) (fun c7 => ?_) (fun c7 => ?_)
        · replace h := it_t c7 h
          refine lv_aload_n hx hb dX1_row_62 rfl (lv_at hl 0 rfl) ?_
          refine lv_dup hx hb dX1_row_63 rfl ?_
          refine va_get (D := D) (ci := 1) (v := .int g_toldCount) (C := RX1) (T := TX1) (N := 12) hx hb hts zi_X1_row_X1 hown hK.1 hP 0 rfl rfl 7 (by decide) (hts _ zk_X1_row_0) (fun _ h9 => h9) rfl dX1_row_64 ?_
          refine lv_iconst (v := (1 : Int32)) hx hb dX1_row_67 (by decide) ?_
          refine lv_iadd hx hb dX1_row_68 ?_
          refine va_put (D := D) (ci := 1) (v := .int (g_toldCount + (1 : Int32))) (ty := .int) (C := RX1) (T := TX1) (N := 12) hx hb hts zi_X1_row_X1 tyX1 tyX1_ok nmX1 hown hK.1 hP hD hS 0 rfl rfl 7 (by decide) (hts _ zk_X1_row_0) (fun _ h9 => h9) rfl (by decide +kernel) rfl rfl (Nat.le_of_ble_eq_true rfl) dX1_row_69 (fun H locs hP hD hS => ?_)
          have hP : va_P D zb_cl (zb_G cI ad g_now g_mind g_taken g_isTaken g_letters g_letterCount g_told (g_toldCount + (1 : Int32)) g_refusals g_costs g_gains g_seed) H := hP
          have hD : va_D A (zb_G cI ad g_now g_mind g_taken g_isTaken g_letters g_letterCount g_told (g_toldCount + (1 : Int32)) g_refusals g_costs g_gains g_seed) := hD
          refine lv_aload_n hx hb dX1_row_72 rfl (lv_at hl 0 rfl) ?_
          refine va_get (D := D) (ci := 1) (v := .int (g_toldCount + (1 : Int32))) (C := RX1) (T := TX1) (N := 12) hx hb hts zi_X1_row_X1 hown hK.1 hP 0 rfl rfl 7 (by decide) (hts _ zk_X1_row_0) (fun _ h9 => h9) rfl dX1_row_73 ?_
          obtain ⟨rfl, rfl, rfl, rfl⟩ := re4 h
          exact zb_iret hx hb hr hlk hP hS dX1_row_76
        · replace h := it_f c7 h
          refine lv_aload_n hx hb dX1_row_40 rfl (lv_at hl 0 rfl) ?_
          refine va_get (D := D) (ci := 1) (v := .int g_toldCount) (C := RX1) (T := TX1) (N := 12) hx hb hts zi_X1_row_X1 hown hK.1 hP 0 rfl rfl 7 (by decide) (hts _ zk_X1_row_0) (fun _ h9 => h9) rfl dX1_row_41 ?_
          refine lv_aload_n hx hb dX1_row_44 rfl (lv_at hl 0 rfl) ?_
          refine va_get (D := D) (ci := 1) (v := .ref (ad 23)) (C := RX1) (T := TX1) (N := 12) hx hb hts zi_X1_row_X1 hown hK.1 hP 0 rfl rfl 6 (by decide) (hts _ zk_X1_row_1) (fun _ h9 => h9) rfl dX1_row_45 ?_
          refine va_alen (v := (16 : Int32)) hx hb hK.1 hP 23 0 rfl rfl rfl dX1_row_48 ?_
          refine lv_icmp_ge (tgt := 62) hx hb dX1_row_49 (by decide) (fun c8 => ?_) (fun c8 => ?_)
          · replace h := it_t c8 h
            refine lv_aload_n hx hb dX1_row_62 rfl (lv_at hl 0 rfl) ?_
            refine lv_dup hx hb dX1_row_63 rfl ?_
            refine va_get (D := D) (ci := 1) (v := .int g_toldCount) (C := RX1) (T := TX1) (N := 12) hx hb hts zi_X1_row_X1 hown hK.1 hP 0 rfl rfl 7 (by decide) (hts _ zk_X1_row_0) (fun _ h9 => h9) rfl dX1_row_64 ?_
            refine lv_iconst (v := (1 : Int32)) hx hb dX1_row_67 (by decide) ?_
            refine lv_iadd hx hb dX1_row_68 ?_
            refine va_put (D := D) (ci := 1) (v := .int (g_toldCount + (1 : Int32))) (ty := .int) (C := RX1) (T := TX1) (N := 12) hx hb hts zi_X1_row_X1 tyX1 tyX1_ok nmX1 hown hK.1 hP hD hS 0 rfl rfl 7 (by decide) (hts _ zk_X1_row_0) (fun _ h9 => h9) rfl (by decide +kernel) rfl rfl (Nat.le_of_ble_eq_true rfl) dX1_row_69 (fun H locs hP hD hS => ?_)
            have hP : va_P D zb_cl (zb_G cI ad g_now g_mind g_taken g_isTaken g_letters g_letterCount g_told (g_toldCount + (1 : Int32)) g_refusals g_costs g_gains g_seed) H := hP
            have hD : va_D A (zb_G cI ad g_now g_mind g_taken g_isTaken g_letters g_letterCount g_told (g_toldCount + (1 : Int32)) g_refusals g_costs g_gains g_seed) := hD
            refine lv_aload_n hx hb dX1_row_72 rfl (lv_at hl 0 rfl) ?_
            refine va_get (D := D) (ci := 1) (v := .int (g_toldCount + (1 : Int32))) (C := RX1) (T := TX1) (N := 12) hx hb hts zi_X1_row_X1 hown hK.1 hP 0 rfl rfl 7 (by decide) (hts _ zk_X1_row_0) (fun _ h9 => h9) rfl dX1_row_73 ?_
            obtain ⟨rfl, rfl, rfl, rfl⟩ := re4 h
            exact zb_iret hx hb hr hlk hP hS dX1_row_76
          · replace h := it_f c8 h
            refine lv_aload_n hx hb dX1_row_52 rfl (lv_at hl 0 rfl) ?_
            refine va_get (D := D) (ci := 1) (v := .ref (ad 23)) (C := RX1) (T := TX1) (N := 12) hx hb hts zi_X1_row_X1 hown hK.1 hP 0 rfl rfl 6 (by decide) (hts _ zk_X1_row_1) (fun _ h9 => h9) rfl dX1_row_53 ?_
            refine lv_aload_n hx hb dX1_row_56 rfl (lv_at hl 0 rfl) ?_
            refine va_get (D := D) (ci := 1) (v := .int g_toldCount) (C := RX1) (T := TX1) (N := 12) hx hb hts zi_X1_row_X1 hown hK.1 hP 0 rfl rfl 7 (by decide) (hts _ zk_X1_row_0) (fun _ h9 => h9) rfl dX1_row_57 ?_
            refine lv_iload_n hx hb dX1_row_60 rfl (lv_at hl 1 rfl) ?_
            obtain ⟨h9, h⟩ := it_g h
            refine va_iast hx hb hK.1 hP hD hS 23 0 rfl rfl h9 dX1_row_61 (fun H locs hP hD hS => ?_)
            have hP : va_P D zb_cl (zb_G cI ad g_now g_mind g_taken g_isTaken g_letters g_letterCount (upd g_told g_toldCount.toNatClampNeg v1) g_toldCount g_refusals g_costs g_gains g_seed) H := hP
            have hD : va_D A (zb_G cI ad g_now g_mind g_taken g_isTaken g_letters g_letterCount (upd g_told g_toldCount.toNatClampNeg v1) g_toldCount g_refusals g_costs g_gains g_seed) := hD
            refine lv_aload_n hx hb dX1_row_62 rfl (lv_at hl 0 rfl) ?_
            refine lv_dup hx hb dX1_row_63 rfl ?_
            refine va_get (D := D) (ci := 1) (v := .int g_toldCount) (C := RX1) (T := TX1) (N := 12) hx hb hts zi_X1_row_X1 hown hK.1 hP 0 rfl rfl 7 (by decide) (hts _ zk_X1_row_0) (fun _ h9 => h9) rfl dX1_row_64 ?_
            refine lv_iconst (v := (1 : Int32)) hx hb dX1_row_67 (by decide) ?_
            refine lv_iadd hx hb dX1_row_68 ?_
            refine va_put (D := D) (ci := 1) (v := .int (g_toldCount + (1 : Int32))) (ty := .int) (C := RX1) (T := TX1) (N := 12) hx hb hts zi_X1_row_X1 tyX1 tyX1_ok nmX1 hown hK.1 hP hD hS 0 rfl rfl 7 (by decide) (hts _ zk_X1_row_0) (fun _ h9 => h9) rfl (by decide +kernel) rfl rfl (Nat.le_of_ble_eq_true rfl) dX1_row_69 (fun H locs hP hD hS => ?_)
            have hP : va_P D zb_cl (zb_G cI ad g_now g_mind g_taken g_isTaken g_letters g_letterCount (upd g_told g_toldCount.toNatClampNeg v1) (g_toldCount + (1 : Int32)) g_refusals g_costs g_gains g_seed) H := hP
            have hD : va_D A (zb_G cI ad g_now g_mind g_taken g_isTaken g_letters g_letterCount (upd g_told g_toldCount.toNatClampNeg v1) (g_toldCount + (1 : Int32)) g_refusals g_costs g_gains g_seed) := hD
            refine lv_aload_n hx hb dX1_row_72 rfl (lv_at hl 0 rfl) ?_
            refine va_get (D := D) (ci := 1) (v := .int (g_toldCount + (1 : Int32))) (C := RX1) (T := TX1) (N := 12) hx hb hts zi_X1_row_X1 hown hK.1 hP 0 rfl rfl 7 (by decide) (hts _ zk_X1_row_0) (fun _ h9 => h9) rfl dX1_row_73 ?_
            obtain ⟨rfl, rfl, rfl, rfl⟩ := re4 h
            exact zb_iret hx hb hr hlk hP hS dX1_row_76
      · replace h := it_f c6 h
        refine lv_aload_n hx hb dX1_row_26 rfl (lv_at hl 0 rfl) ?_
        refine lv_bipush (v := ((-6) : Int32)) hx hb dX1_row_27 (by decide) ?_
        obtain ⟨r10, n11, g12, h⟩ := bo2 h
        refine zb_callV (As := [.int ((-6) : Int32)]) (rest := []) ⟨hx, hb, hml, hown, hts⟩ (zc_X1_refuse l D cI ad g_now g_mind g_taken g_isTaken g_letters g_letterCount g_told g_toldCount g_refusals g_costs g_gains g_seed ((-6) : Int32) r10 n11 g12) (cwV 1 hts gX1_row_X1_refuse rfl rfl rfl hd_X1_refuse ⟨Nat.le_of_ble_eq_true rfl, Nat.le_of_ble_eq_true rfl⟩) hK hP hD hS hA (zb_sG) (q0 := 0) rfl rfl rfl hl.1 rfl (Nat.le_of_ble_eq_true rfl) dX1_row_29 ⟨Nat.le_refl _, Nat.le_refl _⟩ (fun H locs hP hD hS => ?_)
        obtain ⟨rfl, rfl, rfl, rfl⟩ := re4 h
        exact zb_iret hx hb hr hlk hP hS dX1_row_32
  · replace h := it_f c1 h
    refine lv_aload_n hx hb dX1_row_4 rfl (lv_at hl 0 rfl) ?_
    refine lv_bipush (v := ((-4) : Int32)) hx hb dX1_row_5 (by decide) ?_
    obtain ⟨r13, n14, g15, h⟩ := bo2 h
    refine zb_callV (As := [.int ((-4) : Int32)]) (rest := []) ⟨hx, hb, hml, hown, hts⟩ (zc_X1_refuse l D cI ad g_now g_mind g_taken g_isTaken g_letters g_letterCount g_told g_toldCount g_refusals g_costs g_gains g_seed ((-4) : Int32) r13 n14 g15) (cwV 1 hts gX1_row_X1_refuse rfl rfl rfl hd_X1_refuse ⟨Nat.le_of_ble_eq_true rfl, Nat.le_of_ble_eq_true rfl⟩) hK hP hD hS hA (zb_sG) (q0 := 0) rfl rfl rfl hl.1 rfl (Nat.le_of_ble_eq_true rfl) dX1_row_7 ⟨Nat.le_refl _, Nat.le_refl _⟩ (fun H locs hP hD hS => ?_)
    obtain ⟨rfl, rfl, rfl, rfl⟩ := re4 h
    exact zb_iret hx hb hr hlk hP hS dX1_row_10
abbrev rm_X1_judge : Room := { frames := 2, cells := 0, slots := 0, locals := 41 }
theorem hd_X1_judge : yX1_judge.cls = RX1 ∧ yX1_judge.cls ≠ "java/lang/invoke/MethodHandle" ∧ yX1_judge.cls ≠ "java/lang/invoke/VarHandle" ∧ (parseMethodDescriptor yX1_judge.desc).map (fun d => d.parameters.length) = some 0 := by decide +kernel
theorem zi_X1_judge_X1 : ∀ w ∈ wsX10, w ∈ wsX1_judge := fun _ h => List.mem_cons_of_mem _ (List.mem_append_left _ (List.mem_append_right _ h))
theorem zk_X1_judge_0 : Cond.fieldLink RX1 192 "GroutingIsFollowed" "toldCount" "I" ∈ wsX1_judge := by decide +kernel
theorem zk_X1_judge_1 : Cond.fieldLink RX1 10 "GroutingIsFollowed" "now" "LGroutingIsFollowed$Bath;" ∈ wsX1_judge := by decide +kernel
set_option maxHeartbeats 4000000 in
set_option maxRecDepth 100000 in
theorem zc_X1_judge (l : Launch) (D : va_G) (cI : ClassId) (ad : Nat → Nat) (g_now : BT) (g_mind : BT) (g_taken : BT) (g_isTaken : Int32) (g_letters : (Nat → Int32)) (g_letterCount : Int32) (g_told : (Nat → Int32)) (g_toldCount : Int32) (g_refusals : (Nat → Int32)) (g_costs : (Nat → Int32)) (g_gains : (Nat → Int32)) (g_seed : Int32) (r0 : Int32) (w_g_toldCount : Int32) (h : zf_X1_judge g_now g_told g_toldCount = some (r0, w_g_toldCount)) : Cn l D cI yX1_judge wsX1_judge rm_X1_judge [.ref (ad 0)] (zb_G cI ad g_now g_mind g_taken g_isTaken g_letters g_letterCount g_told g_toldCount g_refusals g_costs g_gains g_seed) (some (.int r0)) (zb_G cI ad g_now g_mind g_taken g_isTaken g_letters g_letterCount g_told w_g_toldCount g_refusals g_costs g_gains g_seed) := by
  refine zb_ofW (cc := cX1_judge) (maxL := 3) (ret := (some .int)) (by decide) rfl (Nat.le_of_ble_eq_true rfl) ?_
  intro p e s m args below meth c A ls hx hb hr hml hts hown hlk hK hP hD hA hl
  have hS : va_S A s.heap s.heap [] := va_S.rf
  have hl : lv_has ls 3 [(0, .ref (ad 0))] := hl
  unfold zf_X1_judge at h
  refine lv_bipush (v := ((-9) : Int32)) hx hb dX1_judge_0 (by decide) ?_
  refine lv_istore_n (lv' := [(1, .int ((-9) : Int32)), (0, .ref (ad 0))]) hx hb dX1_judge_2 rfl hl (by decide) rfl (fun ls hl => ?_)
  refine lv_iconst (v := (0 : Int32)) hx hb dX1_judge_3 (by decide) ?_
  refine lv_istore_n (lv' := [(2, .int (0 : Int32)), (1, .int ((-9) : Int32)), (0, .ref (ad 0))]) hx hb dX1_judge_4 rfl hl (by decide) rfl (fun ls hl => ?_)
  have lp3 : ∀ (fu3 : Nat) (x1 : Int32) (x2 : Int32) (H : Heap) (locs : List Loc) (hP : va_P D zb_cl (zb_G cI ad g_now g_mind g_taken g_isTaken g_letters g_letterCount g_told g_toldCount g_refusals g_costs g_gains g_seed) H) (hD : va_D A (zb_G cI ad g_now g_mind g_taken g_isTaken g_letters g_letterCount g_told g_toldCount g_refusals g_costs g_gains g_seed)) (hS : va_S A s.heap H locs) (ls : Array Slot) (hl : lv_has ls 3 [(0, .ref (ad 0)), (1, .int x1), (2, .int x2)]) (h : zl2 (zf_X1_judge_b5 g_now g_told g_toldCount) fu3 x1 x2 = some (r0, w_g_toldCount)), W p l e rm_X1_judge s m args below meth c H locs 0 0 (zb_Q below D (some (.int r0)) (zb_G cI ad g_now g_mind g_taken g_isTaken g_letters g_letterCount g_told w_g_toldCount g_refusals g_costs g_gains g_seed) A args s) (F0 m 5 ls []) := by
    intro fu3
    induction fu3 with
    | zero => intro x1 x2 H locs hP hD hS ls hl h; exact zb_no h
    | succ fu3 ih3 =>
      intro x1 x2 H locs hP hD hS ls hl h
      replace h : zf_X1_judge_b5 g_now g_told g_toldCount (zl2 (zf_X1_judge_b5 g_now g_told g_toldCount) fu3) x1 x2 = some (r0, w_g_toldCount) := h
      unfold zf_X1_judge_b5 at h
      refine lv_iload_n hx hb dX1_judge_5 rfl (lv_at hl 2 rfl) ?_
      refine lv_aload_n hx hb dX1_judge_6 rfl (lv_at hl 0 rfl) ?_
      refine va_get (D := D) (ci := 1) (v := .int g_toldCount) (C := RX1) (T := TX1) (N := 12) hx hb hts zi_X1_judge_X1 hown hK.1 hP 0 rfl rfl 7 (by decide) (hts _ zk_X1_judge_0) (fun _ h9 => h9) rfl dX1_judge_7 ?_
      refine lv_icmp_ge (tgt := 43) hx hb dX1_judge_10 (by decide) (fun c4 => ?_) (fun c4 => ?_)
      · replace h := it_t c4 h
        refine lv_aload_n hx hb dX1_judge_43 rfl (lv_at hl 0 rfl) ?_
        refine lv_iconst (v := (0 : Int32)) hx hb dX1_judge_44 (by decide) ?_
        refine va_put (D := D) (ci := 1) (v := .int (0 : Int32)) (ty := .int) (C := RX1) (T := TX1) (N := 12) hx hb hts zi_X1_judge_X1 tyX1 tyX1_ok nmX1 hown hK.1 hP hD hS 0 rfl rfl 7 (by decide) (hts _ zk_X1_judge_0) (fun _ h9 => h9) rfl (by decide +kernel) rfl rfl (Nat.le_of_ble_eq_true rfl) dX1_judge_45 (fun H locs hP hD hS => ?_)
        have hP : va_P D zb_cl (zb_G cI ad g_now g_mind g_taken g_isTaken g_letters g_letterCount g_told (0 : Int32) g_refusals g_costs g_gains g_seed) H := hP
        have hD : va_D A (zb_G cI ad g_now g_mind g_taken g_isTaken g_letters g_letterCount g_told (0 : Int32) g_refusals g_costs g_gains g_seed) := hD
        refine lv_iload_n hx hb dX1_judge_48 rfl (lv_at hl 1 rfl) ?_
        obtain ⟨rfl, rfl⟩ := re2 h
        exact zb_iret hx hb hr hlk hP hS dX1_judge_49
      · replace h := it_f c4 h
        refine lv_iload_n hx hb dX1_judge_13 rfl (lv_at hl 1 rfl) ?_
        refine lv_bipush (v := ((-9) : Int32)) hx hb dX1_judge_14 (by decide) ?_
        refine lv_icmp_ne (tgt := 43) hx hb dX1_judge_16 (by decide) (fun c5 => ?_) (fun c5 => ?_)
        · replace h := it_f c5 h
          refine lv_aload_n hx hb dX1_judge_43 rfl (lv_at hl 0 rfl) ?_
          refine lv_iconst (v := (0 : Int32)) hx hb dX1_judge_44 (by decide) ?_
          refine va_put (D := D) (ci := 1) (v := .int (0 : Int32)) (ty := .int) (C := RX1) (T := TX1) (N := 12) hx hb hts zi_X1_judge_X1 tyX1 tyX1_ok nmX1 hown hK.1 hP hD hS 0 rfl rfl 7 (by decide) (hts _ zk_X1_judge_0) (fun _ h9 => h9) rfl (by decide +kernel) rfl rfl (Nat.le_of_ble_eq_true rfl) dX1_judge_45 (fun H locs hP hD hS => ?_)
          have hP : va_P D zb_cl (zb_G cI ad g_now g_mind g_taken g_isTaken g_letters g_letterCount g_told (0 : Int32) g_refusals g_costs g_gains g_seed) H := hP
          have hD : va_D A (zb_G cI ad g_now g_mind g_taken g_isTaken g_letters g_letterCount g_told (0 : Int32) g_refusals g_costs g_gains g_seed) := hD
          refine lv_iload_n hx hb dX1_judge_48 rfl (lv_at hl 1 rfl) ?_
          obtain ⟨rfl, rfl⟩ := re2 h
          exact zb_iret hx hb hr hlk hP hS dX1_judge_49
        · replace h := it_t c5 h
          refine lv_aload_n hx hb dX1_judge_19 rfl (lv_at hl 0 rfl) ?_
          refine lv_iload_n hx hb dX1_judge_20 rfl (lv_at hl 2 rfl) ?_
          obtain ⟨r6, g7, h⟩ := bo1 h
          refine zb_callV (As := [.int x2]) (rest := []) ⟨hx, hb, hml, hown, hts⟩ (zc_X1_toldAt l D cI ad g_now g_mind g_taken g_isTaken g_letters g_letterCount g_told g_toldCount g_refusals g_costs g_gains g_seed x2 r6 g7) (cwV 1 hts gX1_judge_X1_toldAt rfl rfl rfl hd_X1_toldAt ⟨Nat.le_of_ble_eq_true rfl, Nat.le_of_ble_eq_true rfl⟩) hK hP hD hS hA (zb_sG) (q0 := 0) rfl rfl rfl hl.1 rfl (Nat.le_of_ble_eq_true rfl) dX1_judge_21 ⟨Nat.le_refl _, Nat.le_refl _⟩ (fun H locs hP hD hS => ?_)
          refine lv_aload_n hx hb dX1_judge_24 rfl (lv_at hl 0 rfl) ?_
          refine va_get (D := D) (ci := 1) (v := .ref (ad 1)) (C := RX1) (T := TX1) (N := 12) hx hb hts zi_X1_judge_X1 hown hK.1 hP 0 rfl rfl 0 (by decide) (hts _ zk_X1_judge_1) (fun _ h9 => h9) rfl dX1_judge_25 ?_
          refine lv_iload_n hx hb dX1_judge_28 rfl (lv_at hl 2 rfl) ?_
          obtain ⟨r8, g9, h⟩ := bo1 h
          refine zb_callV (As := [.int x2]) (rest := [.int r6]) ⟨hx, hb, hml, hown, hts⟩ (zc_X0_wetOf l D cI (ad 1) (ad 2) (ad 3) (ad 4) (ad 5) (ad 6) (ad 7) g_now x2 r8 g9) (cwV 1 hts gX1_judge_X0_wetOf rfl rfl rfl hd_X0_wetOf ⟨Nat.le_of_ble_eq_true rfl, Nat.le_of_ble_eq_true rfl⟩) hK hP hD hS hA (zb_cGn) (q0 := 0) rfl rfl rfl hl.1 rfl (Nat.le_of_ble_eq_true rfl) dX1_judge_29 ⟨Nat.le_refl _, Nat.le_refl _⟩ (fun H locs hP hD hS => ?_)
          refine lv_icmp_eq (tgt := 37) hx hb dX1_judge_32 (by decide) (fun c10 => ?_) (fun c10 => ?_)
          · replace h := it_t c10 h
            refine lv_iinc (v := (x2 + (1 : Int32))) (lv' := [(2, .int (x2 + (1 : Int32))), (0, .ref (ad 0)), (1, .int x1)]) hx hb dX1_judge_37 hl (k := 2) rfl (by first | rfl | decide) (by decide) rfl (fun ls hl => ?_)
            refine lv_goto (tgt := 5) hx hb dX1_judge_40 (by decide) ?_
            exact ih3 x1 (x2 + (1 : Int32)) _ _ hP hD hS ls (lv_sub hl [1, 2, 0] rfl) h
          · replace h := it_f c10 h
            refine lv_iload_n hx hb dX1_judge_35 rfl (lv_at hl 2 rfl) ?_
            refine lv_istore_n (lv' := [(1, .int x2), (0, .ref (ad 0)), (2, .int x2)]) hx hb dX1_judge_36 rfl hl (by decide) rfl (fun ls hl => ?_)
            refine lv_iinc (v := (x2 + (1 : Int32))) (lv' := [(2, .int (x2 + (1 : Int32))), (1, .int x2), (0, .ref (ad 0))]) hx hb dX1_judge_37 hl (k := 2) rfl (by first | rfl | decide) (by decide) rfl (fun ls hl => ?_)
            refine lv_goto (tgt := 5) hx hb dX1_judge_40 (by decide) ?_
            exact ih3 x2 (x2 + (1 : Int32)) _ _ hP hD hS ls (lv_sub hl [2, 1, 0] rfl) h
  exact lp3 zb_FU ((-9) : Int32) (0 : Int32) _ _ hP hD hS ls (lv_sub hl [2, 1, 0] rfl) h
abbrev rm_X1_clear : Room := { frames := 0, cells := 0, slots := 0, locals := 0 }
theorem hd_X1_clear : yX1_clear.cls = RX1 ∧ yX1_clear.cls ≠ "java/lang/invoke/MethodHandle" ∧ yX1_clear.cls ≠ "java/lang/invoke/VarHandle" ∧ (parseMethodDescriptor yX1_clear.desc).map (fun d => d.parameters.length) = some 0 := by decide +kernel
theorem zi_X1_clear_X1 : ∀ w ∈ wsX10, w ∈ wsX1_clear := fun _ h => List.mem_cons_of_mem _ (List.mem_append_right _ h)
theorem zk_X1_clear_0 : Cond.fieldLink RX1 192 "GroutingIsFollowed" "toldCount" "I" ∈ wsX1_clear := by decide +kernel
set_option maxHeartbeats 4000000 in
set_option maxRecDepth 100000 in
theorem zc_X1_clear (l : Launch) (D : va_G) (cI : ClassId) (ad : Nat → Nat) (g_now : BT) (g_mind : BT) (g_taken : BT) (g_isTaken : Int32) (g_letters : (Nat → Int32)) (g_letterCount : Int32) (g_told : (Nat → Int32)) (g_toldCount : Int32) (g_refusals : (Nat → Int32)) (g_costs : (Nat → Int32)) (g_gains : (Nat → Int32)) (g_seed : Int32) (r0 : Int32) (w_g_toldCount : Int32) (h : zf_X1_clear g_toldCount = some (r0, w_g_toldCount)) : Cn l D cI yX1_clear wsX1_clear rm_X1_clear [.ref (ad 0)] (zb_G cI ad g_now g_mind g_taken g_isTaken g_letters g_letterCount g_told g_toldCount g_refusals g_costs g_gains g_seed) (some (.int r0)) (zb_G cI ad g_now g_mind g_taken g_isTaken g_letters g_letterCount g_told w_g_toldCount g_refusals g_costs g_gains g_seed) := by
  refine zb_ofW (cc := cX1_clear) (maxL := 2) (ret := (some .int)) (by decide) rfl (Nat.le_of_ble_eq_true rfl) ?_
  intro p e s m args below meth c A ls hx hb hr hml hts hown hlk hK hP hD hA hl
  have hS : va_S A s.heap s.heap [] := va_S.rf
  have hl : lv_has ls 2 [(0, .ref (ad 0))] := hl
  unfold zf_X1_clear at h
  refine lv_aload_n hx hb dX1_clear_0 rfl (lv_at hl 0 rfl) ?_
  refine va_get (D := D) (ci := 1) (v := .int g_toldCount) (C := RX1) (T := TX1) (N := 12) hx hb hts zi_X1_clear_X1 hown hK.1 hP 0 rfl rfl 7 (by decide) (hts _ zk_X1_clear_0) (fun _ h9 => h9) rfl dX1_clear_1 ?_
  refine lv_istore_n (lv' := [(1, .int g_toldCount), (0, .ref (ad 0))]) hx hb dX1_clear_4 rfl hl (by decide) rfl (fun ls hl => ?_)
  refine lv_aload_n hx hb dX1_clear_5 rfl (lv_at hl 1 rfl) ?_
  refine lv_iconst (v := (0 : Int32)) hx hb dX1_clear_6 (by decide) ?_
  refine va_put (D := D) (ci := 1) (v := .int (0 : Int32)) (ty := .int) (C := RX1) (T := TX1) (N := 12) hx hb hts zi_X1_clear_X1 tyX1 tyX1_ok nmX1 hown hK.1 hP hD hS 0 rfl rfl 7 (by decide) (hts _ zk_X1_clear_0) (fun _ h9 => h9) rfl (by decide +kernel) rfl rfl (Nat.le_of_ble_eq_true rfl) dX1_clear_7 (fun H locs hP hD hS => ?_)
  have hP : va_P D zb_cl (zb_G cI ad g_now g_mind g_taken g_isTaken g_letters g_letterCount g_told (0 : Int32) g_refusals g_costs g_gains g_seed) H := hP
  have hD : va_D A (zb_G cI ad g_now g_mind g_taken g_isTaken g_letters g_letterCount g_told (0 : Int32) g_refusals g_costs g_gains g_seed) := hD
  refine lv_iload_n hx hb dX1_clear_10 rfl (lv_at hl 0 rfl) ?_
  obtain ⟨rfl, rfl⟩ := re2 h
  exact zb_iret hx hb hr hlk hP hS dX1_clear_11
abbrev rm_X1_draw : Room := { frames := 0, cells := 0, slots := 0, locals := 0 }
theorem hd_X1_draw : yX1_draw.cls = RX1 ∧ yX1_draw.cls ≠ "java/lang/invoke/MethodHandle" ∧ yX1_draw.cls ≠ "java/lang/invoke/VarHandle" ∧ (parseMethodDescriptor yX1_draw.desc).map (fun d => d.parameters.length) = some 1 := by decide +kernel
theorem zi_X1_draw_X1 : ∀ w ∈ wsX10, w ∈ wsX1_draw := fun _ h => List.mem_cons_of_mem _ (List.mem_append_right _ h)
theorem zk_X1_draw_0 : Cond.fieldLink RX1 198 "GroutingIsFollowed" "seed" "I" ∈ wsX1_draw := by decide +kernel
theorem zk_X1_draw_1 : Cond.constant RX1 321 (1664525) ∈ wsX1_draw := by decide +kernel
theorem zk_X1_draw_2 : Cond.constant RX1 322 (1013904223) ∈ wsX1_draw := by decide +kernel
theorem zk_X1_draw_3 : Cond.constant RX1 323 (2147483647) ∈ wsX1_draw := by decide +kernel
set_option maxHeartbeats 4000000 in
set_option maxRecDepth 100000 in
theorem zc_X1_draw (l : Launch) (D : va_G) (cI : ClassId) (ad : Nat → Nat) (g_now : BT) (g_mind : BT) (g_taken : BT) (g_isTaken : Int32) (g_letters : (Nat → Int32)) (g_letterCount : Int32) (g_told : (Nat → Int32)) (g_toldCount : Int32) (g_refusals : (Nat → Int32)) (g_costs : (Nat → Int32)) (g_gains : (Nat → Int32)) (g_seed : Int32) (v1 : Int32) (r0 : Int32) (w_g_seed : Int32) (h : zf_X1_draw g_seed v1 = some (r0, w_g_seed)) : Cn l D cI yX1_draw wsX1_draw rm_X1_draw [.ref (ad 0), .int v1] (zb_G cI ad g_now g_mind g_taken g_isTaken g_letters g_letterCount g_told g_toldCount g_refusals g_costs g_gains g_seed) (some (.int r0)) (zb_G cI ad g_now g_mind g_taken g_isTaken g_letters g_letterCount g_told g_toldCount g_refusals g_costs g_gains w_g_seed) := by
  refine zb_ofW (cc := cX1_draw) (maxL := 2) (ret := (some .int)) (by decide) rfl (Nat.le_of_ble_eq_true rfl) ?_
  intro p e s m args below meth c A ls hx hb hr hml hts hown hlk hK hP hD hA hl
  have hS : va_S A s.heap s.heap [] := va_S.rf
  have hl : lv_has ls 2 [(0, .ref (ad 0)), (1, .int v1)] := hl
  unfold zf_X1_draw at h
  refine lv_aload_n hx hb dX1_draw_0 rfl (lv_at hl 0 rfl) ?_
  refine lv_aload_n hx hb dX1_draw_1 rfl (lv_at hl 0 rfl) ?_
  refine va_get (D := D) (ci := 1) (v := .int g_seed) (C := RX1) (T := TX1) (N := 12) hx hb hts zi_X1_draw_X1 hown hK.1 hP 0 rfl rfl 11 (by decide) (hts _ zk_X1_draw_0) (fun _ h9 => h9) rfl dX1_draw_2 ?_
  refine lv_ldcw (v := (1664525 : Int32)) hx hb hown (hts _ zk_X1_draw_1) dX1_draw_5 ?_
  refine lv_imul hx hb dX1_draw_8 ?_
  refine lv_ldcw (v := (1013904223 : Int32)) hx hb hown (hts _ zk_X1_draw_2) dX1_draw_9 ?_
  refine lv_iadd hx hb dX1_draw_12 ?_
  refine va_put (D := D) (ci := 1) (v := .int ((g_seed * (1664525 : Int32)) + (1013904223 : Int32))) (ty := .int) (C := RX1) (T := TX1) (N := 12) hx hb hts zi_X1_draw_X1 tyX1 tyX1_ok nmX1 hown hK.1 hP hD hS 0 rfl rfl 11 (by decide) (hts _ zk_X1_draw_0) (fun _ h9 => h9) rfl (by decide +kernel) rfl rfl (Nat.le_of_ble_eq_true rfl) dX1_draw_13 (fun H locs hP hD hS => ?_)
  have hP : va_P D zb_cl (zb_G cI ad g_now g_mind g_taken g_isTaken g_letters g_letterCount g_told g_toldCount g_refusals g_costs g_gains ((g_seed * (1664525 : Int32)) + (1013904223 : Int32))) H := hP
  have hD : va_D A (zb_G cI ad g_now g_mind g_taken g_isTaken g_letters g_letterCount g_told g_toldCount g_refusals g_costs g_gains ((g_seed * (1664525 : Int32)) + (1013904223 : Int32))) := hD
  refine lv_iload_n hx hb dX1_draw_16 rfl (lv_at hl 1 rfl) ?_
  refine lv_if_le (tgt := 37) hx hb dX1_draw_17 (by decide) (fun c1 => ?_) (fun c1 => ?_)
  · replace h := it_t c1 h
    refine lv_iconst (v := (0 : Int32)) hx hb dX1_draw_37 (by decide) ?_
    obtain ⟨rfl, rfl⟩ := re2 h
    exact zb_iret hx hb hr hlk hP hS dX1_draw_38
  · replace h := it_f c1 h
    refine lv_aload_n hx hb dX1_draw_20 rfl (lv_at hl 0 rfl) ?_
    refine va_get (D := D) (ci := 1) (v := .int ((g_seed * (1664525 : Int32)) + (1013904223 : Int32))) (C := RX1) (T := TX1) (N := 12) hx hb hts zi_X1_draw_X1 hown hK.1 hP 0 rfl rfl 11 (by decide) (hts _ zk_X1_draw_0) (fun _ h9 => h9) rfl dX1_draw_21 ?_
    refine lv_ldcw (v := (2147483647 : Int32)) hx hb hown (hts _ zk_X1_draw_3) dX1_draw_24 ?_
    refine lv_iand hx hb dX1_draw_27 ?_
    refine lv_sipush (v := (256 : Int32)) hx hb dX1_draw_28 (by decide) ?_
    refine lv_idiv hx hb dX1_draw_31 (by decide) ?_
    refine lv_iload_n hx hb dX1_draw_32 rfl (lv_at hl 1 rfl) ?_
    obtain ⟨h2, h⟩ := it_n h
    refine lv_irem hx hb dX1_draw_33 h2 ?_
    refine lv_goto (tgt := 38) hx hb dX1_draw_34 (by decide) ?_
    obtain ⟨rfl, rfl⟩ := re2 h
    exact zb_iret hx hb hr hlk hP hS dX1_draw_38
abbrev rm_X1_drawPeople : Room := { frames := 2, cells := 0, slots := 0, locals := 43 }
theorem hd_X1_drawPeople : yX1_drawPeople.cls = RX1 ∧ yX1_drawPeople.cls ≠ "java/lang/invoke/MethodHandle" ∧ yX1_drawPeople.cls ≠ "java/lang/invoke/VarHandle" ∧ (parseMethodDescriptor yX1_drawPeople.desc).map (fun d => d.parameters.length) = some 0 := by decide +kernel
theorem zi_X1_drawPeople_X1 : ∀ w ∈ wsX10, w ∈ wsX1_drawPeople := fun _ h => List.mem_cons_of_mem _ (List.mem_append_left _ (List.mem_append_right _ h))
theorem zk_X1_drawPeople_0 : Cond.fieldLink RX1 16 "GroutingIsFollowed" "mind" "LGroutingIsFollowed$Bath;" ∈ wsX1_drawPeople := by decide +kernel
set_option maxHeartbeats 4000000 in
set_option maxRecDepth 100000 in
theorem zc_X1_drawPeople (l : Launch) (D : va_G) (cI : ClassId) (ad : Nat → Nat) (g_now : BT) (g_mind : BT) (g_taken : BT) (g_isTaken : Int32) (g_letters : (Nat → Int32)) (g_letterCount : Int32) (g_told : (Nat → Int32)) (g_toldCount : Int32) (g_refusals : (Nat → Int32)) (g_costs : (Nat → Int32)) (g_gains : (Nat → Int32)) (g_seed : Int32) (w_g_mind : BT) (w_g_seed : Int32) (h : zf_X1_drawPeople g_mind g_seed = some (w_g_mind, w_g_seed)) : Cn l D cI yX1_drawPeople wsX1_drawPeople rm_X1_drawPeople [.ref (ad 0)] (zb_G cI ad g_now g_mind g_taken g_isTaken g_letters g_letterCount g_told g_toldCount g_refusals g_costs g_gains g_seed) none (zb_G cI ad g_now w_g_mind g_taken g_isTaken g_letters g_letterCount g_told g_toldCount g_refusals g_costs g_gains w_g_seed) := by
  refine zb_ofW (cc := cX1_drawPeople) (maxL := 2) (ret := none) (by decide) rfl (Nat.le_of_ble_eq_true rfl) ?_
  intro p e s m args below meth c A ls hx hb hr hml hts hown hlk hK hP hD hA hl
  have hS : va_S A s.heap s.heap [] := va_S.rf
  have hl : lv_has ls 2 [(0, .ref (ad 0))] := hl
  unfold zf_X1_drawPeople at h
  refine lv_iconst (v := (0 : Int32)) hx hb dX1_drawPeople_0 (by decide) ?_
  refine lv_istore_n (lv' := [(1, .int (0 : Int32)), (0, .ref (ad 0))]) hx hb dX1_drawPeople_1 rfl hl (by decide) rfl (fun ls hl => ?_)
  have lp4 : ∀ (fu4 : Nat) (x1 : Int32) (x2 : BT) (x3 : Int32) (H : Heap) (locs : List Loc) (hP : va_P D zb_cl (zb_G cI ad g_now x2 g_taken g_isTaken g_letters g_letterCount g_told g_toldCount g_refusals g_costs g_gains x3) H) (hD : va_D A (zb_G cI ad g_now x2 g_taken g_isTaken g_letters g_letterCount g_told g_toldCount g_refusals g_costs g_gains x3)) (hS : va_S A s.heap H locs) (ls : Array Slot) (hl : lv_has ls 2 [(0, .ref (ad 0)), (1, .int x1)]) (h : zl3 zf_X1_drawPeople_b2 fu4 x1 x2 x3 = some (w_g_mind, w_g_seed)), W p l e rm_X1_drawPeople s m args below meth c H locs 0 0 (zb_Q below D none (zb_G cI ad g_now w_g_mind g_taken g_isTaken g_letters g_letterCount g_told g_toldCount g_refusals g_costs g_gains w_g_seed) A args s) (F0 m 2 ls []) := by
    intro fu4
    induction fu4 with
    | zero => intro x1 x2 x3 H locs hP hD hS ls hl h; exact zb_no h
    | succ fu4 ih4 =>
      intro x1 x2 x3 H locs hP hD hS ls hl h
      replace h : zf_X1_drawPeople_b2  (zl3 zf_X1_drawPeople_b2 fu4) x1 x2 x3 = some (w_g_mind, w_g_seed) := h
      unfold zf_X1_drawPeople_b2 at h
      refine lv_iload_n hx hb dX1_drawPeople_2 rfl (lv_at hl 1 rfl) ?_
      refine lv_aload_n hx hb dX1_drawPeople_3 rfl (lv_at hl 0 rfl) ?_
      refine va_get (D := D) (ci := 1) (v := .ref (ad 8)) (C := RX1) (T := TX1) (N := 12) hx hb hts zi_X1_drawPeople_X1 hown hK.1 hP 0 rfl rfl 1 (by decide) (hts _ zk_X1_drawPeople_0) (fun _ h9 => h9) rfl dX1_drawPeople_4 ?_
      obtain ⟨r5, g6, h⟩ := bo1 h
      refine zb_callV (As := []) (rest := [.int x1]) ⟨hx, hb, hml, hown, hts⟩ (zc_X0_peopleCount l D cI (ad 8) (ad 9) (ad 10) (ad 11) (ad 12) (ad 13) (ad 14) x2 r5 g6) (cwV 0 hts gX1_drawPeople_X0_peopleCount rfl rfl rfl hd_X0_peopleCount ⟨Nat.le_of_ble_eq_true rfl, Nat.le_of_ble_eq_true rfl⟩) hK hP hD hS hA (zb_cGm) (q0 := 0) rfl rfl rfl hl.1 rfl (Nat.le_of_ble_eq_true rfl) dX1_drawPeople_7 ⟨Nat.le_refl _, Nat.le_refl _⟩ (fun H locs hP hD hS => ?_)
      refine lv_icmp_ge (tgt := 46) hx hb dX1_drawPeople_10 (by decide) (fun c7 => ?_) (fun c7 => ?_)
      · replace h := it_t c7 h
        obtain ⟨rfl, rfl⟩ := re2 h
        exact zb_vret hx hb hr hlk hP hS dX1_drawPeople_46
      · replace h := it_f c7 h
        refine lv_aload_n hx hb dX1_drawPeople_13 rfl (lv_at hl 0 rfl) ?_
        refine va_get (D := D) (ci := 1) (v := .ref (ad 8)) (C := RX1) (T := TX1) (N := 12) hx hb hts zi_X1_drawPeople_X1 hown hK.1 hP 0 rfl rfl 1 (by decide) (hts _ zk_X1_drawPeople_0) (fun _ h9 => h9) rfl dX1_drawPeople_14 ?_
        refine lv_iload_n hx hb dX1_drawPeople_17 rfl (lv_at hl 1 rfl) ?_
        refine lv_aload_n hx hb dX1_drawPeople_18 rfl (lv_at hl 0 rfl) ?_
        refine lv_bipush (v := (30 : Int32)) hx hb dX1_drawPeople_19 (by decide) ?_
        obtain ⟨r8, n9, g10, h⟩ := bo2 h
        refine zb_callV (As := [.int (30 : Int32)]) (rest := [.int x1, .ref (ad 8)]) ⟨hx, hb, hml, hown, hts⟩ (zc_X1_draw l D cI ad g_now x2 g_taken g_isTaken g_letters g_letterCount g_told g_toldCount g_refusals g_costs g_gains x3 (30 : Int32) r8 n9 g10) (cwV 1 hts gX1_drawPeople_X1_draw rfl rfl rfl hd_X1_draw ⟨Nat.le_of_ble_eq_true rfl, Nat.le_of_ble_eq_true rfl⟩) hK hP hD hS hA (zb_sG) (q0 := 0) rfl rfl rfl hl.1 rfl (Nat.le_of_ble_eq_true rfl) dX1_drawPeople_21 ⟨Nat.le_refl _, Nat.le_refl _⟩ (fun H locs hP hD hS => ?_)
        obtain ⟨n11, g12, h⟩ := bo1 h
        refine zb_callV (As := [.int x1, .int r8]) (rest := []) ⟨hx, hb, hml, hown, hts⟩ (zc_X0_putPlace l D cI (ad 8) (ad 9) (ad 10) (ad 11) (ad 12) (ad 13) (ad 14) x2 x1 r8 n11 g12) (cwV 2 hts gX1_drawPeople_X0_putPlace rfl rfl rfl hd_X0_putPlace ⟨Nat.le_of_ble_eq_true rfl, Nat.le_of_ble_eq_true rfl⟩) hK hP hD hS hA (zb_cGm) (q0 := 0) rfl rfl rfl hl.1 rfl (Nat.le_of_ble_eq_true rfl) dX1_drawPeople_24 ⟨Nat.le_refl _, Nat.le_refl _⟩ (fun H locs hP hD hS => ?_)
        refine lv_aload_n hx hb dX1_drawPeople_27 rfl (lv_at hl 0 rfl) ?_
        refine va_get (D := D) (ci := 1) (v := .ref (ad 8)) (C := RX1) (T := TX1) (N := 12) hx hb hts zi_X1_drawPeople_X1 hown hK.1 hP 0 rfl rfl 1 (by decide) (hts _ zk_X1_drawPeople_0) (fun _ h9 => h9) rfl dX1_drawPeople_28 ?_
        refine lv_iload_n hx hb dX1_drawPeople_31 rfl (lv_at hl 1 rfl) ?_
        refine lv_aload_n hx hb dX1_drawPeople_32 rfl (lv_at hl 0 rfl) ?_
        refine lv_iconst (v := (4 : Int32)) hx hb dX1_drawPeople_33 (by decide) ?_
        obtain ⟨r13, n14, g15, h⟩ := bo2 h
        refine zb_callV (As := [.int (4 : Int32)]) (rest := [.int x1, .ref (ad 8)]) ⟨hx, hb, hml, hown, hts⟩ (zc_X1_draw l D cI ad g_now n11 g_taken g_isTaken g_letters g_letterCount g_told g_toldCount g_refusals g_costs g_gains n9 (4 : Int32) r13 n14 g15) (cwV 1 hts gX1_drawPeople_X1_draw rfl rfl rfl hd_X1_draw ⟨Nat.le_of_ble_eq_true rfl, Nat.le_of_ble_eq_true rfl⟩) hK hP hD hS hA (zb_sG) (q0 := 0) rfl rfl rfl hl.1 rfl (Nat.le_of_ble_eq_true rfl) dX1_drawPeople_34 ⟨Nat.le_refl _, Nat.le_refl _⟩ (fun H locs hP hD hS => ?_)
        obtain ⟨n16, g17, h⟩ := bo1 h
        refine zb_callV (As := [.int x1, .int r13]) (rest := []) ⟨hx, hb, hml, hown, hts⟩ (zc_X0_putHeading l D cI (ad 8) (ad 9) (ad 10) (ad 11) (ad 12) (ad 13) (ad 14) n11 x1 r13 n16 g17) (cwV 2 hts gX1_drawPeople_X0_putHeading rfl rfl rfl hd_X0_putHeading ⟨Nat.le_of_ble_eq_true rfl, Nat.le_of_ble_eq_true rfl⟩) hK hP hD hS hA (zb_cGm) (q0 := 0) rfl rfl rfl hl.1 rfl (Nat.le_of_ble_eq_true rfl) dX1_drawPeople_37 ⟨Nat.le_refl _, Nat.le_refl _⟩ (fun H locs hP hD hS => ?_)
        refine lv_iinc (v := (x1 + (1 : Int32))) (lv' := [(1, .int (x1 + (1 : Int32))), (0, .ref (ad 0))]) hx hb dX1_drawPeople_40 hl (k := 1) rfl (by first | rfl | decide) (by decide) rfl (fun ls hl => ?_)
        refine lv_goto (tgt := 2) hx hb dX1_drawPeople_43 (by decide) ?_
        exact ih4 (x1 + (1 : Int32)) n16 n14 _ _ hP hD hS ls (lv_sub hl [1, 0] rfl) h
  exact lp4 zb_FU (0 : Int32) g_mind g_seed _ _ hP hD hS ls (lv_sub hl [1, 0] rfl) h
abbrev rm_X1_lots : Room := { frames := 3, cells := 0, slots := 0, locals := 72 }
theorem hd_X1_lots : yX1_lots.cls = RX1 ∧ yX1_lots.cls ≠ "java/lang/invoke/MethodHandle" ∧ yX1_lots.cls ≠ "java/lang/invoke/VarHandle" ∧ (parseMethodDescriptor yX1_lots.desc).map (fun d => d.parameters.length) = some 3 := by decide +kernel
theorem zi_X1_lots_X1 : ∀ w ∈ wsX10, w ∈ wsX1_lots := fun _ h => List.mem_cons_of_mem _ (List.mem_append_left _ (List.mem_append_right _ h))
theorem zk_X1_lots_0 : Cond.fieldLink RX1 198 "GroutingIsFollowed" "seed" "I" ∈ wsX1_lots := by decide +kernel
theorem zk_X1_lots_1 : Cond.fieldLink RX1 16 "GroutingIsFollowed" "mind" "LGroutingIsFollowed$Bath;" ∈ wsX1_lots := by decide +kernel
theorem zk_X1_lots_2 : Cond.fieldLink RX1 10 "GroutingIsFollowed" "now" "LGroutingIsFollowed$Bath;" ∈ wsX1_lots := by decide +kernel
set_option maxHeartbeats 4000000 in
set_option maxRecDepth 100000 in
theorem zc_X1_lots (l : Launch) (D : va_G) (cI : ClassId) (ad : Nat → Nat) (g_now : BT) (g_mind : BT) (g_taken : BT) (g_isTaken : Int32) (g_letters : (Nat → Int32)) (g_letterCount : Int32) (g_told : (Nat → Int32)) (g_toldCount : Int32) (g_refusals : (Nat → Int32)) (g_costs : (Nat → Int32)) (g_gains : (Nat → Int32)) (g_seed : Int32) (v1 : Int32) (v2 : Int32) (v3 : Int32) (r0 : Int32) (w_g_mind : BT) (w_g_refusals : (Nat → Int32)) (w_g_seed : Int32) (h : zf_X1_lots g_now g_mind g_refusals g_seed v1 v2 v3 = some (r0, w_g_mind, w_g_refusals, w_g_seed)) : Cn l D cI yX1_lots wsX1_lots rm_X1_lots [.ref (ad 0), .int v1, .int v2, .int v3] (zb_G cI ad g_now g_mind g_taken g_isTaken g_letters g_letterCount g_told g_toldCount g_refusals g_costs g_gains g_seed) (some (.int r0)) (zb_G cI ad g_now w_g_mind g_taken g_isTaken g_letters g_letterCount g_told g_toldCount w_g_refusals g_costs g_gains w_g_seed) := by
  refine zb_ofW (cc := cX1_lots) (maxL := 7) (ret := (some .int)) (by decide) rfl (Nat.le_of_ble_eq_true rfl) ?_
  intro p e s m args below meth c A ls hx hb hr hml hts hown hlk hK hP hD hA hl
  have hS : va_S A s.heap s.heap [] := va_S.rf
  have hl : lv_has ls 7 [(0, .ref (ad 0)), (1, .int v1), (2, .int v2), (3, .int v3)] := hl
  unfold zf_X1_lots at h
  refine lv_iload_n hx hb dX1_lots_0 rfl (lv_at hl 1 rfl) ?_
  refine lv_iconst (v := (1 : Int32)) hx hb dX1_lots_1 (by decide) ?_
  refine lv_bipush (v := (20 : Int32)) hx hb dX1_lots_2 (by decide) ?_
  obtain ⟨r1, g2, h⟩ := bo1 h
  refine zb_callS (As := [.int v1, .int (1 : Int32), .int (20 : Int32)]) (rest := []) ⟨hx, hb, hml, hown, hts⟩ (zc_X1_outside l D cI v1 (1 : Int32) (20 : Int32) r1 g2) (va_cwS 3 hts gX1_lots_X1_outside rfl rfl rfl hd_X1_outside.2 ⟨Nat.le_of_ble_eq_true rfl, Nat.le_of_ble_eq_true rfl⟩) hK hP hD hS hA (zb_none _) rfl hl.1 rfl (Nat.le_of_ble_eq_true rfl) dX1_lots_4 ⟨Nat.le_refl _, Nat.le_refl _⟩ (fun H locs hP hD hS => ?_)
  refine lv_istore (lv' := [(4, .int r1), (0, .ref (ad 0)), (1, .int v1), (2, .int v2), (3, .int v3)]) hx hb dX1_lots_7 hl (by decide) rfl (fun ls hl => ?_)
  refine lv_iload hx hb dX1_lots_9 (lv_at hl 0 rfl) ?_
  refine lv_if_eq (tgt := 21) hx hb dX1_lots_11 (by decide) (fun c3 => ?_) (fun c3 => ?_)
  · replace h := it_t c3 h
    refine lv_iload_n hx hb dX1_lots_21 rfl (lv_at hl 4 rfl) ?_
    refine lv_if_lt (tgt := 30) hx hb dX1_lots_22 (by decide) (fun c4 => ?_) (fun c4 => ?_)
    · replace h := it_t c4 h
      refine lv_aload_n hx hb dX1_lots_30 rfl (lv_at hl 1 rfl) ?_
      refine lv_bipush (v := ((-2) : Int32)) hx hb dX1_lots_31 (by decide) ?_
      obtain ⟨r5, n6, g7, h⟩ := bo2 h
      refine zb_callV (As := [.int ((-2) : Int32)]) (rest := []) ⟨hx, hb, hml, hown, hts⟩ (zc_X1_refuse l D cI ad g_now g_mind g_taken g_isTaken g_letters g_letterCount g_told g_toldCount g_refusals g_costs g_gains g_seed ((-2) : Int32) r5 n6 g7) (cwV 1 hts gX1_lots_X1_refuse rfl rfl rfl hd_X1_refuse ⟨Nat.le_of_ble_eq_true rfl, Nat.le_of_ble_eq_true rfl⟩) hK hP hD hS hA (zb_sG) (q0 := 0) rfl rfl rfl hl.1 rfl (Nat.le_of_ble_eq_true rfl) dX1_lots_33 ⟨Nat.le_refl _, Nat.le_refl _⟩ (fun H locs hP hD hS => ?_)
      obtain ⟨rfl, rfl, rfl, rfl⟩ := re4 h
      exact zb_iret hx hb hr hlk hP hS dX1_lots_36
    · replace h := it_f c4 h
      refine lv_iload_n hx hb dX1_lots_25 rfl (lv_at hl 4 rfl) ?_
      refine lv_iconst (v := (1 : Int32)) hx hb dX1_lots_26 (by decide) ?_
      refine lv_icmp_le (tgt := 37) hx hb dX1_lots_27 (by decide) (fun c8 => ?_) (fun c8 => ?_)
      · replace h := it_t c8 h
        refine lv_aload_n hx hb dX1_lots_37 rfl (lv_at hl 1 rfl) ?_
        refine lv_iload_n hx hb dX1_lots_38 rfl (lv_at hl 3 rfl) ?_
        refine va_put (D := D) (ci := 1) (v := .int v2) (ty := .int) (C := RX1) (T := TX1) (N := 12) hx hb hts zi_X1_lots_X1 tyX1 tyX1_ok nmX1 hown hK.1 hP hD hS 0 rfl rfl 11 (by decide) (hts _ zk_X1_lots_0) (fun _ h9 => h9) rfl (by decide +kernel) rfl rfl (Nat.le_of_ble_eq_true rfl) dX1_lots_39 (fun H locs hP hD hS => ?_)
        have hP : va_P D zb_cl (zb_G cI ad g_now g_mind g_taken g_isTaken g_letters g_letterCount g_told g_toldCount g_refusals g_costs g_gains v2) H := hP
        have hD : va_D A (zb_G cI ad g_now g_mind g_taken g_isTaken g_letters g_letterCount g_told g_toldCount g_refusals g_costs g_gains v2) := hD
        refine lv_iconst (v := (0 : Int32)) hx hb dX1_lots_42 (by decide) ?_
        refine lv_istore (lv' := [(5, .int (0 : Int32)), (4, .int r1), (0, .ref (ad 0)), (1, .int v1), (2, .int v2), (3, .int v3)]) hx hb dX1_lots_43 hl (by decide) rfl (fun ls hl => ?_)
        refine lv_iconst (v := (0 : Int32)) hx hb dX1_lots_45 (by decide) ?_
        refine lv_istore (lv' := [(6, .int (0 : Int32)), (5, .int (0 : Int32)), (4, .int r1), (0, .ref (ad 0)), (1, .int v1), (2, .int v2), (3, .int v3)]) hx hb dX1_lots_46 hl (by decide) rfl (fun ls hl => ?_)
        have lp13 : ∀ (fu13 : Nat) (x9 : Int32) (x10 : Int32) (x11 : BT) (x12 : Int32) (H : Heap) (locs : List Loc) (hP : va_P D zb_cl (zb_G cI ad g_now x11 g_taken g_isTaken g_letters g_letterCount g_told g_toldCount g_refusals g_costs g_gains x12) H) (hD : va_D A (zb_G cI ad g_now x11 g_taken g_isTaken g_letters g_letterCount g_told g_toldCount g_refusals g_costs g_gains x12)) (hS : va_S A s.heap H locs) (ls : Array Slot) (hl : lv_has ls 7 [(0, .ref (ad 0)), (1, .int v1), (3, .int v3), (5, .int x9), (6, .int x10)]) (h : zl4 (zf_X1_lots_b48 v1 v3 g_now g_refusals) fu13 x9 x10 x11 x12 = some (r0, w_g_mind, w_g_refusals, w_g_seed)), W p l e rm_X1_lots s m args below meth c H locs 0 0 (zb_Q below D (some (.int r0)) (zb_G cI ad g_now w_g_mind g_taken g_isTaken g_letters g_letterCount g_told g_toldCount w_g_refusals g_costs g_gains w_g_seed) A args s) (F0 m 48 ls []) := by
          intro fu13
          induction fu13 with
          | zero => intro x9 x10 x11 x12 H locs hP hD hS ls hl h; exact zb_no h
          | succ fu13 ih13 =>
            intro x9 x10 x11 x12 H locs hP hD hS ls hl h
            replace h : zf_X1_lots_b48 v1 v3 g_now g_refusals (zl4 (zf_X1_lots_b48 v1 v3 g_now g_refusals) fu13) x9 x10 x11 x12 = some (r0, w_g_mind, w_g_refusals, w_g_seed) := h
            unfold zf_X1_lots_b48 at h
            refine lv_iload hx hb dX1_lots_48 (lv_at hl 4 rfl) ?_
            refine lv_iload_n hx hb dX1_lots_50 rfl (lv_at hl 1 rfl) ?_
            refine lv_icmp_ge (tgt := 119) hx hb dX1_lots_51 (by decide) (fun c14 => ?_) (fun c14 => ?_)
            · replace h := it_t c14 h
              refine lv_iload hx hb dX1_lots_119 (lv_at hl 3 rfl) ?_
              obtain ⟨rfl, rfl, rfl, rfl⟩ := re4 h
              exact zb_iret hx hb hr hlk hP hS dX1_lots_121
            · replace h := it_f c14 h
              refine lv_aload_n hx hb dX1_lots_54 rfl (lv_at hl 0 rfl) ?_
              refine va_get (D := D) (ci := 1) (v := .ref (ad 8)) (C := RX1) (T := TX1) (N := 12) hx hb hts zi_X1_lots_X1 hown hK.1 hP 0 rfl rfl 1 (by decide) (hts _ zk_X1_lots_1) (fun _ h9 => h9) rfl dX1_lots_55 ?_
              refine lv_aload_n hx hb dX1_lots_58 rfl (lv_at hl 0 rfl) ?_
              refine va_get (D := D) (ci := 1) (v := .ref (ad 1)) (C := RX1) (T := TX1) (N := 12) hx hb hts zi_X1_lots_X1 hown hK.1 hP 0 rfl rfl 0 (by decide) (hts _ zk_X1_lots_2) (fun _ h9 => h9) rfl dX1_lots_59 ?_
              obtain ⟨n15, g16, h⟩ := bo1 h
              refine zb_callV (As := [.ref (ad 1)]) (rest := []) ⟨hx, hb, hml, hown, hts⟩ (zc_X0_becomes l D cI (ad 8) (ad 9) (ad 10) (ad 11) (ad 12) (ad 13) (ad 14) (ad 1) (ad 2) (ad 3) (ad 4) (ad 5) (ad 6) (ad 7) x11 g_now n15 g16) (cwV 1 hts gX1_lots_X0_becomes rfl rfl rfl hd_X0_becomes ⟨Nat.le_of_ble_eq_true rfl, Nat.le_of_ble_eq_true rfl⟩) hK hP hD hS hA (zb_cGmn) (q0 := 0) rfl rfl rfl hl.1 rfl (Nat.le_of_ble_eq_true rfl) dX1_lots_62 ⟨Nat.le_refl _, Nat.le_refl _⟩ (fun H locs hP hD hS => ?_)
              refine lv_aload_n hx hb dX1_lots_65 rfl (lv_at hl 0 rfl) ?_
              obtain ⟨n17, n18, g19, h⟩ := bo2 h
              refine zb_callV (As := []) (rest := []) ⟨hx, hb, hml, hown, hts⟩ (zc_X1_drawPeople l D cI ad g_now n15 g_taken g_isTaken g_letters g_letterCount g_told g_toldCount g_refusals g_costs g_gains x12 n17 n18 g19) (cwV 0 hts gX1_lots_X1_drawPeople rfl rfl rfl hd_X1_drawPeople ⟨Nat.le_of_ble_eq_true rfl, Nat.le_of_ble_eq_true rfl⟩) hK hP hD hS hA (zb_sG) (q0 := 0) rfl rfl rfl hl.1 rfl (Nat.le_of_ble_eq_true rfl) dX1_lots_66 ⟨Nat.le_refl _, Nat.le_refl _⟩ (fun H locs hP hD hS => ?_)
              refine lv_aload_n hx hb dX1_lots_69 rfl (lv_at hl 0 rfl) ?_
              refine va_get (D := D) (ci := 1) (v := .ref (ad 8)) (C := RX1) (T := TX1) (N := 12) hx hb hts zi_X1_lots_X1 hown hK.1 hP 0 rfl rfl 1 (by decide) (hts _ zk_X1_lots_1) (fun _ h9 => h9) rfl dX1_lots_70 ?_
              refine lv_bipush (v := (12 : Int32)) hx hb dX1_lots_73 (by decide) ?_
              refine lv_iconst (v := (0 : Int32)) hx hb dX1_lots_75 (by decide) ?_
              obtain ⟨n20, g21, h⟩ := bo1 h
              refine zb_callV (As := [.int (12 : Int32), .int (0 : Int32)]) (rest := []) ⟨hx, hb, hml, hown, hts⟩ (zc_X0_goOn l D cI (ad 8) (ad 9) (ad 10) (ad 11) (ad 12) (ad 13) (ad 14) n17 (12 : Int32) (0 : Int32) n20 g21) (cwV 2 hts gX1_lots_X0_goOn rfl rfl rfl hd_X0_goOn ⟨Nat.le_of_ble_eq_true rfl, Nat.le_of_ble_eq_true rfl⟩) hK hP hD hS hA (zb_cGm) (q0 := 0) rfl rfl rfl hl.1 rfl (Nat.le_of_ble_eq_true rfl) dX1_lots_76 ⟨Nat.le_refl _, Nat.le_refl _⟩ (fun H locs hP hD hS => ?_)
              refine lv_iload hx hb dX1_lots_79 (lv_at hl 3 rfl) ?_
              refine lv_iload_n hx hb dX1_lots_81 rfl (lv_at hl 2 rfl) ?_
              refine lv_if_ne (tgt := 103) hx hb dX1_lots_82 (by decide) (fun c22 => ?_) (fun c22 => ?_)
              · replace h := it_f c22 h
                refine lv_aload_n hx hb dX1_lots_103 rfl (lv_at hl 0 rfl) ?_
                refine va_get (D := D) (ci := 1) (v := .ref (ad 8)) (C := RX1) (T := TX1) (N := 12) hx hb hts zi_X1_lots_X1 hown hK.1 hP 0 rfl rfl 1 (by decide) (hts _ zk_X1_lots_1) (fun _ h9 => h9) rfl dX1_lots_104 ?_
                obtain ⟨r23, g24, h⟩ := bo1 h
                refine zb_callV (As := []) (rest := [.int x9]) ⟨hx, hb, hml, hown, hts⟩ (zc_X0_stuckPeople l D cI (ad 8) (ad 9) (ad 10) (ad 11) (ad 12) (ad 13) (ad 14) n20 r23 g24) (cwV 0 hts gX1_lots_X0_stuckPeople rfl rfl rfl hd_X0_stuckPeople ⟨Nat.le_of_ble_eq_true rfl, Nat.le_of_ble_eq_true rfl⟩) hK hP hD hS hA (zb_cGm) (q0 := 0) rfl rfl rfl hl.1 rfl (Nat.le_of_ble_eq_true rfl) dX1_lots_107 ⟨Nat.le_refl _, Nat.le_refl _⟩ (fun H locs hP hD hS => ?_)
                refine lv_iadd hx hb dX1_lots_110 ?_
                refine lv_istore (lv' := [(5, .int (x9 + r23)), (0, .ref (ad 0)), (1, .int v1), (3, .int v3), (6, .int x10)]) hx hb dX1_lots_111 hl (by decide) rfl (fun ls hl => ?_)
                refine lv_iinc (v := (x10 + (1 : Int32))) (lv' := [(6, .int (x10 + (1 : Int32))), (5, .int (x9 + r23)), (0, .ref (ad 0)), (1, .int v1), (3, .int v3)]) hx hb dX1_lots_113 hl (k := 4) rfl (by first | rfl | decide) (by decide) rfl (fun ls hl => ?_)
                refine lv_goto (tgt := 48) hx hb dX1_lots_116 (by decide) ?_
                exact ih13 (x9 + r23) (x10 + (1 : Int32)) n20 n18 _ _ hP hD hS ls (lv_sub hl [2, 3, 4, 1, 0] rfl) h
              · replace h := it_t c22 h
                refine lv_aload_n hx hb dX1_lots_85 rfl (lv_at hl 0 rfl) ?_
                refine va_get (D := D) (ci := 1) (v := .ref (ad 8)) (C := RX1) (T := TX1) (N := 12) hx hb hts zi_X1_lots_X1 hown hK.1 hP 0 rfl rfl 1 (by decide) (hts _ zk_X1_lots_1) (fun _ h9 => h9) rfl dX1_lots_86 ?_
                obtain ⟨r25, g26, h⟩ := bo1 h
                refine zb_callV (As := []) (rest := [.int x9]) ⟨hx, hb, hml, hown, hts⟩ (zc_X0_allHelped l D cI (ad 8) (ad 9) (ad 10) (ad 11) (ad 12) (ad 13) (ad 14) n20 r25 g26) (cwV 0 hts gX1_lots_X0_allHelped rfl rfl rfl hd_X0_allHelped ⟨Nat.le_of_ble_eq_true rfl, Nat.le_of_ble_eq_true rfl⟩) hK hP hD hS hA (zb_cGm) (q0 := 0) rfl rfl rfl hl.1 rfl (Nat.le_of_ble_eq_true rfl) dX1_lots_89 ⟨Nat.le_refl _, Nat.le_refl _⟩ (fun H locs hP hD hS => ?_)
                refine lv_aload_n hx hb dX1_lots_92 rfl (lv_at hl 0 rfl) ?_
                refine va_get (D := D) (ci := 1) (v := .ref (ad 1)) (C := RX1) (T := TX1) (N := 12) hx hb hts zi_X1_lots_X1 hown hK.1 hP 0 rfl rfl 0 (by decide) (hts _ zk_X1_lots_2) (fun _ h9 => h9) rfl dX1_lots_93 ?_
                obtain ⟨r27, g28, h⟩ := bo1 h
                refine zb_callV (As := []) (rest := [.int r25, .int x9]) ⟨hx, hb, hml, hown, hts⟩ (zc_X0_allHelped l D cI (ad 1) (ad 2) (ad 3) (ad 4) (ad 5) (ad 6) (ad 7) g_now r27 g28) (cwV 0 hts gX1_lots_X0_allHelped rfl rfl rfl hd_X0_allHelped ⟨Nat.le_of_ble_eq_true rfl, Nat.le_of_ble_eq_true rfl⟩) hK hP hD hS hA (zb_cGn) (q0 := 0) rfl rfl rfl hl.1 rfl (Nat.le_of_ble_eq_true rfl) dX1_lots_96 ⟨Nat.le_refl _, Nat.le_refl _⟩ (fun H locs hP hD hS => ?_)
                refine lv_isub hx hb dX1_lots_99 ?_
                refine lv_goto (tgt := 110) hx hb dX1_lots_100 (by decide) ?_
                refine lv_iadd hx hb dX1_lots_110 ?_
                refine lv_istore (lv' := [(5, .int (x9 + (r25 - r27))), (0, .ref (ad 0)), (1, .int v1), (3, .int v3), (6, .int x10)]) hx hb dX1_lots_111 hl (by decide) rfl (fun ls hl => ?_)
                refine lv_iinc (v := (x10 + (1 : Int32))) (lv' := [(6, .int (x10 + (1 : Int32))), (5, .int (x9 + (r25 - r27))), (0, .ref (ad 0)), (1, .int v1), (3, .int v3)]) hx hb dX1_lots_113 hl (k := 4) rfl (by first | rfl | decide) (by decide) rfl (fun ls hl => ?_)
                refine lv_goto (tgt := 48) hx hb dX1_lots_116 (by decide) ?_
                exact ih13 (x9 + (r25 - r27)) (x10 + (1 : Int32)) n20 n18 _ _ hP hD hS ls (lv_sub hl [2, 3, 4, 1, 0] rfl) h
        exact lp13 zb_FU (0 : Int32) (0 : Int32) g_mind v2 _ _ hP hD hS ls (lv_sub hl [3, 4, 6, 1, 0] rfl) h
      · replace h := it_f c8 h
        refine lv_aload_n hx hb dX1_lots_30 rfl (lv_at hl 1 rfl) ?_
        refine lv_bipush (v := ((-2) : Int32)) hx hb dX1_lots_31 (by decide) ?_
        obtain ⟨r29, n30, g31, h⟩ := bo2 h
        refine zb_callV (As := [.int ((-2) : Int32)]) (rest := []) ⟨hx, hb, hml, hown, hts⟩ (zc_X1_refuse l D cI ad g_now g_mind g_taken g_isTaken g_letters g_letterCount g_told g_toldCount g_refusals g_costs g_gains g_seed ((-2) : Int32) r29 n30 g31) (cwV 1 hts gX1_lots_X1_refuse rfl rfl rfl hd_X1_refuse ⟨Nat.le_of_ble_eq_true rfl, Nat.le_of_ble_eq_true rfl⟩) hK hP hD hS hA (zb_sG) (q0 := 0) rfl rfl rfl hl.1 rfl (Nat.le_of_ble_eq_true rfl) dX1_lots_33 ⟨Nat.le_refl _, Nat.le_refl _⟩ (fun H locs hP hD hS => ?_)
        obtain ⟨rfl, rfl, rfl, rfl⟩ := re4 h
        exact zb_iret hx hb hr hlk hP hS dX1_lots_36
  · replace h := it_f c3 h
    refine lv_aload_n hx hb dX1_lots_14 rfl (lv_at hl 1 rfl) ?_
    refine lv_iload hx hb dX1_lots_15 (lv_at hl 0 rfl) ?_
    obtain ⟨r32, n33, g34, h⟩ := bo2 h
    refine zb_callV (As := [.int r1]) (rest := []) ⟨hx, hb, hml, hown, hts⟩ (zc_X1_refuse l D cI ad g_now g_mind g_taken g_isTaken g_letters g_letterCount g_told g_toldCount g_refusals g_costs g_gains g_seed r1 r32 n33 g34) (cwV 1 hts gX1_lots_X1_refuse rfl rfl rfl hd_X1_refuse ⟨Nat.le_of_ble_eq_true rfl, Nat.le_of_ble_eq_true rfl⟩) hK hP hD hS hA (zb_sG) (q0 := 0) rfl rfl rfl hl.1 rfl (Nat.le_of_ble_eq_true rfl) dX1_lots_17 ⟨Nat.le_refl _, Nat.le_refl _⟩ (fun H locs hP hD hS => ?_)
    obtain ⟨rfl, rfl, rfl, rfl⟩ := re4 h
    exact zb_iret hx hb hr hlk hP hS dX1_lots_20
abbrev rm_X1_image : Room := { frames := 2, cells := 0, slots := 0, locals := 51 }
theorem hd_X1_image : yX1_image.cls = RX1 ∧ yX1_image.cls ≠ "java/lang/invoke/MethodHandle" ∧ yX1_image.cls ≠ "java/lang/invoke/VarHandle" ∧ (parseMethodDescriptor yX1_image.desc).map (fun d => d.parameters.length) = some 0 := by decide +kernel
theorem zi_X1_image_X1 : ∀ w ∈ wsX10, w ∈ wsX1_image := fun _ h => List.mem_cons_of_mem _ (List.mem_append_left _ (List.mem_append_right _ h))
theorem zk_X1_image_0 : Cond.fieldLink RX1 19 "GroutingIsFollowed" "taken" "LGroutingIsFollowed$Bath;" ∈ wsX1_image := by decide +kernel
theorem zk_X1_image_1 : Cond.fieldLink RX1 10 "GroutingIsFollowed" "now" "LGroutingIsFollowed$Bath;" ∈ wsX1_image := by decide +kernel
theorem zk_X1_image_2 : Cond.fieldLink RX1 210 "GroutingIsFollowed" "isTaken" "Z" ∈ wsX1_image := by decide +kernel
set_option maxHeartbeats 4000000 in
set_option maxRecDepth 100000 in
theorem zc_X1_image (l : Launch) (D : va_G) (cI : ClassId) (ad : Nat → Nat) (g_now : BT) (g_mind : BT) (g_taken : BT) (g_isTaken : Int32) (g_letters : (Nat → Int32)) (g_letterCount : Int32) (g_told : (Nat → Int32)) (g_toldCount : Int32) (g_refusals : (Nat → Int32)) (g_costs : (Nat → Int32)) (g_gains : (Nat → Int32)) (g_seed : Int32) (r0 : Int32) (w_g_taken : BT) (w_g_isTaken : Int32) (h : zf_X1_image g_now g_taken g_isTaken = some (r0, w_g_taken, w_g_isTaken)) : Cn l D cI yX1_image wsX1_image rm_X1_image [.ref (ad 0)] (zb_G cI ad g_now g_mind g_taken g_isTaken g_letters g_letterCount g_told g_toldCount g_refusals g_costs g_gains g_seed) (some (.int r0)) (zb_G cI ad g_now g_mind w_g_taken w_g_isTaken g_letters g_letterCount g_told g_toldCount g_refusals g_costs g_gains g_seed) := by
  refine zb_ofW (cc := cX1_image) (maxL := 1) (ret := (some .int)) (by decide) rfl (Nat.le_of_ble_eq_true rfl) ?_
  intro p e s m args below meth c A ls hx hb hr hml hts hown hlk hK hP hD hA hl
  have hS : va_S A s.heap s.heap [] := va_S.rf
  have hl : lv_has ls 1 [(0, .ref (ad 0))] := hl
  unfold zf_X1_image at h
  refine lv_aload_n hx hb dX1_image_0 rfl (lv_at hl 0 rfl) ?_
  refine va_get (D := D) (ci := 1) (v := .ref (ad 15)) (C := RX1) (T := TX1) (N := 12) hx hb hts zi_X1_image_X1 hown hK.1 hP 0 rfl rfl 2 (by decide) (hts _ zk_X1_image_0) (fun _ h9 => h9) rfl dX1_image_1 ?_
  refine lv_aload_n hx hb dX1_image_4 rfl (lv_at hl 0 rfl) ?_
  refine va_get (D := D) (ci := 1) (v := .ref (ad 1)) (C := RX1) (T := TX1) (N := 12) hx hb hts zi_X1_image_X1 hown hK.1 hP 0 rfl rfl 0 (by decide) (hts _ zk_X1_image_1) (fun _ h9 => h9) rfl dX1_image_5 ?_
  obtain ⟨n1, g2, h⟩ := bo1 h
  refine zb_callV (As := [.ref (ad 1)]) (rest := []) ⟨hx, hb, hml, hown, hts⟩ (zc_X0_becomes l D cI (ad 15) (ad 16) (ad 17) (ad 18) (ad 19) (ad 20) (ad 21) (ad 1) (ad 2) (ad 3) (ad 4) (ad 5) (ad 6) (ad 7) g_taken g_now n1 g2) (cwV 1 hts gX1_image_X0_becomes rfl rfl rfl hd_X0_becomes ⟨Nat.le_of_ble_eq_true rfl, Nat.le_of_ble_eq_true rfl⟩) hK hP hD hS hA (zb_cGtn) (q0 := 0) rfl rfl rfl hl.1 rfl (Nat.le_of_ble_eq_true rfl) dX1_image_8 ⟨Nat.le_refl _, Nat.le_refl _⟩ (fun H locs hP hD hS => ?_)
  refine lv_aload_n hx hb dX1_image_11 rfl (lv_at hl 0 rfl) ?_
  refine lv_iconst (v := (1 : Int32)) hx hb dX1_image_12 (by decide) ?_
  refine va_put (D := D) (ci := 1) (v := .int (1 : Int32)) (ty := .boolean) (C := RX1) (T := TX1) (N := 12) hx hb hts zi_X1_image_X1 tyX1 tyX1_ok nmX1 hown hK.1 hP hD hS 0 rfl rfl 3 (by decide) (hts _ zk_X1_image_2) (fun _ h9 => h9) rfl (by decide +kernel) rfl rfl (Nat.le_of_ble_eq_true rfl) dX1_image_13 (fun H locs hP hD hS => ?_)
  have hP : va_P D zb_cl (zb_G cI ad g_now g_mind n1 (1 : Int32) g_letters g_letterCount g_told g_toldCount g_refusals g_costs g_gains g_seed) H := hP
  have hD : va_D A (zb_G cI ad g_now g_mind n1 (1 : Int32) g_letters g_letterCount g_told g_toldCount g_refusals g_costs g_gains g_seed) := hD
  refine lv_aload_n hx hb dX1_image_16 rfl (lv_at hl 0 rfl) ?_
  refine va_get (D := D) (ci := 1) (v := .ref (ad 1)) (C := RX1) (T := TX1) (N := 12) hx hb hts zi_X1_image_X1 hown hK.1 hP 0 rfl rfl 0 (by decide) (hts _ zk_X1_image_1) (fun _ h9 => h9) rfl dX1_image_17 ?_
  obtain ⟨r3, g4, h⟩ := bo1 h
  refine zb_callV (As := []) (rest := []) ⟨hx, hb, hml, hown, hts⟩ (zc_X0_stepCount l D cI (ad 1) (ad 2) (ad 3) (ad 4) (ad 5) (ad 6) (ad 7) g_now r3 g4) (cwV 0 hts gX1_image_X0_stepCount rfl rfl rfl hd_X0_stepCount ⟨Nat.le_of_ble_eq_true rfl, Nat.le_of_ble_eq_true rfl⟩) hK hP hD hS hA (zb_cGn) (q0 := 0) rfl rfl rfl hl.1 rfl (Nat.le_of_ble_eq_true rfl) dX1_image_20 ⟨Nat.le_refl _, Nat.le_refl _⟩ (fun H locs hP hD hS => ?_)
  obtain ⟨rfl, rfl, rfl⟩ := re3 h
  exact zb_iret hx hb hr hlk hP hS dX1_image_23
abbrev rm_X1_on : Room := { frames := 2, cells := 0, slots := 0, locals := 51 }
theorem hd_X1_on : yX1_on.cls = RX1 ∧ yX1_on.cls ≠ "java/lang/invoke/MethodHandle" ∧ yX1_on.cls ≠ "java/lang/invoke/VarHandle" ∧ (parseMethodDescriptor yX1_on.desc).map (fun d => d.parameters.length) = some 0 := by decide +kernel
theorem zi_X1_on_X1 : ∀ w ∈ wsX10, w ∈ wsX1_on := fun _ h => List.mem_cons_of_mem _ (List.mem_append_left _ (List.mem_append_right _ h))
theorem zk_X1_on_0 : Cond.fieldLink RX1 210 "GroutingIsFollowed" "isTaken" "Z" ∈ wsX1_on := by decide +kernel
theorem zk_X1_on_1 : Cond.fieldLink RX1 10 "GroutingIsFollowed" "now" "LGroutingIsFollowed$Bath;" ∈ wsX1_on := by decide +kernel
theorem zk_X1_on_2 : Cond.fieldLink RX1 19 "GroutingIsFollowed" "taken" "LGroutingIsFollowed$Bath;" ∈ wsX1_on := by decide +kernel
set_option maxHeartbeats 4000000 in
set_option maxRecDepth 100000 in
theorem zc_X1_on (l : Launch) (D : va_G) (cI : ClassId) (ad : Nat → Nat) (g_now : BT) (g_mind : BT) (g_taken : BT) (g_isTaken : Int32) (g_letters : (Nat → Int32)) (g_letterCount : Int32) (g_told : (Nat → Int32)) (g_toldCount : Int32) (g_refusals : (Nat → Int32)) (g_costs : (Nat → Int32)) (g_gains : (Nat → Int32)) (g_seed : Int32) (r0 : Int32) (w_g_now : BT) (w_g_refusals : (Nat → Int32)) (h : zf_X1_on g_now g_taken g_isTaken g_refusals = some (r0, w_g_now, w_g_refusals)) : Cn l D cI yX1_on wsX1_on rm_X1_on [.ref (ad 0)] (zb_G cI ad g_now g_mind g_taken g_isTaken g_letters g_letterCount g_told g_toldCount g_refusals g_costs g_gains g_seed) (some (.int r0)) (zb_G cI ad w_g_now g_mind g_taken g_isTaken g_letters g_letterCount g_told g_toldCount w_g_refusals g_costs g_gains g_seed) := by
  refine zb_ofW (cc := cX1_on) (maxL := 1) (ret := (some .int)) (by decide) rfl (Nat.le_of_ble_eq_true rfl) ?_
  intro p e s m args below meth c A ls hx hb hr hml hts hown hlk hK hP hD hA hl
  have hS : va_S A s.heap s.heap [] := va_S.rf
  have hl : lv_has ls 1 [(0, .ref (ad 0))] := hl
  unfold zf_X1_on at h
  refine lv_aload_n hx hb dX1_on_0 rfl (lv_at hl 0 rfl) ?_
  refine va_get (D := D) (ci := 1) (v := .int g_isTaken) (C := RX1) (T := TX1) (N := 12) hx hb hts zi_X1_on_X1 hown hK.1 hP 0 rfl rfl 3 (by decide) (hts _ zk_X1_on_0) (fun _ h9 => h9) rfl dX1_on_1 ?_
  refine lv_if_ne (tgt := 14) hx hb dX1_on_4 (by decide) (fun c1 => ?_) (fun c1 => ?_)
  · replace h := it_f c1 h
    refine lv_aload_n hx hb dX1_on_14 rfl (lv_at hl 0 rfl) ?_
    refine va_get (D := D) (ci := 1) (v := .ref (ad 1)) (C := RX1) (T := TX1) (N := 12) hx hb hts zi_X1_on_X1 hown hK.1 hP 0 rfl rfl 0 (by decide) (hts _ zk_X1_on_1) (fun _ h9 => h9) rfl dX1_on_15 ?_
    refine lv_aload_n hx hb dX1_on_18 rfl (lv_at hl 0 rfl) ?_
    refine va_get (D := D) (ci := 1) (v := .ref (ad 15)) (C := RX1) (T := TX1) (N := 12) hx hb hts zi_X1_on_X1 hown hK.1 hP 0 rfl rfl 2 (by decide) (hts _ zk_X1_on_2) (fun _ h9 => h9) rfl dX1_on_19 ?_
    obtain ⟨n2, g3, h⟩ := bo1 h
    refine zb_callV (As := [.ref (ad 15)]) (rest := []) ⟨hx, hb, hml, hown, hts⟩ (zc_X0_becomes l D cI (ad 1) (ad 2) (ad 3) (ad 4) (ad 5) (ad 6) (ad 7) (ad 15) (ad 16) (ad 17) (ad 18) (ad 19) (ad 20) (ad 21) g_now g_taken n2 g3) (cwV 1 hts gX1_on_X0_becomes rfl rfl rfl hd_X0_becomes ⟨Nat.le_of_ble_eq_true rfl, Nat.le_of_ble_eq_true rfl⟩) hK hP hD hS hA (zb_cGnt) (q0 := 0) rfl rfl rfl hl.1 rfl (Nat.le_of_ble_eq_true rfl) dX1_on_22 ⟨Nat.le_refl _, Nat.le_refl _⟩ (fun H locs hP hD hS => ?_)
    refine lv_aload_n hx hb dX1_on_25 rfl (lv_at hl 0 rfl) ?_
    refine va_get (D := D) (ci := 1) (v := .ref (ad 1)) (C := RX1) (T := TX1) (N := 12) hx hb hts zi_X1_on_X1 hown hK.1 hP 0 rfl rfl 0 (by decide) (hts _ zk_X1_on_1) (fun _ h9 => h9) rfl dX1_on_26 ?_
    obtain ⟨r4, g5, h⟩ := bo1 h
    refine zb_callV (As := []) (rest := []) ⟨hx, hb, hml, hown, hts⟩ (zc_X0_stepCount l D cI (ad 1) (ad 2) (ad 3) (ad 4) (ad 5) (ad 6) (ad 7) n2 r4 g5) (cwV 0 hts gX1_on_X0_stepCount rfl rfl rfl hd_X0_stepCount ⟨Nat.le_of_ble_eq_true rfl, Nat.le_of_ble_eq_true rfl⟩) hK hP hD hS hA (zb_cGn) (q0 := 0) rfl rfl rfl hl.1 rfl (Nat.le_of_ble_eq_true rfl) dX1_on_29 ⟨Nat.le_refl _, Nat.le_refl _⟩ (fun H locs hP hD hS => ?_)
    obtain ⟨rfl, rfl, rfl⟩ := re3 h
    exact zb_iret hx hb hr hlk hP hS dX1_on_32
  · replace h := it_t c1 h
    refine lv_aload_n hx hb dX1_on_7 rfl (lv_at hl 0 rfl) ?_
    refine lv_bipush (v := ((-3) : Int32)) hx hb dX1_on_8 (by decide) ?_
    obtain ⟨r6, n7, g8, h⟩ := bo2 h
    refine zb_callV (As := [.int ((-3) : Int32)]) (rest := []) ⟨hx, hb, hml, hown, hts⟩ (zc_X1_refuse l D cI ad g_now g_mind g_taken g_isTaken g_letters g_letterCount g_told g_toldCount g_refusals g_costs g_gains g_seed ((-3) : Int32) r6 n7 g8) (cwV 1 hts gX1_on_X1_refuse rfl rfl rfl hd_X1_refuse ⟨Nat.le_of_ble_eq_true rfl, Nat.le_of_ble_eq_true rfl⟩) hK hP hD hS hA (zb_sG) (q0 := 0) rfl rfl rfl hl.1 rfl (Nat.le_of_ble_eq_true rfl) dX1_on_10 ⟨Nat.le_refl _, Nat.le_refl _⟩ (fun H locs hP hD hS => ?_)
    obtain ⟨rfl, rfl, rfl⟩ := re3 h
    exact zb_iret hx hb hr hlk hP hS dX1_on_13
abbrev rm_X1_refusalsOf : Room := { frames := 0, cells := 0, slots := 0, locals := 0 }
theorem hd_X1_refusalsOf : yX1_refusalsOf.cls = RX1 ∧ yX1_refusalsOf.cls ≠ "java/lang/invoke/MethodHandle" ∧ yX1_refusalsOf.cls ≠ "java/lang/invoke/VarHandle" ∧ (parseMethodDescriptor yX1_refusalsOf.desc).map (fun d => d.parameters.length) = some 1 := by decide +kernel
theorem zi_X1_refusalsOf_X1 : ∀ w ∈ wsX10, w ∈ wsX1_refusalsOf := fun _ h => List.mem_cons_of_mem _ (List.mem_append_right _ h)
theorem zk_X1_refusalsOf_0 : Cond.fieldLink RX1 29 "GroutingIsFollowed" "refusals" "[I" ∈ wsX1_refusalsOf := by decide +kernel
set_option maxHeartbeats 4000000 in
set_option maxRecDepth 100000 in
theorem zc_X1_refusalsOf (l : Launch) (D : va_G) (cI : ClassId) (ad : Nat → Nat) (g_now : BT) (g_mind : BT) (g_taken : BT) (g_isTaken : Int32) (g_letters : (Nat → Int32)) (g_letterCount : Int32) (g_told : (Nat → Int32)) (g_toldCount : Int32) (g_refusals : (Nat → Int32)) (g_costs : (Nat → Int32)) (g_gains : (Nat → Int32)) (g_seed : Int32) (v1 : Int32) (r0 : Int32) (h : zf_X1_refusalsOf g_refusals v1 = some r0) : Cn l D cI yX1_refusalsOf wsX1_refusalsOf rm_X1_refusalsOf [.ref (ad 0), .int v1] (zb_G cI ad g_now g_mind g_taken g_isTaken g_letters g_letterCount g_told g_toldCount g_refusals g_costs g_gains g_seed) (some (.int r0)) (zb_G cI ad g_now g_mind g_taken g_isTaken g_letters g_letterCount g_told g_toldCount g_refusals g_costs g_gains g_seed) := by
  refine zb_ofW (cc := cX1_refusalsOf) (maxL := 2) (ret := (some .int)) (by decide) rfl (Nat.le_of_ble_eq_true rfl) ?_
  intro p e s m args below meth c A ls hx hb hr hml hts hown hlk hK hP hD hA hl
  have hS : va_S A s.heap s.heap [] := va_S.rf
  have hl : lv_has ls 2 [(0, .ref (ad 0)), (1, .int v1)] := hl
  unfold zf_X1_refusalsOf at h
  refine lv_iload_n hx hb dX1_refusalsOf_0 rfl (lv_at hl 1 rfl) ?_
  refine lv_if_lt (tgt := 22) hx hb dX1_refusalsOf_1 (by decide) (fun c1 => ?_) (fun c1 => ?_)
  · replace h := it_t c1 h
    refine lv_bipush (v := ((-9) : Int32)) hx hb dX1_refusalsOf_22 (by decide) ?_
    obtain rfl := re1 h
    exact zb_iret hx hb hr hlk hP hS dX1_refusalsOf_24
  · replace h := it_f c1 h
    refine lv_iload_n hx hb dX1_refusalsOf_4 rfl (lv_at hl 1 rfl) ?_
    refine lv_aload_n hx hb dX1_refusalsOf_5 rfl (lv_at hl 0 rfl) ?_
    refine va_get (D := D) (ci := 1) (v := .ref (ad 24)) (C := RX1) (T := TX1) (N := 12) hx hb hts zi_X1_refusalsOf_X1 hown hK.1 hP 0 rfl rfl 8 (by decide) (hts _ zk_X1_refusalsOf_0) (fun _ h9 => h9) rfl dX1_refusalsOf_6 ?_
    refine va_alen (v := (6 : Int32)) hx hb hK.1 hP 24 0 rfl rfl rfl dX1_refusalsOf_9 ?_
    refine lv_icmp_ge (tgt := 22) hx hb dX1_refusalsOf_10 (by decide) (fun c2 => ?_) (fun c2 => ?_)
    · replace h := it_t c2 h
      refine lv_bipush (v := ((-9) : Int32)) hx hb dX1_refusalsOf_22 (by decide) ?_
      obtain rfl := re1 h
      exact zb_iret hx hb hr hlk hP hS dX1_refusalsOf_24
    · replace h := it_f c2 h
      refine lv_aload_n hx hb dX1_refusalsOf_13 rfl (lv_at hl 0 rfl) ?_
      refine va_get (D := D) (ci := 1) (v := .ref (ad 24)) (C := RX1) (T := TX1) (N := 12) hx hb hts zi_X1_refusalsOf_X1 hown hK.1 hP 0 rfl rfl 8 (by decide) (hts _ zk_X1_refusalsOf_0) (fun _ h9 => h9) rfl dX1_refusalsOf_14 ?_
      refine lv_iload_n hx hb dX1_refusalsOf_17 rfl (lv_at hl 1 rfl) ?_
      obtain ⟨h3, h⟩ := it_g h
      refine va_iald hx hb hK.1 hP 24 0 rfl rfl h3 dX1_refusalsOf_18 ?_
      refine lv_goto (tgt := 24) hx hb dX1_refusalsOf_19 (by decide) ?_
      obtain rfl := re1 h
      exact zb_iret hx hb hr hlk hP hS dX1_refusalsOf_24
abbrev rm_X1_count : Room := { frames := 4, cells := 0, slots := 0, locals := 86 }
theorem hd_X1_count : yX1_count.cls = RX1 ∧ yX1_count.cls ≠ "java/lang/invoke/MethodHandle" ∧ yX1_count.cls ≠ "java/lang/invoke/VarHandle" ∧ (parseMethodDescriptor yX1_count.desc).map (fun d => d.parameters.length) = some 1 := by decide +kernel
theorem zi_X1_count_X1 : ∀ w ∈ wsX10, w ∈ wsX1_count := fun _ h => List.mem_cons_of_mem _ (List.mem_append_left _ (List.mem_append_right _ h))
theorem zk_X1_count_0 : Cond.fieldLink RX1 42 "GroutingIsFollowed" "letterCount" "I" ∈ wsX1_count := by decide +kernel
theorem zk_X1_count_1 : Cond.fieldLink RX1 192 "GroutingIsFollowed" "toldCount" "I" ∈ wsX1_count := by decide +kernel
theorem zk_X1_count_2 : Cond.fieldLink RX1 10 "GroutingIsFollowed" "now" "LGroutingIsFollowed$Bath;" ∈ wsX1_count := by decide +kernel
set_option maxHeartbeats 4000000 in
set_option maxRecDepth 100000 in
theorem zc_X1_count (l : Launch) (D : va_G) (cI : ClassId) (ad : Nat → Nat) (g_now : BT) (g_mind : BT) (g_taken : BT) (g_isTaken : Int32) (g_letters : (Nat → Int32)) (g_letterCount : Int32) (g_told : (Nat → Int32)) (g_toldCount : Int32) (g_refusals : (Nat → Int32)) (g_costs : (Nat → Int32)) (g_gains : (Nat → Int32)) (g_seed : Int32) (v1 : Int32) (r0 : Int32) (h : zf_X1_count g_now g_letterCount g_toldCount g_refusals v1 = some r0) : Cn l D cI yX1_count wsX1_count rm_X1_count [.ref (ad 0), .int v1] (zb_G cI ad g_now g_mind g_taken g_isTaken g_letters g_letterCount g_told g_toldCount g_refusals g_costs g_gains g_seed) (some (.int r0)) (zb_G cI ad g_now g_mind g_taken g_isTaken g_letters g_letterCount g_told g_toldCount g_refusals g_costs g_gains g_seed) := by
  refine zb_ofW (cc := cX1_count) (maxL := 2) (ret := (some .int)) (by decide) rfl (Nat.le_of_ble_eq_true rfl) ?_
  intro p e s m args below meth c A ls hx hb hr hml hts hown hlk hK hP hD hA hl
  have hS : va_S A s.heap s.heap [] := va_S.rf
  have hl : lv_has ls 2 [(0, .ref (ad 0)), (1, .int v1)] := hl
  unfold zf_X1_count at h
  refine lv_iload_n hx hb dX1_count_0 rfl (lv_at hl 1 rfl) ?_
  by_cases c1 : v1 = (0 : Int32)
  · replace h := it_t c1 h
    have e9 : v1.toInt = 0 := by rw [c1]; rfl
    refine lv_tableIn (tgt := 48) hx hb dX1_count_1 (by rw [e9]; decide) (by rw [e9]; decide) (by rw [e9]; rfl) (by decide) ?_
    refine lv_aload_n hx hb dX1_count_48 rfl (lv_at hl 0 rfl) ?_
    refine va_get (D := D) (ci := 1) (v := .ref (ad 1)) (C := RX1) (T := TX1) (N := 12) hx hb hts zi_X1_count_X1 hown hK.1 hP 0 rfl rfl 0 (by decide) (hts _ zk_X1_count_2) (fun _ h9 => h9) rfl dX1_count_49 ?_
    obtain ⟨r2, g3, h⟩ := bo1 h
    refine zb_callV (As := []) (rest := []) ⟨hx, hb, hml, hown, hts⟩ (zc_X0_peopleCount l D cI (ad 1) (ad 2) (ad 3) (ad 4) (ad 5) (ad 6) (ad 7) g_now r2 g3) (cwV 0 hts gX1_count_X0_peopleCount rfl rfl rfl hd_X0_peopleCount ⟨Nat.le_of_ble_eq_true rfl, Nat.le_of_ble_eq_true rfl⟩) hK hP hD hS hA (zb_cGn) (q0 := 0) rfl rfl rfl hl.1 rfl (Nat.le_of_ble_eq_true rfl) dX1_count_52 ⟨Nat.le_refl _, Nat.le_refl _⟩ (fun H locs hP hD hS => ?_)
    obtain rfl := re1 h
    exact zb_iret hx hb hr hlk hP hS dX1_count_55
  replace h := it_f c1 h
  by_cases c4 : v1 = (1 : Int32)
  · replace h := it_t c4 h
    have e9 : v1.toInt = 1 := by rw [c4]; rfl
    refine lv_tableIn (tgt := 56) hx hb dX1_count_1 (by rw [e9]; decide) (by rw [e9]; decide) (by rw [e9]; rfl) (by decide) ?_
    refine lv_aload_n hx hb dX1_count_56 rfl (lv_at hl 0 rfl) ?_
    refine va_get (D := D) (ci := 1) (v := .ref (ad 1)) (C := RX1) (T := TX1) (N := 12) hx hb hts zi_X1_count_X1 hown hK.1 hP 0 rfl rfl 0 (by decide) (hts _ zk_X1_count_2) (fun _ h9 => h9) rfl dX1_count_57 ?_
    obtain ⟨r5, g6, h⟩ := bo1 h
    refine zb_callV (As := []) (rest := []) ⟨hx, hb, hml, hown, hts⟩ (zc_X0_stepCount l D cI (ad 1) (ad 2) (ad 3) (ad 4) (ad 5) (ad 6) (ad 7) g_now r5 g6) (cwV 0 hts gX1_count_X0_stepCount rfl rfl rfl hd_X0_stepCount ⟨Nat.le_of_ble_eq_true rfl, Nat.le_of_ble_eq_true rfl⟩) hK hP hD hS hA (zb_cGn) (q0 := 0) rfl rfl rfl hl.1 rfl (Nat.le_of_ble_eq_true rfl) dX1_count_60 ⟨Nat.le_refl _, Nat.le_refl _⟩ (fun H locs hP hD hS => ?_)
    obtain rfl := re1 h
    exact zb_iret hx hb hr hlk hP hS dX1_count_63
  replace h := it_f c4 h
  by_cases c7 : v1 = (2 : Int32)
  · replace h := it_t c7 h
    have e9 : v1.toInt = 2 := by rw [c7]; rfl
    refine lv_tableIn (tgt := 64) hx hb dX1_count_1 (by rw [e9]; decide) (by rw [e9]; decide) (by rw [e9]; rfl) (by decide) ?_
    refine lv_aload_n hx hb dX1_count_64 rfl (lv_at hl 0 rfl) ?_
    refine va_get (D := D) (ci := 1) (v := .ref (ad 1)) (C := RX1) (T := TX1) (N := 12) hx hb hts zi_X1_count_X1 hown hK.1 hP 0 rfl rfl 0 (by decide) (hts _ zk_X1_count_2) (fun _ h9 => h9) rfl dX1_count_65 ?_
    obtain ⟨r8, g9, h⟩ := bo1 h
    refine zb_callV (As := []) (rest := []) ⟨hx, hb, hml, hown, hts⟩ (zc_X0_allWet l D cI (ad 1) (ad 2) (ad 3) (ad 4) (ad 5) (ad 6) (ad 7) g_now r8 g9) (cwV 0 hts gX1_count_X0_allWet rfl rfl rfl hd_X0_allWet ⟨Nat.le_of_ble_eq_true rfl, Nat.le_of_ble_eq_true rfl⟩) hK hP hD hS hA (zb_cGn) (q0 := 0) rfl rfl rfl hl.1 rfl (Nat.le_of_ble_eq_true rfl) dX1_count_68 ⟨Nat.le_refl _, Nat.le_refl _⟩ (fun H locs hP hD hS => ?_)
    obtain rfl := re1 h
    exact zb_iret hx hb hr hlk hP hS dX1_count_71
  replace h := it_f c7 h
  by_cases c10 : v1 = (3 : Int32)
  · replace h := it_t c10 h
    have e9 : v1.toInt = 3 := by rw [c10]; rfl
    refine lv_tableIn (tgt := 72) hx hb dX1_count_1 (by rw [e9]; decide) (by rw [e9]; decide) (by rw [e9]; rfl) (by decide) ?_
    refine lv_aload_n hx hb dX1_count_72 rfl (lv_at hl 0 rfl) ?_
    refine va_get (D := D) (ci := 1) (v := .ref (ad 1)) (C := RX1) (T := TX1) (N := 12) hx hb hts zi_X1_count_X1 hown hK.1 hP 0 rfl rfl 0 (by decide) (hts _ zk_X1_count_2) (fun _ h9 => h9) rfl dX1_count_73 ?_
    obtain ⟨r11, g12, h⟩ := bo1 h
    refine zb_callV (As := []) (rest := []) ⟨hx, hb, hml, hown, hts⟩ (zc_X0_allHelped l D cI (ad 1) (ad 2) (ad 3) (ad 4) (ad 5) (ad 6) (ad 7) g_now r11 g12) (cwV 0 hts gX1_count_X0_allHelped rfl rfl rfl hd_X0_allHelped ⟨Nat.le_of_ble_eq_true rfl, Nat.le_of_ble_eq_true rfl⟩) hK hP hD hS hA (zb_cGn) (q0 := 0) rfl rfl rfl hl.1 rfl (Nat.le_of_ble_eq_true rfl) dX1_count_76 ⟨Nat.le_refl _, Nat.le_refl _⟩ (fun H locs hP hD hS => ?_)
    obtain rfl := re1 h
    exact zb_iret hx hb hr hlk hP hS dX1_count_79
  replace h := it_f c10 h
  by_cases c13 : v1 = (4 : Int32)
  · replace h := it_t c13 h
    have e9 : v1.toInt = 4 := by rw [c13]; rfl
    refine lv_tableIn (tgt := 80) hx hb dX1_count_1 (by rw [e9]; decide) (by rw [e9]; decide) (by rw [e9]; rfl) (by decide) ?_
    refine lv_aload_n hx hb dX1_count_80 rfl (lv_at hl 0 rfl) ?_
    refine va_get (D := D) (ci := 1) (v := .ref (ad 1)) (C := RX1) (T := TX1) (N := 12) hx hb hts zi_X1_count_X1 hown hK.1 hP 0 rfl rfl 0 (by decide) (hts _ zk_X1_count_2) (fun _ h9 => h9) rfl dX1_count_81 ?_
    obtain ⟨r14, g15, h⟩ := bo1 h
    refine zb_callV (As := []) (rest := []) ⟨hx, hb, hml, hown, hts⟩ (zc_X0_dryNodes l D cI (ad 1) (ad 2) (ad 3) (ad 4) (ad 5) (ad 6) (ad 7) g_now r14 g15) (cwV 0 hts gX1_count_X0_dryNodes rfl rfl rfl hd_X0_dryNodes ⟨Nat.le_of_ble_eq_true rfl, Nat.le_of_ble_eq_true rfl⟩) hK hP hD hS hA (zb_cGn) (q0 := 0) rfl rfl rfl hl.1 rfl (Nat.le_of_ble_eq_true rfl) dX1_count_84 ⟨Nat.le_refl _, Nat.le_refl _⟩ (fun H locs hP hD hS => ?_)
    obtain rfl := re1 h
    exact zb_iret hx hb hr hlk hP hS dX1_count_87
  replace h := it_f c13 h
  by_cases c16 : v1 = (5 : Int32)
  · replace h := it_t c16 h
    have e9 : v1.toInt = 5 := by rw [c16]; rfl
    refine lv_tableIn (tgt := 88) hx hb dX1_count_1 (by rw [e9]; decide) (by rw [e9]; decide) (by rw [e9]; rfl) (by decide) ?_
    refine lv_aload_n hx hb dX1_count_88 rfl (lv_at hl 0 rfl) ?_
    refine va_get (D := D) (ci := 1) (v := .ref (ad 1)) (C := RX1) (T := TX1) (N := 12) hx hb hts zi_X1_count_X1 hown hK.1 hP 0 rfl rfl 0 (by decide) (hts _ zk_X1_count_2) (fun _ h9 => h9) rfl dX1_count_89 ?_
    obtain ⟨r17, g18, h⟩ := bo1 h
    refine zb_callV (As := []) (rest := []) ⟨hx, hb, hml, hown, hts⟩ (zc_X0_allFigures l D cI (ad 1) (ad 2) (ad 3) (ad 4) (ad 5) (ad 6) (ad 7) g_now r17 g18) (cwV 0 hts gX1_count_X0_allFigures rfl rfl rfl hd_X0_allFigures ⟨Nat.le_of_ble_eq_true rfl, Nat.le_of_ble_eq_true rfl⟩) hK hP hD hS hA (zb_cGn) (q0 := 0) rfl rfl rfl hl.1 rfl (Nat.le_of_ble_eq_true rfl) dX1_count_92 ⟨Nat.le_refl _, Nat.le_refl _⟩ (fun H locs hP hD hS => ?_)
    obtain rfl := re1 h
    exact zb_iret hx hb hr hlk hP hS dX1_count_95
  replace h := it_f c16 h
  by_cases c19 : v1 = (6 : Int32)
  · replace h := it_t c19 h
    have e9 : v1.toInt = 6 := by rw [c19]; rfl
    refine lv_tableIn (tgt := 96) hx hb dX1_count_1 (by rw [e9]; decide) (by rw [e9]; decide) (by rw [e9]; rfl) (by decide) ?_
    refine lv_aload_n hx hb dX1_count_96 rfl (lv_at hl 0 rfl) ?_
    refine va_get (D := D) (ci := 1) (v := .int g_toldCount) (C := RX1) (T := TX1) (N := 12) hx hb hts zi_X1_count_X1 hown hK.1 hP 0 rfl rfl 7 (by decide) (hts _ zk_X1_count_1) (fun _ h9 => h9) rfl dX1_count_97 ?_
    obtain rfl := re1 h
    exact zb_iret hx hb hr hlk hP hS dX1_count_100
  replace h := it_f c19 h
  by_cases c20 : v1 = (7 : Int32)
  · replace h := it_t c20 h
    have e9 : v1.toInt = 7 := by rw [c20]; rfl
    refine lv_tableIn (tgt := 101) hx hb dX1_count_1 (by rw [e9]; decide) (by rw [e9]; decide) (by rw [e9]; rfl) (by decide) ?_
    refine lv_aload_n hx hb dX1_count_101 rfl (lv_at hl 0 rfl) ?_
    refine va_get (D := D) (ci := 1) (v := .int g_letterCount) (C := RX1) (T := TX1) (N := 12) hx hb hts zi_X1_count_X1 hown hK.1 hP 0 rfl rfl 5 (by decide) (hts _ zk_X1_count_0) (fun _ h9 => h9) rfl dX1_count_102 ?_
    obtain rfl := re1 h
    exact zb_iret hx hb hr hlk hP hS dX1_count_105
  replace h := it_f c20 h
  have e_c1 := sw_ne (k := 0) rfl c1
  have e_c4 := sw_ne (k := 1) rfl c4
  have e_c7 := sw_ne (k := 2) rfl c7
  have e_c10 := sw_ne (k := 3) rfl c10
  have e_c13 := sw_ne (k := 4) rfl c13
  have e_c16 := sw_ne (k := 5) rfl c16
  have e_c19 := sw_ne (k := 6) rfl c19
  have e_c20 := sw_ne (k := 7) rfl c20
  refine lv_tableOut (tgt := 106) hx hb dX1_count_1 (by omega) (by decide) ?_
  refine lv_aload_n hx hb dX1_count_106 rfl (lv_at hl 0 rfl) ?_
  refine lv_iload_n hx hb dX1_count_107 rfl (lv_at hl 1 rfl) ?_
  refine lv_bipush (v := (11 : Int32)) hx hb dX1_count_108 (by decide) ?_
  refine lv_isub hx hb dX1_count_110 ?_
  obtain ⟨r21, g22, h⟩ := bo1 h
  refine zb_callV (As := [.int (v1 - (11 : Int32))]) (rest := []) ⟨hx, hb, hml, hown, hts⟩ (zc_X1_refusalsOf l D cI ad g_now g_mind g_taken g_isTaken g_letters g_letterCount g_told g_toldCount g_refusals g_costs g_gains g_seed (v1 - (11 : Int32)) r21 g22) (cwV 1 hts gX1_count_X1_refusalsOf rfl rfl rfl hd_X1_refusalsOf ⟨Nat.le_of_ble_eq_true rfl, Nat.le_of_ble_eq_true rfl⟩) hK hP hD hS hA (zb_sG) (q0 := 0) rfl rfl rfl hl.1 rfl (Nat.le_of_ble_eq_true rfl) dX1_count_111 ⟨Nat.le_refl _, Nat.le_refl _⟩ (fun H locs hP hD hS => ?_)
  obtain rfl := re1 h
  exact zb_iret hx hb hr hlk hP hS dX1_count_114
