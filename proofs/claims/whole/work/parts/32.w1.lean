abbrev rm_X1_weightInSteam : Room := { frames := 4, cells := 0, slots := 0, locals := 90 }
theorem hd_X1_weightInSteam : yX1_weightInSteam.cls = RX1 ∧ yX1_weightInSteam.cls ≠ "java/lang/invoke/MethodHandle" ∧ yX1_weightInSteam.cls ≠ "java/lang/invoke/VarHandle" ∧ (parseMethodDescriptor yX1_weightInSteam.desc).map (fun d => d.parameters.length) = some 3 := by decide +kernel
theorem zi_X1_weightInSteam_X1 : ∀ w ∈ wsX10, w ∈ wsX1_weightInSteam := fun _ h => List.mem_cons_of_mem _ (List.mem_append_left _ (List.mem_append_right _ h))
theorem zk_X1_weightInSteam_0 : Cond.fieldLink RX1 16 "GroutingIsFollowed" "mind" "LGroutingIsFollowed$Bath;" ∈ wsX1_weightInSteam := by decide +kernel
theorem zk_X1_weightInSteam_1 : Cond.fieldLink RX1 10 "GroutingIsFollowed" "now" "LGroutingIsFollowed$Bath;" ∈ wsX1_weightInSteam := by decide +kernel
set_option maxHeartbeats 4000000 in
set_option maxRecDepth 100000 in
theorem zc_X1_weightInSteam (l : Launch) (D : va_G) (cI : ClassId) (ad : Nat → Nat) (g_now : BT) (g_mind : BT) (g_taken : BT) (g_isTaken : Int32) (g_letters : (Nat → Int32)) (g_letterCount : Int32) (g_told : (Nat → Int32)) (g_toldCount : Int32) (g_refusals : (Nat → Int32)) (g_costs : (Nat → Int32)) (g_gains : (Nat → Int32)) (g_seed : Int32) (v1 : Int32) (v2 : Int32) (v3 : Int32) (r0 : Int64) (w_g_mind : BT) (h : zf_X1_weightInSteam g_now g_mind v1 v2 v3 = some (r0, w_g_mind)) : Cn l D cI yX1_weightInSteam wsX1_weightInSteam rm_X1_weightInSteam [.ref (ad 0), .int v1, .int v2, .int v3] (zb_G cI ad g_now g_mind g_taken g_isTaken g_letters g_letterCount g_told g_toldCount g_refusals g_costs g_gains g_seed) (some (.long r0)) (zb_G cI ad g_now w_g_mind g_taken g_isTaken g_letters g_letterCount g_told g_toldCount g_refusals g_costs g_gains g_seed) := by
  refine zb_ofW (cc := cX1_weightInSteam) (maxL := 8) (ret := (some .long)) (by decide) rfl (Nat.le_of_ble_eq_true rfl) ?_
  intro p e s m args below meth c A ls hx hb hr hml hts hown hlk hK hP hD hA hl
  have hS : va_S A s.heap s.heap [] := va_S.rf
  have hl : lv_has ls 8 [(0, .ref (ad 0)), (1, .int v1), (2, .int v2), (3, .int v3)] := hl
  unfold zf_X1_weightInSteam at h
  refine lv_aload_n hx hb dX1_weightInSteam_0 rfl (lv_at hl 0 rfl) ?_
  refine va_get (D := D) (ci := 1) (v := .ref (ad 8)) (C := RX1) (T := TX1) (N := 12) hx hb hts zi_X1_weightInSteam_X1 hown hK.1 hP 0 rfl rfl 1 (by decide) (hts _ zk_X1_weightInSteam_0) (fun _ h9 => h9) rfl dX1_weightInSteam_1 ?_
  refine lv_aload_n hx hb dX1_weightInSteam_4 rfl (lv_at hl 0 rfl) ?_
  refine va_get (D := D) (ci := 1) (v := .ref (ad 1)) (C := RX1) (T := TX1) (N := 12) hx hb hts zi_X1_weightInSteam_X1 hown hK.1 hP 0 rfl rfl 0 (by decide) (hts _ zk_X1_weightInSteam_1) (fun _ h9 => h9) rfl dX1_weightInSteam_5 ?_
  obtain ⟨n1, g2, h⟩ := bo1 h
  refine zb_callV (As := [.ref (ad 1)]) (rest := []) ⟨hx, hb, hml, hown, hts⟩ (zc_X0_becomes l D cI (ad 8) (ad 9) (ad 10) (ad 11) (ad 12) (ad 13) (ad 14) (ad 1) (ad 2) (ad 3) (ad 4) (ad 5) (ad 6) (ad 7) g_mind g_now n1 g2) (cwV 1 hts gX1_weightInSteam_X0_becomes rfl rfl rfl hd_X0_becomes ⟨Nat.le_of_ble_eq_true rfl, Nat.le_of_ble_eq_true rfl⟩) hK hP hD hS hA (zb_cGmn) (q0 := 0) rfl rfl rfl hl.1 rfl (Nat.le_of_ble_eq_true rfl) dX1_weightInSteam_8 ⟨Nat.le_refl _, Nat.le_refl _⟩ (fun H locs hP hD hS => ?_)
  refine lv_lconst (v := (1 : Int64)) hx hb dX1_weightInSteam_11 (by decide) ?_
  refine lv_lstore (lv' := [(4, .long (1 : Int64)), (0, .ref (ad 0)), (1, .int v1), (2, .int v2), (3, .int v3)]) hx hb dX1_weightInSteam_12 hl (by decide) rfl (fun ls hl => ?_)
  refine lv_iconst (v := (0 : Int32)) hx hb dX1_weightInSteam_14 (by decide) ?_
  refine lv_istore (lv' := [(6, .int (0 : Int32)), (4, .long (1 : Int64)), (0, .ref (ad 0)), (1, .int v1), (2, .int v2), (3, .int v3)]) hx hb dX1_weightInSteam_15 hl (by decide) rfl (fun ls hl => ?_)
  have lp6 : ∀ (fu6 : Nat) (x3 : Int64) (x4 : Int32) (x5 : BT) (H : Heap) (locs : List Loc) (hP : va_P D zb_cl (zb_G cI ad g_now x5 g_taken g_isTaken g_letters g_letterCount g_told g_toldCount g_refusals g_costs g_gains g_seed) H) (hD : va_D A (zb_G cI ad g_now x5 g_taken g_isTaken g_letters g_letterCount g_told g_toldCount g_refusals g_costs g_gains g_seed)) (hS : va_S A s.heap H locs) (ls : Array Slot) (hl : lv_has ls 8 [(0, .ref (ad 0)), (1, .int v1), (2, .int v2), (3, .int v3), (4, .long x3), (6, .int x4)]) (h : zl3 (zf_X1_weightInSteam_b17 v1 v2 v3) fu6 x3 x4 x5 = some (r0, w_g_mind)), W p l e rm_X1_weightInSteam s m args below meth c H locs 0 0 (zb_Q below D (some (.long r0)) (zb_G cI ad g_now w_g_mind g_taken g_isTaken g_letters g_letterCount g_told g_toldCount g_refusals g_costs g_gains g_seed) A args s) (F0 m 17 ls []) := by
    intro fu6
    induction fu6 with
    | zero => intro x3 x4 x5 H locs hP hD hS ls hl h; exact zb_no h
    | succ fu6 ih6 =>
      intro x3 x4 x5 H locs hP hD hS ls hl h
      replace h : zf_X1_weightInSteam_b17 v1 v2 v3 (zl3 (zf_X1_weightInSteam_b17 v1 v2 v3) fu6) x3 x4 x5 = some (r0, w_g_mind) := h
      unfold zf_X1_weightInSteam_b17 at h
      have j38 : ∀ (x7 : Int64) (x8 : Int32) (x9 : Int32) (x10 : BT) (H : Heap) (locs : List Loc) (hP : va_P D zb_cl (zb_G cI ad g_now x10 g_taken g_isTaken g_letters g_letterCount g_told g_toldCount g_refusals g_costs g_gains g_seed) H) (hD : va_D A (zb_G cI ad g_now x10 g_taken g_isTaken g_letters g_letterCount g_told g_toldCount g_refusals g_costs g_gains g_seed)) (hS : va_S A s.heap H locs) (ls : Array Slot) (hl : lv_has ls 8 [(0, .ref (ad 0)), (1, .int v1), (2, .int v2), (3, .int v3), (4, .long x7), (6, .int x8)]) (h : zf_X1_weightInSteam_j38 (zl3 (zf_X1_weightInSteam_b17 v1 v2 v3) fu6) v2 x7 x8 x9 x10 = some (r0, w_g_mind)), W p l e rm_X1_weightInSteam s m args below meth c H locs 0 0 (zb_Q below D (some (.long r0)) (zb_G cI ad g_now w_g_mind g_taken g_isTaken g_letters g_letterCount g_told g_toldCount g_refusals g_costs g_gains g_seed) A args s) (F0 m 38 ls [.int x9]) := by
        intro x7 x8 x9 x10 H locs hP hD hS ls hl h
        unfold zf_X1_weightInSteam_j38 at h
        refine lv_istore (lv' := [(7, .int x9), (0, .ref (ad 0)), (1, .int v1), (2, .int v2), (3, .int v3), (4, .long x7), (6, .int x8)]) hx hb dX1_weightInSteam_38 hl (by decide) rfl (fun ls hl => ?_)
        refine lv_aload_n hx hb dX1_weightInSteam_40 rfl (lv_at hl 1 rfl) ?_
        refine va_get (D := D) (ci := 1) (v := .ref (ad 8)) (C := RX1) (T := TX1) (N := 12) hx hb hts zi_X1_weightInSteam_X1 hown hK.1 hP 0 rfl rfl 1 (by decide) (hts _ zk_X1_weightInSteam_0) (fun _ h9 => h9) rfl dX1_weightInSteam_41 ?_
        refine lv_iconst (v := (1 : Int32)) hx hb dX1_weightInSteam_44 (by decide) ?_
        refine lv_iload hx hb dX1_weightInSteam_45 (lv_at hl 0 rfl) ?_
        refine lv_if_eq (tgt := 55) hx hb dX1_weightInSteam_47 (by decide) (fun c11 => ?_) (fun c11 => ?_)
        · replace h := it_t c11 h
          refine lv_iconst (v := (0 : Int32)) hx hb dX1_weightInSteam_55 (by decide) ?_
          obtain ⟨n12, g13, h⟩ := bo1 h
          refine zb_callV (As := [.int (1 : Int32), .int (0 : Int32)]) (rest := []) ⟨hx, hb, hml, hown, hts⟩ (zc_X0_goOn l D cI (ad 8) (ad 9) (ad 10) (ad 11) (ad 12) (ad 13) (ad 14) x10 (1 : Int32) (0 : Int32) n12 g13) (cwV 2 hts gX1_weightInSteam_X0_goOn rfl rfl rfl hd_X0_goOn ⟨Nat.le_of_ble_eq_true rfl, Nat.le_of_ble_eq_true rfl⟩) hK hP hD hS hA (zb_cGm) (q0 := 0) rfl rfl rfl hl.1 rfl (Nat.le_of_ble_eq_true rfl) dX1_weightInSteam_56 ⟨Nat.le_refl _, Nat.le_refl _⟩ (fun H locs hP hD hS => ?_)
          refine lv_iload hx hb dX1_weightInSteam_59 (lv_at hl 0 rfl) ?_
          refine lv_if_ne (tgt := 73) hx hb dX1_weightInSteam_61 (by decide) (fun c14 => ?_) (fun c14 => ?_)
          · replace h := it_f c14 h
            refine lv_iinc (v := (x8 + (1 : Int32))) (lv' := [(6, .int (x8 + (1 : Int32))), (7, .int x9), (0, .ref (ad 0)), (1, .int v1), (2, .int v2), (3, .int v3), (4, .long x7)]) hx hb dX1_weightInSteam_73 hl (k := 6) rfl (by first | rfl | decide) (by decide) rfl (fun ls hl => ?_)
            refine lv_goto (tgt := 17) hx hb dX1_weightInSteam_76 (by decide) ?_
            exact ih6 x7 (x8 + (1 : Int32)) n12 _ _ hP hD hS ls (lv_sub hl [2, 3, 4, 5, 6, 0] rfl) h
          · replace h := it_t c14 h
            refine lv_lload hx hb dX1_weightInSteam_64 (lv_at hl 5 rfl) ?_
            refine lv_iload_n hx hb dX1_weightInSteam_66 rfl (lv_at hl 3 rfl) ?_
            refine lv_iconst (v := (1 : Int32)) hx hb dX1_weightInSteam_67 (by decide) ?_
            refine lv_isub hx hb dX1_weightInSteam_68 ?_
            refine lv_i2l (v := (v2 - (1 : Int32)).toInt64) hx hb dX1_weightInSteam_69 rfl ?_
            refine lv_lmul hx hb dX1_weightInSteam_70 ?_
            refine lv_lstore (lv' := [(4, .long (x7 * (v2 - (1 : Int32)).toInt64)), (7, .int x9), (0, .ref (ad 0)), (1, .int v1), (2, .int v2), (3, .int v3), (6, .int x8)]) hx hb dX1_weightInSteam_71 hl (by decide) rfl (fun ls hl => ?_)
            refine lv_iinc (v := (x8 + (1 : Int32))) (lv' := [(6, .int (x8 + (1 : Int32))), (4, .long (x7 * (v2 - (1 : Int32)).toInt64)), (7, .int x9), (0, .ref (ad 0)), (1, .int v1), (2, .int v2), (3, .int v3)]) hx hb dX1_weightInSteam_73 hl (k := 6) rfl (by first | rfl | decide) (by decide) rfl (fun ls hl => ?_)
            refine lv_goto (tgt := 17) hx hb dX1_weightInSteam_76 (by decide) ?_
            exact ih6 (x7 * (v2 - (1 : Int32)).toInt64) (x8 + (1 : Int32)) n12 _ _ hP hD hS ls (lv_sub hl [3, 4, 5, 6, 1, 0] rfl) h
        · replace h := it_f c11 h
          refine lv_bipush (v := (15 : Int32)) hx hb dX1_weightInSteam_50 (by decide) ?_
          refine lv_goto (tgt := 56) hx hb dX1_weightInSteam_52 (by decide) ?_
          obtain ⟨n15, g16, h⟩ := bo1 h
          refine zb_callV (As := [.int (1 : Int32), .int (15 : Int32)]) (rest := []) ⟨hx, hb, hml, hown, hts⟩ (zc_X0_goOn l D cI (ad 8) (ad 9) (ad 10) (ad 11) (ad 12) (ad 13) (ad 14) x10 (1 : Int32) (15 : Int32) n15 g16) (cwV 2 hts gX1_weightInSteam_X0_goOn rfl rfl rfl hd_X0_goOn ⟨Nat.le_of_ble_eq_true rfl, Nat.le_of_ble_eq_true rfl⟩) hK hP hD hS hA (zb_cGm) (q0 := 0) rfl rfl rfl hl.1 rfl (Nat.le_of_ble_eq_true rfl) dX1_weightInSteam_56 ⟨Nat.le_refl _, Nat.le_refl _⟩ (fun H locs hP hD hS => ?_)
          refine lv_iload hx hb dX1_weightInSteam_59 (lv_at hl 0 rfl) ?_
          refine lv_if_ne (tgt := 73) hx hb dX1_weightInSteam_61 (by decide) (fun c17 => ?_) (fun c17 => ?_)
          · replace h := it_f c17 h
            refine lv_iinc (v := (x8 + (1 : Int32))) (lv' := [(6, .int (x8 + (1 : Int32))), (7, .int x9), (0, .ref (ad 0)), (1, .int v1), (2, .int v2), (3, .int v3), (4, .long x7)]) hx hb dX1_weightInSteam_73 hl (k := 6) rfl (by first | rfl | decide) (by decide) rfl (fun ls hl => ?_)
            refine lv_goto (tgt := 17) hx hb dX1_weightInSteam_76 (by decide) ?_
            exact ih6 x7 (x8 + (1 : Int32)) n15 _ _ hP hD hS ls (lv_sub hl [2, 3, 4, 5, 6, 0] rfl) h
          · replace h := it_t c17 h
            refine lv_lload hx hb dX1_weightInSteam_64 (lv_at hl 5 rfl) ?_
            refine lv_iload_n hx hb dX1_weightInSteam_66 rfl (lv_at hl 3 rfl) ?_
            refine lv_iconst (v := (1 : Int32)) hx hb dX1_weightInSteam_67 (by decide) ?_
            refine lv_isub hx hb dX1_weightInSteam_68 ?_
            refine lv_i2l (v := (v2 - (1 : Int32)).toInt64) hx hb dX1_weightInSteam_69 rfl ?_
            refine lv_lmul hx hb dX1_weightInSteam_70 ?_
            refine lv_lstore (lv' := [(4, .long (x7 * (v2 - (1 : Int32)).toInt64)), (7, .int x9), (0, .ref (ad 0)), (1, .int v1), (2, .int v2), (3, .int v3), (6, .int x8)]) hx hb dX1_weightInSteam_71 hl (by decide) rfl (fun ls hl => ?_)
            refine lv_iinc (v := (x8 + (1 : Int32))) (lv' := [(6, .int (x8 + (1 : Int32))), (4, .long (x7 * (v2 - (1 : Int32)).toInt64)), (7, .int x9), (0, .ref (ad 0)), (1, .int v1), (2, .int v2), (3, .int v3)]) hx hb dX1_weightInSteam_73 hl (k := 6) rfl (by first | rfl | decide) (by decide) rfl (fun ls hl => ?_)
            refine lv_goto (tgt := 17) hx hb dX1_weightInSteam_76 (by decide) ?_
            exact ih6 (x7 * (v2 - (1 : Int32)).toInt64) (x8 + (1 : Int32)) n15 _ _ hP hD hS ls (lv_sub hl [3, 4, 5, 6, 1, 0] rfl) h
      refine lv_iload hx hb dX1_weightInSteam_17 (lv_at hl 5 rfl) ?_
      refine lv_iload_n hx hb dX1_weightInSteam_19 rfl (lv_at hl 1 rfl) ?_
      refine lv_icmp_ge (tgt := 79) hx hb dX1_weightInSteam_20 (by decide) (fun c18 => ?_) (fun c18 => ?_)
      · replace h := it_t c18 h
        refine lv_lload hx hb dX1_weightInSteam_79 (lv_at hl 4 rfl) ?_
        obtain ⟨rfl, rfl⟩ := re2 h
        exact zb_lret hx hb hr hlk hP hS dX1_weightInSteam_81
      · replace h := it_f c18 h
        refine lv_iload_n hx hb dX1_weightInSteam_23 rfl (lv_at hl 3 rfl) ?_
        refine lv_iload hx hb dX1_weightInSteam_24 (lv_at hl 5 rfl) ?_
        refine lv_ishr hx hb dX1_weightInSteam_26 ?_
        refine lv_iconst (v := (1 : Int32)) hx hb dX1_weightInSteam_27 (by decide) ?_
        refine lv_iand hx hb dX1_weightInSteam_28 ?_
        refine lv_iconst (v := (1 : Int32)) hx hb dX1_weightInSteam_29 (by decide) ?_
        refine lv_icmp_ne (tgt := 37) hx hb dX1_weightInSteam_30 (by decide) (fun c19 => ?_) (fun c19 => ?_)
        · replace h := it_f c19 h
          refine lv_iconst (v := (0 : Int32)) hx hb dX1_weightInSteam_37 (by decide) ?_
          exact j38 x3 x4 (0 : Int32) x5 _ _ hP hD hS ls (lv_sub hl [0, 1, 2, 3, 4, 5] rfl) h
        · replace h := it_t c19 h
          refine lv_iconst (v := (1 : Int32)) hx hb dX1_weightInSteam_33 (by decide) ?_
          refine lv_goto (tgt := 38) hx hb dX1_weightInSteam_34 (by decide) ?_
          exact j38 x3 x4 (1 : Int32) x5 _ _ hP hD hS ls (lv_sub hl [0, 1, 2, 3, 4, 5] rfl) h
  exact lp6 zb_FU (1 : Int64) (0 : Int32) n1 _ _ hP hD hS ls (lv_sub hl [2, 3, 4, 5, 1, 0] rfl) h
abbrev rm_X1_steam : Room := { frames := 5, cells := 0, slots := 0, locals := 117 }
theorem hd_X1_steam : yX1_steam.cls = RX1 ∧ yX1_steam.cls ≠ "java/lang/invoke/MethodHandle" ∧ yX1_steam.cls ≠ "java/lang/invoke/VarHandle" ∧ (parseMethodDescriptor yX1_steam.desc).map (fun d => d.parameters.length) = some 5 := by decide +kernel
theorem zi_X1_steam_X1 : ∀ w ∈ wsX10, w ∈ wsX1_steam := fun _ h => List.mem_cons_of_mem _ (List.mem_append_left _ (List.mem_append_right _ h))
theorem zk_X1_steam_0 : Cond.fieldLink RX1 10 "GroutingIsFollowed" "now" "LGroutingIsFollowed$Bath;" ∈ wsX1_steam := by decide +kernel
theorem zk_X1_steam_1 : Cond.fieldLink RX1 16 "GroutingIsFollowed" "mind" "LGroutingIsFollowed$Bath;" ∈ wsX1_steam := by decide +kernel
set_option maxHeartbeats 4000000 in
set_option maxRecDepth 100000 in
theorem zc_X1_steam (l : Launch) (D : va_G) (cI : ClassId) (ad : Nat → Nat) (g_now : BT) (g_mind : BT) (g_taken : BT) (g_isTaken : Int32) (g_letters : (Nat → Int32)) (g_letterCount : Int32) (g_told : (Nat → Int32)) (g_toldCount : Int32) (g_refusals : (Nat → Int32)) (g_costs : (Nat → Int32)) (g_gains : (Nat → Int32)) (g_seed : Int32) (v1 : Int32) (v2 : Int32) (v3 : Int32) (v4 : Int32) (v5 : Int32) (r0 : Int64) (w_g_mind : BT) (w_g_refusals : (Nat → Int32)) (h : zf_X1_steam g_now g_mind g_refusals v1 v2 v3 v4 v5 = some (r0, w_g_mind, w_g_refusals)) : Cn l D cI yX1_steam wsX1_steam rm_X1_steam [.ref (ad 0), .int v1, .int v2, .int v3, .int v4, .int v5] (zb_G cI ad g_now g_mind g_taken g_isTaken g_letters g_letterCount g_told g_toldCount g_refusals g_costs g_gains g_seed) (some (.long r0)) (zb_G cI ad g_now w_g_mind g_taken g_isTaken g_letters g_letterCount g_told g_toldCount w_g_refusals g_costs g_gains g_seed) := by
  refine zb_ofW (cc := cX1_steam) (maxL := 11) (ret := (some .long)) (by decide) rfl (Nat.le_of_ble_eq_true rfl) ?_
  intro p e s m args below meth c A ls hx hb hr hml hts hown hlk hK hP hD hA hl
  have hS : va_S A s.heap s.heap [] := va_S.rf
  have hl : lv_has ls 11 [(0, .ref (ad 0)), (1, .int v1), (2, .int v2), (3, .int v3), (4, .int v4), (5, .int v5)] := hl
  unfold zf_X1_steam at h
  refine lv_aload_n hx hb dX1_steam_0 rfl (lv_at hl 0 rfl) ?_
  refine va_get (D := D) (ci := 1) (v := .ref (ad 1)) (C := RX1) (T := TX1) (N := 12) hx hb hts zi_X1_steam_X1 hown hK.1 hP 0 rfl rfl 0 (by decide) (hts _ zk_X1_steam_0) (fun _ h9 => h9) rfl dX1_steam_1 ?_
  refine lv_iload_n hx hb dX1_steam_4 rfl (lv_at hl 1 rfl) ?_
  obtain ⟨r1, g2, h⟩ := bo1 h
  refine zb_callV (As := [.int v1]) (rest := []) ⟨hx, hb, hml, hown, hts⟩ (zc_X0_has l D cI (ad 1) (ad 2) (ad 3) (ad 4) (ad 5) (ad 6) (ad 7) g_now v1 r1 g2) (cwV 1 hts gX1_steam_X0_has rfl rfl rfl hd_X0_has ⟨Nat.le_of_ble_eq_true rfl, Nat.le_of_ble_eq_true rfl⟩) hK hP hD hS hA (zb_cGn) (q0 := 0) rfl rfl rfl hl.1 rfl (Nat.le_of_ble_eq_true rfl) dX1_steam_5 ⟨Nat.le_refl _, Nat.le_refl _⟩ (fun H locs hP hD hS => ?_)
  refine lv_if_eq (tgt := 18) hx hb dX1_steam_8 (by decide) (fun c3 => ?_) (fun c3 => ?_)
  · replace h := it_t c3 h
    refine lv_aload_n hx hb dX1_steam_18 rfl (lv_at hl 0 rfl) ?_
    refine lv_iconst (v := ((-1) : Int32)) hx hb dX1_steam_19 (by decide) ?_
    obtain ⟨r4, n5, g6, h⟩ := bo2 h
    refine zb_callV (As := [.int ((-1) : Int32)]) (rest := []) ⟨hx, hb, hml, hown, hts⟩ (zc_X1_refuseLong l D cI ad g_now g_mind g_taken g_isTaken g_letters g_letterCount g_told g_toldCount g_refusals g_costs g_gains g_seed ((-1) : Int32) r4 n5 g6) (cwV 1 hts gX1_steam_X1_refuseLong rfl rfl rfl hd_X1_refuseLong ⟨Nat.le_of_ble_eq_true rfl, Nat.le_of_ble_eq_true rfl⟩) hK hP hD hS hA (zb_sG) (q0 := 0) rfl rfl rfl hl.1 rfl (Nat.le_of_ble_eq_true rfl) dX1_steam_20 ⟨Nat.le_refl _, Nat.le_refl _⟩ (fun H locs hP hD hS => ?_)
    obtain ⟨rfl, rfl, rfl⟩ := re3 h
    exact zb_lret hx hb hr hlk hP hS dX1_steam_23
  · replace h := it_f c3 h
    refine lv_iload_n hx hb dX1_steam_11 rfl (lv_at hl 2 rfl) ?_
    obtain ⟨r7, g8, h⟩ := bo1 h
    refine zb_callS (As := [.int v2]) (rest := []) ⟨hx, hb, hml, hown, hts⟩ (zc_X1_isNode l D cI v2 r7 g8) (va_cwS 1 hts gX1_steam_X1_isNode rfl rfl rfl hd_X1_isNode.2 ⟨Nat.le_of_ble_eq_true rfl, Nat.le_of_ble_eq_true rfl⟩) hK hP hD hS hA (zb_none _) rfl hl.1 rfl (Nat.le_of_ble_eq_true rfl) dX1_steam_12 ⟨Nat.le_refl _, Nat.le_refl _⟩ (fun H locs hP hD hS => ?_)
    refine lv_if_ne (tgt := 24) hx hb dX1_steam_15 (by decide) (fun c9 => ?_) (fun c9 => ?_)
    · replace h := it_f c9 h
      refine lv_iload_n hx hb dX1_steam_24 rfl (lv_at hl 3 rfl) ?_
      refine lv_if_lt (tgt := 34) hx hb dX1_steam_25 (by decide) (fun c10 => ?_) (fun c10 => ?_)
      · replace h := it_t c10 h
        refine lv_aload_n hx hb dX1_steam_34 rfl (lv_at hl 0 rfl) ?_
        refine lv_bipush (v := ((-4) : Int32)) hx hb dX1_steam_35 (by decide) ?_
        obtain ⟨r11, n12, g13, h⟩ := bo2 h
        refine zb_callV (As := [.int ((-4) : Int32)]) (rest := []) ⟨hx, hb, hml, hown, hts⟩ (zc_X1_refuseLong l D cI ad g_now g_mind g_taken g_isTaken g_letters g_letterCount g_told g_toldCount g_refusals g_costs g_gains g_seed ((-4) : Int32) r11 n12 g13) (cwV 1 hts gX1_steam_X1_refuseLong rfl rfl rfl hd_X1_refuseLong ⟨Nat.le_of_ble_eq_true rfl, Nat.le_of_ble_eq_true rfl⟩) hK hP hD hS hA (zb_sG) (q0 := 0) rfl rfl rfl hl.1 rfl (Nat.le_of_ble_eq_true rfl) dX1_steam_37 ⟨Nat.le_refl _, Nat.le_refl _⟩ (fun H locs hP hD hS => ?_)
        obtain ⟨rfl, rfl, rfl⟩ := re3 h
        exact zb_lret hx hb hr hlk hP hS dX1_steam_40
      · replace h := it_f c10 h
        refine lv_iload hx hb dX1_steam_28 (lv_at hl 4 rfl) ?_
        refine lv_iconst (v := (2 : Int32)) hx hb dX1_steam_30 (by decide) ?_
        refine lv_icmp_ge (tgt := 41) hx hb dX1_steam_31 (by decide) (fun c14 => ?_) (fun c14 => ?_)
        · replace h := it_t c14 h
          refine lv_iload_n hx hb dX1_steam_41 rfl (lv_at hl 3 rfl) ?_
          refine lv_bipush (v := (7 : Int32)) hx hb dX1_steam_42 (by decide) ?_
          refine lv_icmp_gt (tgt := 54) hx hb dX1_steam_44 (by decide) (fun c15 => ?_) (fun c15 => ?_)
          · replace h := it_t c15 h
            refine lv_aload_n hx hb dX1_steam_54 rfl (lv_at hl 0 rfl) ?_
            refine lv_bipush (v := ((-6) : Int32)) hx hb dX1_steam_55 (by decide) ?_
            obtain ⟨r16, n17, g18, h⟩ := bo2 h
            refine zb_callV (As := [.int ((-6) : Int32)]) (rest := []) ⟨hx, hb, hml, hown, hts⟩ (zc_X1_refuseLong l D cI ad g_now g_mind g_taken g_isTaken g_letters g_letterCount g_told g_toldCount g_refusals g_costs g_gains g_seed ((-6) : Int32) r16 n17 g18) (cwV 1 hts gX1_steam_X1_refuseLong rfl rfl rfl hd_X1_refuseLong ⟨Nat.le_of_ble_eq_true rfl, Nat.le_of_ble_eq_true rfl⟩) hK hP hD hS hA (zb_sG) (q0 := 0) rfl rfl rfl hl.1 rfl (Nat.le_of_ble_eq_true rfl) dX1_steam_57 ⟨Nat.le_refl _, Nat.le_refl _⟩ (fun H locs hP hD hS => ?_)
            obtain ⟨rfl, rfl, rfl⟩ := re3 h
            exact zb_lret hx hb hr hlk hP hS dX1_steam_60
          · replace h := it_f c15 h
            refine lv_iload hx hb dX1_steam_47 (lv_at hl 4 rfl) ?_
            refine lv_bipush (v := (20 : Int32)) hx hb dX1_steam_49 (by decide) ?_
            refine lv_icmp_le (tgt := 61) hx hb dX1_steam_51 (by decide) (fun c19 => ?_) (fun c19 => ?_)
            · replace h := it_t c19 h
              refine lv_iload hx hb dX1_steam_61 (lv_at hl 5 rfl) ?_
              refine lv_if_lt (tgt := 72) hx hb dX1_steam_63 (by decide) (fun c20 => ?_) (fun c20 => ?_)
              · replace h := it_t c20 h
                refine lv_aload_n hx hb dX1_steam_72 rfl (lv_at hl 0 rfl) ?_
                refine lv_bipush (v := ((-2) : Int32)) hx hb dX1_steam_73 (by decide) ?_
                obtain ⟨r21, n22, g23, h⟩ := bo2 h
                refine zb_callV (As := [.int ((-2) : Int32)]) (rest := []) ⟨hx, hb, hml, hown, hts⟩ (zc_X1_refuseLong l D cI ad g_now g_mind g_taken g_isTaken g_letters g_letterCount g_told g_toldCount g_refusals g_costs g_gains g_seed ((-2) : Int32) r21 n22 g23) (cwV 1 hts gX1_steam_X1_refuseLong rfl rfl rfl hd_X1_refuseLong ⟨Nat.le_of_ble_eq_true rfl, Nat.le_of_ble_eq_true rfl⟩) hK hP hD hS hA (zb_sG) (q0 := 0) rfl rfl rfl hl.1 rfl (Nat.le_of_ble_eq_true rfl) dX1_steam_75 ⟨Nat.le_refl _, Nat.le_refl _⟩ (fun H locs hP hD hS => ?_)
                obtain ⟨rfl, rfl, rfl⟩ := re3 h
                exact zb_lret hx hb hr hlk hP hS dX1_steam_78
              · replace h := it_f c20 h
                refine lv_iload hx hb dX1_steam_66 (lv_at hl 5 rfl) ?_
                refine lv_iconst (v := (1 : Int32)) hx hb dX1_steam_68 (by decide) ?_
                refine lv_icmp_le (tgt := 79) hx hb dX1_steam_69 (by decide) (fun c24 => ?_) (fun c24 => ?_)
                · replace h := it_t c24 h
                  refine lv_lconst (v := (0 : Int64)) hx hb dX1_steam_79 (by decide) ?_
                  refine lv_lstore (lv' := [(6, .long (0 : Int64)), (0, .ref (ad 0)), (1, .int v1), (2, .int v2), (3, .int v3), (4, .int v4), (5, .int v5)]) hx hb dX1_steam_80 hl (by decide) rfl (fun ls hl => ?_)
                  refine lv_iconst (v := (0 : Int32)) hx hb dX1_steam_82 (by decide) ?_
                  refine lv_istore (lv' := [(8, .int (0 : Int32)), (6, .long (0 : Int64)), (0, .ref (ad 0)), (1, .int v1), (2, .int v2), (3, .int v3), (4, .int v4), (5, .int v5)]) hx hb dX1_steam_83 hl (by decide) rfl (fun ls hl => ?_)
                  have lp28 : ∀ (fu28 : Nat) (x25 : Int64) (x26 : Int32) (x27 : BT) (H : Heap) (locs : List Loc) (hP : va_P D zb_cl (zb_G cI ad g_now x27 g_taken g_isTaken g_letters g_letterCount g_told g_toldCount g_refusals g_costs g_gains g_seed) H) (hD : va_D A (zb_G cI ad g_now x27 g_taken g_isTaken g_letters g_letterCount g_told g_toldCount g_refusals g_costs g_gains g_seed)) (hS : va_S A s.heap H locs) (ls : Array Slot) (hl : lv_has ls 11 [(0, .ref (ad 0)), (1, .int v1), (2, .int v2), (3, .int v3), (4, .int v4), (5, .int v5), (6, .long x25), (8, .int x26)]) (h : zl3 (zf_X1_steam_b85 v1 v2 v3 v4 v5 g_now g_refusals) fu28 x25 x26 x27 = some (r0, w_g_mind, w_g_refusals)), W p l e rm_X1_steam s m args below meth c H locs 0 0 (zb_Q below D (some (.long r0)) (zb_G cI ad g_now w_g_mind g_taken g_isTaken g_letters g_letterCount g_told g_toldCount w_g_refusals g_costs g_gains g_seed) A args s) (F0 m 85 ls []) := by
                    intro fu28
                    induction fu28 with
                    | zero => intro x25 x26 x27 H locs hP hD hS ls hl h; exact zb_no h
                    | succ fu28 ih28 =>
                      intro x25 x26 x27 H locs hP hD hS ls hl h
                      replace h : zf_X1_steam_b85 v1 v2 v3 v4 v5 g_now g_refusals (zl3 (zf_X1_steam_b85 v1 v2 v3 v4 v5 g_now g_refusals) fu28) x25 x26 x27 = some (r0, w_g_mind, w_g_refusals) := h
                      unfold zf_X1_steam_b85 at h
                      refine lv_iload hx hb dX1_steam_85 (lv_at hl 7 rfl) ?_
                      refine lv_iconst (v := (1 : Int32)) hx hb dX1_steam_87 (by decide) ?_
                      refine lv_iload_n hx hb dX1_steam_88 rfl (lv_at hl 3 rfl) ?_
                      refine lv_ishl hx hb dX1_steam_89 ?_
                      refine lv_icmp_ge (tgt := 129) hx hb dX1_steam_90 (by decide) (fun c29 => ?_) (fun c29 => ?_)
                      · replace h := it_t c29 h
                        refine lv_lconst (v := (1 : Int64)) hx hb dX1_steam_129 (by decide) ?_
                        refine lv_lstore (lv' := [(8, .long (1 : Int64)), (0, .ref (ad 0)), (1, .int v1), (2, .int v2), (3, .int v3), (4, .int v4), (5, .int v5), (6, .long x25)]) hx hb dX1_steam_130 hl (by decide) rfl (fun ls hl => ?_)
                        refine lv_iconst (v := (0 : Int32)) hx hb dX1_steam_132 (by decide) ?_
                        refine lv_istore (lv' := [(10, .int (0 : Int32)), (8, .long (1 : Int64)), (0, .ref (ad 0)), (1, .int v1), (2, .int v2), (3, .int v3), (4, .int v4), (5, .int v5), (6, .long x25)]) hx hb dX1_steam_133 hl (by decide) rfl (fun ls hl => ?_)
                        have lp32 : ∀ (fu32 : Nat) (x30 : Int64) (x31 : Int32) (H : Heap) (locs : List Loc) (hP : va_P D zb_cl (zb_G cI ad g_now x27 g_taken g_isTaken g_letters g_letterCount g_told g_toldCount g_refusals g_costs g_gains g_seed) H) (hD : va_D A (zb_G cI ad g_now x27 g_taken g_isTaken g_letters g_letterCount g_told g_toldCount g_refusals g_costs g_gains g_seed)) (hS : va_S A s.heap H locs) (ls : Array Slot) (hl : lv_has ls 11 [(3, .int v3), (4, .int v4), (5, .int v5), (6, .long x25), (8, .long x30), (10, .int x31)]) (h : zl2 (zf_X1_steam_b135 v3 v4 v5 x25 x27 g_refusals) fu32 x30 x31 = some (r0, w_g_mind, w_g_refusals)), W p l e rm_X1_steam s m args below meth c H locs 0 0 (zb_Q below D (some (.long r0)) (zb_G cI ad g_now w_g_mind g_taken g_isTaken g_letters g_letterCount g_told g_toldCount w_g_refusals g_costs g_gains g_seed) A args s) (F0 m 135 ls []) := by
                          intro fu32
                          induction fu32 with
                          | zero => intro x30 x31 H locs hP hD hS ls hl h; exact zb_no h
                          | succ fu32 ih32 =>
                            intro x30 x31 H locs hP hD hS ls hl h
                            replace h : zf_X1_steam_b135 v3 v4 v5 x25 x27 g_refusals (zl2 (zf_X1_steam_b135 v3 v4 v5 x25 x27 g_refusals) fu32) x30 x31 = some (r0, w_g_mind, w_g_refusals) := h
                            unfold zf_X1_steam_b135 at h
                            refine lv_iload hx hb dX1_steam_135 (lv_at hl 5 rfl) ?_
                            refine lv_iload_n hx hb dX1_steam_137 rfl (lv_at hl 0 rfl) ?_
                            refine lv_icmp_ge (tgt := 155) hx hb dX1_steam_138 (by decide) (fun c33 => ?_) (fun c33 => ?_)
                            · replace h := it_t c33 h
                              refine lv_lload hx hb dX1_steam_155 (lv_at hl 3 rfl) ?_
                              refine lv_lload hx hb dX1_steam_157 (lv_at hl 4 rfl) ?_
                              refine lv_iload hx hb dX1_steam_159 (lv_at hl 2 rfl) ?_
                              obtain ⟨r34, g35, h⟩ := bo1 h
                              refine zb_callS (As := [.long x25, .long x30, .int v5]) (rest := []) ⟨hx, hb, hml, hown, hts⟩ (zc_X1_partOf l D cI x25 x30 v5 r34 g35) (va_cwS 3 hts gX1_steam_X1_partOf rfl rfl rfl hd_X1_partOf.2 ⟨Nat.le_of_ble_eq_true rfl, Nat.le_of_ble_eq_true rfl⟩) hK hP hD hS hA (zb_none _) rfl hl.1 rfl (Nat.le_of_ble_eq_true rfl) dX1_steam_161 ⟨Nat.le_refl _, Nat.le_refl _⟩ (fun H locs hP hD hS => ?_)
                              obtain ⟨rfl, rfl, rfl⟩ := re3 h
                              exact zb_lret hx hb hr hlk hP hS dX1_steam_164
                            · replace h := it_f c33 h
                              refine lv_lload hx hb dX1_steam_141 (lv_at hl 4 rfl) ?_
                              refine lv_iload hx hb dX1_steam_143 (lv_at hl 1 rfl) ?_
                              refine lv_i2l (v := v4.toInt64) hx hb dX1_steam_145 rfl ?_
                              refine lv_lmul hx hb dX1_steam_146 ?_
                              refine lv_lstore (lv' := [(8, .long (x30 * v4.toInt64)), (3, .int v3), (4, .int v4), (5, .int v5), (6, .long x25), (10, .int x31)]) hx hb dX1_steam_147 hl (by decide) rfl (fun ls hl => ?_)
                              refine lv_iinc (v := (x31 + (1 : Int32))) (lv' := [(10, .int (x31 + (1 : Int32))), (8, .long (x30 * v4.toInt64)), (3, .int v3), (4, .int v4), (5, .int v5), (6, .long x25)]) hx hb dX1_steam_149 hl (k := 5) rfl (by first | rfl | decide) (by decide) rfl (fun ls hl => ?_)
                              refine lv_goto (tgt := 135) hx hb dX1_steam_152 (by decide) ?_
                              exact ih32 (x30 * v4.toInt64) (x31 + (1 : Int32)) _ _ hP hD hS ls (lv_sub hl [2, 3, 4, 5, 1, 0] rfl) h
                        exact lp32 zb_FU (1 : Int64) (0 : Int32) _ _ hP hD hS ls (lv_sub hl [5, 6, 7, 8, 1, 0] rfl) h
                      · replace h := it_f c29 h
                        refine lv_aload_n hx hb dX1_steam_93 rfl (lv_at hl 0 rfl) ?_
                        refine lv_iload_n hx hb dX1_steam_94 rfl (lv_at hl 3 rfl) ?_
                        refine lv_iload hx hb dX1_steam_95 (lv_at hl 4 rfl) ?_
                        refine lv_iload hx hb dX1_steam_97 (lv_at hl 7 rfl) ?_
                        obtain ⟨r36, n37, g38, h⟩ := bo2 h
                        refine zb_callV (As := [.int v3, .int v4, .int x26]) (rest := []) ⟨hx, hb, hml, hown, hts⟩ (zc_X1_weightInSteam l D cI ad g_now x27 g_taken g_isTaken g_letters g_letterCount g_told g_toldCount g_refusals g_costs g_gains g_seed v3 v4 x26 r36 n37 g38) (cwV 3 hts gX1_steam_X1_weightInSteam rfl rfl rfl hd_X1_weightInSteam ⟨Nat.le_of_ble_eq_true rfl, Nat.le_of_ble_eq_true rfl⟩) hK hP hD hS hA (zb_sG) (q0 := 0) rfl rfl rfl hl.1 rfl (Nat.le_of_ble_eq_true rfl) dX1_steam_99 ⟨Nat.le_refl _, Nat.le_refl _⟩ (fun H locs hP hD hS => ?_)
                        refine lv_lstore (lv' := [(9, .long r36), (0, .ref (ad 0)), (1, .int v1), (2, .int v2), (3, .int v3), (4, .int v4), (5, .int v5), (6, .long x25), (8, .int x26)]) hx hb dX1_steam_102 hl (by decide) rfl (fun ls hl => ?_)
                        refine lv_aload_n hx hb dX1_steam_104 rfl (lv_at hl 1 rfl) ?_
                        refine va_get (D := D) (ci := 1) (v := .ref (ad 8)) (C := RX1) (T := TX1) (N := 12) hx hb hts zi_X1_steam_X1 hown hK.1 hP 0 rfl rfl 1 (by decide) (hts _ zk_X1_steam_1) (fun _ h9 => h9) rfl dX1_steam_105 ?_
                        refine lv_iload_n hx hb dX1_steam_108 rfl (lv_at hl 2 rfl) ?_
                        obtain ⟨r39, g40, h⟩ := bo1 h
                        refine zb_callV (As := [.int v1]) (rest := []) ⟨hx, hb, hml, hown, hts⟩ (zc_X0_placeOf l D cI (ad 8) (ad 9) (ad 10) (ad 11) (ad 12) (ad 13) (ad 14) n37 v1 r39 g40) (cwV 1 hts gX1_steam_X0_placeOf rfl rfl rfl hd_X0_placeOf ⟨Nat.le_of_ble_eq_true rfl, Nat.le_of_ble_eq_true rfl⟩) hK hP hD hS hA (zb_cGm) (q0 := 0) rfl rfl rfl hl.1 rfl (Nat.le_of_ble_eq_true rfl) dX1_steam_109 ⟨Nat.le_refl _, Nat.le_refl _⟩ (fun H locs hP hD hS => ?_)
                        refine lv_iload_n hx hb dX1_steam_112 rfl (lv_at hl 3 rfl) ?_
                        refine lv_icmp_ne (tgt := 123) hx hb dX1_steam_113 (by decide) (fun c41 => ?_) (fun c41 => ?_)
                        · replace h := it_f c41 h
                          refine lv_iinc (v := (x26 + (1 : Int32))) (lv' := [(8, .int (x26 + (1 : Int32))), (9, .long r36), (0, .ref (ad 0)), (1, .int v1), (2, .int v2), (3, .int v3), (4, .int v4), (5, .int v5), (6, .long x25)]) hx hb dX1_steam_123 hl (k := 8) rfl (by first | rfl | decide) (by decide) rfl (fun ls hl => ?_)
                          refine lv_goto (tgt := 85) hx hb dX1_steam_126 (by decide) ?_
                          exact ih28 x25 (x26 + (1 : Int32)) n37 _ _ hP hD hS ls (lv_sub hl [2, 3, 4, 5, 6, 7, 8, 0] rfl) h
                        · replace h := it_t c41 h
                          refine lv_lload hx hb dX1_steam_116 (lv_at hl 7 rfl) ?_
                          refine lv_lload hx hb dX1_steam_118 (lv_at hl 0 rfl) ?_
                          refine lv_ladd hx hb dX1_steam_120 ?_
                          refine lv_lstore (lv' := [(6, .long (x25 + r36)), (9, .long r36), (0, .ref (ad 0)), (1, .int v1), (2, .int v2), (3, .int v3), (4, .int v4), (5, .int v5), (8, .int x26)]) hx hb dX1_steam_121 hl (by decide) rfl (fun ls hl => ?_)
                          refine lv_iinc (v := (x26 + (1 : Int32))) (lv' := [(8, .int (x26 + (1 : Int32))), (6, .long (x25 + r36)), (9, .long r36), (0, .ref (ad 0)), (1, .int v1), (2, .int v2), (3, .int v3), (4, .int v4), (5, .int v5)]) hx hb dX1_steam_123 hl (k := 8) rfl (by first | rfl | decide) (by decide) rfl (fun ls hl => ?_)
                          refine lv_goto (tgt := 85) hx hb dX1_steam_126 (by decide) ?_
                          exact ih28 (x25 + r36) (x26 + (1 : Int32)) n37 _ _ hP hD hS ls (lv_sub hl [3, 4, 5, 6, 7, 8, 1, 0] rfl) h
                  exact lp28 zb_FU (0 : Int64) (0 : Int32) g_mind _ _ hP hD hS ls (lv_sub hl [2, 3, 4, 5, 6, 7, 1, 0] rfl) h
                · replace h := it_f c24 h
                  refine lv_aload_n hx hb dX1_steam_72 rfl (lv_at hl 0 rfl) ?_
                  refine lv_bipush (v := ((-2) : Int32)) hx hb dX1_steam_73 (by decide) ?_
                  obtain ⟨r42, n43, g44, h⟩ := bo2 h
                  refine zb_callV (As := [.int ((-2) : Int32)]) (rest := []) ⟨hx, hb, hml, hown, hts⟩ (zc_X1_refuseLong l D cI ad g_now g_mind g_taken g_isTaken g_letters g_letterCount g_told g_toldCount g_refusals g_costs g_gains g_seed ((-2) : Int32) r42 n43 g44) (cwV 1 hts gX1_steam_X1_refuseLong rfl rfl rfl hd_X1_refuseLong ⟨Nat.le_of_ble_eq_true rfl, Nat.le_of_ble_eq_true rfl⟩) hK hP hD hS hA (zb_sG) (q0 := 0) rfl rfl rfl hl.1 rfl (Nat.le_of_ble_eq_true rfl) dX1_steam_75 ⟨Nat.le_refl _, Nat.le_refl _⟩ (fun H locs hP hD hS => ?_)
                  obtain ⟨rfl, rfl, rfl⟩ := re3 h
                  exact zb_lret hx hb hr hlk hP hS dX1_steam_78
            · replace h := it_f c19 h
              refine lv_aload_n hx hb dX1_steam_54 rfl (lv_at hl 0 rfl) ?_
              refine lv_bipush (v := ((-6) : Int32)) hx hb dX1_steam_55 (by decide) ?_
              obtain ⟨r45, n46, g47, h⟩ := bo2 h
              refine zb_callV (As := [.int ((-6) : Int32)]) (rest := []) ⟨hx, hb, hml, hown, hts⟩ (zc_X1_refuseLong l D cI ad g_now g_mind g_taken g_isTaken g_letters g_letterCount g_told g_toldCount g_refusals g_costs g_gains g_seed ((-6) : Int32) r45 n46 g47) (cwV 1 hts gX1_steam_X1_refuseLong rfl rfl rfl hd_X1_refuseLong ⟨Nat.le_of_ble_eq_true rfl, Nat.le_of_ble_eq_true rfl⟩) hK hP hD hS hA (zb_sG) (q0 := 0) rfl rfl rfl hl.1 rfl (Nat.le_of_ble_eq_true rfl) dX1_steam_57 ⟨Nat.le_refl _, Nat.le_refl _⟩ (fun H locs hP hD hS => ?_)
              obtain ⟨rfl, rfl, rfl⟩ := re3 h
              exact zb_lret hx hb hr hlk hP hS dX1_steam_60
        · replace h := it_f c14 h
          refine lv_aload_n hx hb dX1_steam_34 rfl (lv_at hl 0 rfl) ?_
          refine lv_bipush (v := ((-4) : Int32)) hx hb dX1_steam_35 (by decide) ?_
          obtain ⟨r48, n49, g50, h⟩ := bo2 h
          refine zb_callV (As := [.int ((-4) : Int32)]) (rest := []) ⟨hx, hb, hml, hown, hts⟩ (zc_X1_refuseLong l D cI ad g_now g_mind g_taken g_isTaken g_letters g_letterCount g_told g_toldCount g_refusals g_costs g_gains g_seed ((-4) : Int32) r48 n49 g50) (cwV 1 hts gX1_steam_X1_refuseLong rfl rfl rfl hd_X1_refuseLong ⟨Nat.le_of_ble_eq_true rfl, Nat.le_of_ble_eq_true rfl⟩) hK hP hD hS hA (zb_sG) (q0 := 0) rfl rfl rfl hl.1 rfl (Nat.le_of_ble_eq_true rfl) dX1_steam_37 ⟨Nat.le_refl _, Nat.le_refl _⟩ (fun H locs hP hD hS => ?_)
          obtain ⟨rfl, rfl, rfl⟩ := re3 h
          exact zb_lret hx hb hr hlk hP hS dX1_steam_40
    · replace h := it_t c9 h
      refine lv_aload_n hx hb dX1_steam_18 rfl (lv_at hl 0 rfl) ?_
      refine lv_iconst (v := ((-1) : Int32)) hx hb dX1_steam_19 (by decide) ?_
      obtain ⟨r51, n52, g53, h⟩ := bo2 h
      refine zb_callV (As := [.int ((-1) : Int32)]) (rest := []) ⟨hx, hb, hml, hown, hts⟩ (zc_X1_refuseLong l D cI ad g_now g_mind g_taken g_isTaken g_letters g_letterCount g_told g_toldCount g_refusals g_costs g_gains g_seed ((-1) : Int32) r51 n52 g53) (cwV 1 hts gX1_steam_X1_refuseLong rfl rfl rfl hd_X1_refuseLong ⟨Nat.le_of_ble_eq_true rfl, Nat.le_of_ble_eq_true rfl⟩) hK hP hD hS hA (zb_sG) (q0 := 0) rfl rfl rfl hl.1 rfl (Nat.le_of_ble_eq_true rfl) dX1_steam_20 ⟨Nat.le_refl _, Nat.le_refl _⟩ (fun H locs hP hD hS => ?_)
      obtain ⟨rfl, rfl, rfl⟩ := re3 h
      exact zb_lret hx hb hr hlk hP hS dX1_steam_23
abbrev rm_X1_mean : Room := { frames := 4, cells := 0, slots := 0, locals := 86 }
theorem hd_X1_mean : yX1_mean.cls = RX1 ∧ yX1_mean.cls ≠ "java/lang/invoke/MethodHandle" ∧ yX1_mean.cls ≠ "java/lang/invoke/VarHandle" ∧ (parseMethodDescriptor yX1_mean.desc).map (fun d => d.parameters.length) = some 1 := by decide +kernel
theorem zi_X1_mean_X1 : ∀ w ∈ wsX10, w ∈ wsX1_mean := fun _ h => List.mem_cons_of_mem _ (List.mem_append_left _ (List.mem_append_right _ h))
theorem zk_X1_mean_0 : Cond.fieldLink RX1 10 "GroutingIsFollowed" "now" "LGroutingIsFollowed$Bath;" ∈ wsX1_mean := by decide +kernel
theorem zk_X1_mean_1 : Cond.constantLong RX1 187 (30) ∈ wsX1_mean := by decide +kernel
set_option maxHeartbeats 4000000 in
set_option maxRecDepth 100000 in
theorem zc_X1_mean (l : Launch) (D : va_G) (cI : ClassId) (ad : Nat → Nat) (g_now : BT) (g_mind : BT) (g_taken : BT) (g_isTaken : Int32) (g_letters : (Nat → Int32)) (g_letterCount : Int32) (g_told : (Nat → Int32)) (g_toldCount : Int32) (g_refusals : (Nat → Int32)) (g_costs : (Nat → Int32)) (g_gains : (Nat → Int32)) (g_seed : Int32) (v1 : Int32) (r0 : Int64) (w_g_refusals : (Nat → Int32)) (h : zf_X1_mean g_now g_refusals v1 = some (r0, w_g_refusals)) : Cn l D cI yX1_mean wsX1_mean rm_X1_mean [.ref (ad 0), .int v1] (zb_G cI ad g_now g_mind g_taken g_isTaken g_letters g_letterCount g_told g_toldCount g_refusals g_costs g_gains g_seed) (some (.long r0)) (zb_G cI ad g_now g_mind g_taken g_isTaken g_letters g_letterCount g_told g_toldCount w_g_refusals g_costs g_gains g_seed) := by
  refine zb_ofW (cc := cX1_mean) (maxL := 2) (ret := (some .long)) (by decide) rfl (Nat.le_of_ble_eq_true rfl) ?_
  intro p e s m args below meth c A ls hx hb hr hml hts hown hlk hK hP hD hA hl
  have hS : va_S A s.heap s.heap [] := va_S.rf
  have hl : lv_has ls 2 [(0, .ref (ad 0)), (1, .int v1)] := hl
  unfold zf_X1_mean at h
  refine lv_iload_n hx hb dX1_mean_0 rfl (lv_at hl 1 rfl) ?_
  refine lv_if_lt (tgt := 9) hx hb dX1_mean_1 (by decide) (fun c1 => ?_) (fun c1 => ?_)
  · replace h := it_t c1 h
    refine lv_aload_n hx hb dX1_mean_9 rfl (lv_at hl 0 rfl) ?_
    refine lv_bipush (v := ((-2) : Int32)) hx hb dX1_mean_10 (by decide) ?_
    obtain ⟨r2, n3, g4, h⟩ := bo2 h
    refine zb_callV (As := [.int ((-2) : Int32)]) (rest := []) ⟨hx, hb, hml, hown, hts⟩ (zc_X1_refuseLong l D cI ad g_now g_mind g_taken g_isTaken g_letters g_letterCount g_told g_toldCount g_refusals g_costs g_gains g_seed ((-2) : Int32) r2 n3 g4) (cwV 1 hts gX1_mean_X1_refuseLong rfl rfl rfl hd_X1_refuseLong ⟨Nat.le_of_ble_eq_true rfl, Nat.le_of_ble_eq_true rfl⟩) hK hP hD hS hA (zb_sG) (q0 := 0) rfl rfl rfl hl.1 rfl (Nat.le_of_ble_eq_true rfl) dX1_mean_12 ⟨Nat.le_refl _, Nat.le_refl _⟩ (fun H locs hP hD hS => ?_)
    obtain ⟨rfl, rfl⟩ := re2 h
    exact zb_lret hx hb hr hlk hP hS dX1_mean_15
  · replace h := it_f c1 h
    refine lv_iload_n hx hb dX1_mean_4 rfl (lv_at hl 1 rfl) ?_
    refine lv_iconst (v := (1 : Int32)) hx hb dX1_mean_5 (by decide) ?_
    refine lv_icmp_le (tgt := 16) hx hb dX1_mean_6 (by decide) (fun c5 => ?_) (fun c5 => ?_)
    · replace h := it_t c5 h
      refine lv_aload_n hx hb dX1_mean_16 rfl (lv_at hl 0 rfl) ?_
      refine va_get (D := D) (ci := 1) (v := .ref (ad 1)) (C := RX1) (T := TX1) (N := 12) hx hb hts zi_X1_mean_X1 hown hK.1 hP 0 rfl rfl 0 (by decide) (hts _ zk_X1_mean_0) (fun _ h9 => h9) rfl dX1_mean_17 ?_
      obtain ⟨r6, g7, h⟩ := bo1 h
      refine zb_callV (As := []) (rest := []) ⟨hx, hb, hml, hown, hts⟩ (zc_X0_allWet l D cI (ad 1) (ad 2) (ad 3) (ad 4) (ad 5) (ad 6) (ad 7) g_now r6 g7) (cwV 0 hts gX1_mean_X0_allWet rfl rfl rfl hd_X0_allWet ⟨Nat.le_of_ble_eq_true rfl, Nat.le_of_ble_eq_true rfl⟩) hK hP hD hS hA (zb_cGn) (q0 := 0) rfl rfl rfl hl.1 rfl (Nat.le_of_ble_eq_true rfl) dX1_mean_20 ⟨Nat.le_refl _, Nat.le_refl _⟩ (fun H locs hP hD hS => ?_)
      refine lv_i2l (v := r6.toInt64) hx hb dX1_mean_23 rfl ?_
      refine lv_ldc2 (v := (30 : Int64)) hx hb hown (hts _ zk_X1_mean_1) dX1_mean_24 ?_
      refine lv_iload_n hx hb dX1_mean_27 rfl (lv_at hl 1 rfl) ?_
      obtain ⟨r8, g9, h⟩ := bo1 h
      refine zb_callS (As := [.long r6.toInt64, .long (30 : Int64), .int v1]) (rest := []) ⟨hx, hb, hml, hown, hts⟩ (zc_X1_partOf l D cI r6.toInt64 (30 : Int64) v1 r8 g9) (va_cwS 3 hts gX1_mean_X1_partOf rfl rfl rfl hd_X1_partOf.2 ⟨Nat.le_of_ble_eq_true rfl, Nat.le_of_ble_eq_true rfl⟩) hK hP hD hS hA (zb_none _) rfl hl.1 rfl (Nat.le_of_ble_eq_true rfl) dX1_mean_28 ⟨Nat.le_refl _, Nat.le_refl _⟩ (fun H locs hP hD hS => ?_)
      obtain ⟨rfl, rfl⟩ := re2 h
      exact zb_lret hx hb hr hlk hP hS dX1_mean_31
    · replace h := it_f c5 h
      refine lv_aload_n hx hb dX1_mean_9 rfl (lv_at hl 0 rfl) ?_
      refine lv_bipush (v := ((-2) : Int32)) hx hb dX1_mean_10 (by decide) ?_
      obtain ⟨r10, n11, g12, h⟩ := bo2 h
      refine zb_callV (As := [.int ((-2) : Int32)]) (rest := []) ⟨hx, hb, hml, hown, hts⟩ (zc_X1_refuseLong l D cI ad g_now g_mind g_taken g_isTaken g_letters g_letterCount g_told g_toldCount g_refusals g_costs g_gains g_seed ((-2) : Int32) r10 n11 g12) (cwV 1 hts gX1_mean_X1_refuseLong rfl rfl rfl hd_X1_refuseLong ⟨Nat.le_of_ble_eq_true rfl, Nat.le_of_ble_eq_true rfl⟩) hK hP hD hS hA (zb_sG) (q0 := 0) rfl rfl rfl hl.1 rfl (Nat.le_of_ble_eq_true rfl) dX1_mean_12 ⟨Nat.le_refl _, Nat.le_refl _⟩ (fun H locs hP hD hS => ?_)
      obtain ⟨rfl, rfl⟩ := re2 h
      exact zb_lret hx hb hr hlk hP hS dX1_mean_15
abbrev rm_X1_toldAt : Room := { frames := 0, cells := 0, slots := 0, locals := 0 }
theorem hd_X1_toldAt : yX1_toldAt.cls = RX1 ∧ yX1_toldAt.cls ≠ "java/lang/invoke/MethodHandle" ∧ yX1_toldAt.cls ≠ "java/lang/invoke/VarHandle" ∧ (parseMethodDescriptor yX1_toldAt.desc).map (fun d => d.parameters.length) = some 1 := by decide +kernel
theorem zi_X1_toldAt_X1 : ∀ w ∈ wsX10, w ∈ wsX1_toldAt := fun _ h => List.mem_cons_of_mem _ (List.mem_append_right _ h)
theorem zk_X1_toldAt_0 : Cond.fieldLink RX1 192 "GroutingIsFollowed" "toldCount" "I" ∈ wsX1_toldAt := by decide +kernel
theorem zk_X1_toldAt_1 : Cond.fieldLink RX1 26 "GroutingIsFollowed" "told" "[I" ∈ wsX1_toldAt := by decide +kernel
set_option maxHeartbeats 4000000 in
set_option maxRecDepth 100000 in
theorem zc_X1_toldAt (l : Launch) (D : va_G) (cI : ClassId) (ad : Nat → Nat) (g_now : BT) (g_mind : BT) (g_taken : BT) (g_isTaken : Int32) (g_letters : (Nat → Int32)) (g_letterCount : Int32) (g_told : (Nat → Int32)) (g_toldCount : Int32) (g_refusals : (Nat → Int32)) (g_costs : (Nat → Int32)) (g_gains : (Nat → Int32)) (g_seed : Int32) (v1 : Int32) (r0 : Int32) (h : zf_X1_toldAt g_told g_toldCount v1 = some r0) : Cn l D cI yX1_toldAt wsX1_toldAt rm_X1_toldAt [.ref (ad 0), .int v1] (zb_G cI ad g_now g_mind g_taken g_isTaken g_letters g_letterCount g_told g_toldCount g_refusals g_costs g_gains g_seed) (some (.int r0)) (zb_G cI ad g_now g_mind g_taken g_isTaken g_letters g_letterCount g_told g_toldCount g_refusals g_costs g_gains g_seed) := by
  refine zb_ofW (cc := cX1_toldAt) (maxL := 2) (ret := (some .int)) (by decide) rfl (Nat.le_of_ble_eq_true rfl) ?_
  intro p e s m args below meth c A ls hx hb hr hml hts hown hlk hK hP hD hA hl
  have hS : va_S A s.heap s.heap [] := va_S.rf
  have hl : lv_has ls 2 [(0, .ref (ad 0)), (1, .int v1)] := hl
  unfold zf_X1_toldAt at h
  refine lv_iload_n hx hb dX1_toldAt_0 rfl (lv_at hl 1 rfl) ?_
  refine lv_if_lt (tgt := 30) hx hb dX1_toldAt_1 (by decide) (fun c1 => ?_) (fun c1 => ?_)
  · replace h := it_t c1 h
    refine lv_bipush (v := ((-9) : Int32)) hx hb dX1_toldAt_30 (by decide) ?_
    obtain rfl := re1 h
    exact zb_iret hx hb hr hlk hP hS dX1_toldAt_32
  · replace h := it_f c1 h
    refine lv_iload_n hx hb dX1_toldAt_4 rfl (lv_at hl 1 rfl) ?_
    refine lv_aload_n hx hb dX1_toldAt_5 rfl (lv_at hl 0 rfl) ?_
    refine va_get (D := D) (ci := 1) (v := .int g_toldCount) (C := RX1) (T := TX1) (N := 12) hx hb hts zi_X1_toldAt_X1 hown hK.1 hP 0 rfl rfl 7 (by decide) (hts _ zk_X1_toldAt_0) (fun _ h9 => h9) rfl dX1_toldAt_6 ?_
    refine lv_icmp_ge (tgt := 30) hx hb dX1_toldAt_9 (by decide) (fun c2 => ?_) (fun c2 => ?_)
    · replace h := it_t c2 h
      refine lv_bipush (v := ((-9) : Int32)) hx hb dX1_toldAt_30 (by decide) ?_
      obtain rfl := re1 h
      exact zb_iret hx hb hr hlk hP hS dX1_toldAt_32
    · replace h := it_f c2 h
      refine lv_iload_n hx hb dX1_toldAt_12 rfl (lv_at hl 1 rfl) ?_
      refine lv_aload_n hx hb dX1_toldAt_13 rfl (lv_at hl 0 rfl) ?_
      refine va_get (D := D) (ci := 1) (v := .ref (ad 23)) (C := RX1) (T := TX1) (N := 12) hx hb hts zi_X1_toldAt_X1 hown hK.1 hP 0 rfl rfl 6 (by decide) (hts _ zk_X1_toldAt_1) (fun _ h9 => h9) rfl dX1_toldAt_14 ?_
      refine va_alen (v := (16 : Int32)) hx hb hK.1 hP 23 0 rfl rfl rfl dX1_toldAt_17 ?_
      refine lv_icmp_ge (tgt := 30) hx hb dX1_toldAt_18 (by decide) (fun c3 => ?_) (fun c3 => ?_)
      · replace h := it_t c3 h
        refine lv_bipush (v := ((-9) : Int32)) hx hb dX1_toldAt_30 (by decide) ?_
        obtain rfl := re1 h
        exact zb_iret hx hb hr hlk hP hS dX1_toldAt_32
      · replace h := it_f c3 h
        refine lv_aload_n hx hb dX1_toldAt_21 rfl (lv_at hl 0 rfl) ?_
        refine va_get (D := D) (ci := 1) (v := .ref (ad 23)) (C := RX1) (T := TX1) (N := 12) hx hb hts zi_X1_toldAt_X1 hown hK.1 hP 0 rfl rfl 6 (by decide) (hts _ zk_X1_toldAt_1) (fun _ h9 => h9) rfl dX1_toldAt_22 ?_
        refine lv_iload_n hx hb dX1_toldAt_25 rfl (lv_at hl 1 rfl) ?_
        obtain ⟨h4, h⟩ := it_g h
        refine va_iald hx hb hK.1 hP 23 0 rfl rfl h4 dX1_toldAt_26 ?_
        refine lv_goto (tgt := 32) hx hb dX1_toldAt_27 (by decide) ?_
        obtain rfl := re1 h
        exact zb_iret hx hb hr hlk hP hS dX1_toldAt_32
abbrev rm_X1_isAsTold : Room := { frames := 4, cells := 0, slots := 0, locals := 90 }
theorem hd_X1_isAsTold : yX1_isAsTold.cls = RX1 ∧ yX1_isAsTold.cls ≠ "java/lang/invoke/MethodHandle" ∧ yX1_isAsTold.cls ≠ "java/lang/invoke/VarHandle" ∧ (parseMethodDescriptor yX1_isAsTold.desc).map (fun d => d.parameters.length) = some 1 := by decide +kernel
theorem zi_X1_isAsTold_X1 : ∀ w ∈ wsX10, w ∈ wsX1_isAsTold := fun _ h => List.mem_cons_of_mem _ (List.mem_append_left _ (List.mem_append_right _ h))
theorem zk_X1_isAsTold_0 : Cond.fieldLink RX1 192 "GroutingIsFollowed" "toldCount" "I" ∈ wsX1_isAsTold := by decide +kernel
theorem zk_X1_isAsTold_1 : Cond.fieldLink RX1 16 "GroutingIsFollowed" "mind" "LGroutingIsFollowed$Bath;" ∈ wsX1_isAsTold := by decide +kernel
set_option maxHeartbeats 4000000 in
set_option maxRecDepth 100000 in
theorem zc_X1_isAsTold (l : Launch) (D : va_G) (cI : ClassId) (ad : Nat → Nat) (g_now : BT) (g_mind : BT) (g_taken : BT) (g_isTaken : Int32) (g_letters : (Nat → Int32)) (g_letterCount : Int32) (g_told : (Nat → Int32)) (g_toldCount : Int32) (g_refusals : (Nat → Int32)) (g_costs : (Nat → Int32)) (g_gains : (Nat → Int32)) (g_seed : Int32) (v1 : Int32) (r0 : Int32) (w_g_mind : BT) (h : zf_X1_isAsTold g_mind g_told g_toldCount v1 = some (r0, w_g_mind)) : Cn l D cI yX1_isAsTold wsX1_isAsTold rm_X1_isAsTold [.ref (ad 0), .int v1] (zb_G cI ad g_now g_mind g_taken g_isTaken g_letters g_letterCount g_told g_toldCount g_refusals g_costs g_gains g_seed) (some (.int r0)) (zb_G cI ad g_now w_g_mind g_taken g_isTaken g_letters g_letterCount g_told g_toldCount g_refusals g_costs g_gains g_seed) := by
  refine zb_ofW (cc := cX1_isAsTold) (maxL := 3) (ret := (some .boolean)) (by decide) rfl (Nat.le_of_ble_eq_true rfl) ?_
  intro p e s m args below meth c A ls hx hb hr hml hts hown hlk hK hP hD hA hl
  have hS : va_S A s.heap s.heap [] := va_S.rf
  have hl : lv_has ls 3 [(0, .ref (ad 0)), (1, .int v1)] := hl
  unfold zf_X1_isAsTold at h
  refine lv_iconst (v := (0 : Int32)) hx hb dX1_isAsTold_0 (by decide) ?_
  refine lv_istore_n (lv' := [(2, .int (0 : Int32)), (0, .ref (ad 0)), (1, .int v1)]) hx hb dX1_isAsTold_1 rfl hl (by decide) rfl (fun ls hl => ?_)
  have lp3 : ∀ (fu3 : Nat) (x1 : Int32) (x2 : BT) (H : Heap) (locs : List Loc) (hP : va_P D zb_cl (zb_G cI ad g_now x2 g_taken g_isTaken g_letters g_letterCount g_told g_toldCount g_refusals g_costs g_gains g_seed) H) (hD : va_D A (zb_G cI ad g_now x2 g_taken g_isTaken g_letters g_letterCount g_told g_toldCount g_refusals g_costs g_gains g_seed)) (hS : va_S A s.heap H locs) (ls : Array Slot) (hl : lv_has ls 3 [(0, .ref (ad 0)), (1, .int v1), (2, .int x1)]) (h : zl2 (zf_X1_isAsTold_b2 v1 g_told g_toldCount) fu3 x1 x2 = some (r0, w_g_mind)), W p l e rm_X1_isAsTold s m args below meth c H locs 0 0 (zb_Q below D (some (.int r0)) (zb_G cI ad g_now w_g_mind g_taken g_isTaken g_letters g_letterCount g_told g_toldCount g_refusals g_costs g_gains g_seed) A args s) (F0 m 2 ls []) := by
    intro fu3
    induction fu3 with
    | zero => intro x1 x2 H locs hP hD hS ls hl h; exact zb_no h
    | succ fu3 ih3 =>
      intro x1 x2 H locs hP hD hS ls hl h
      replace h : zf_X1_isAsTold_b2 v1 g_told g_toldCount (zl2 (zf_X1_isAsTold_b2 v1 g_told g_toldCount) fu3) x1 x2 = some (r0, w_g_mind) := h
      unfold zf_X1_isAsTold_b2 at h
      refine lv_iload_n hx hb dX1_isAsTold_2 rfl (lv_at hl 2 rfl) ?_
      refine lv_aload_n hx hb dX1_isAsTold_3 rfl (lv_at hl 0 rfl) ?_
      refine va_get (D := D) (ci := 1) (v := .int g_toldCount) (C := RX1) (T := TX1) (N := 12) hx hb hts zi_X1_isAsTold_X1 hown hK.1 hP 0 rfl rfl 7 (by decide) (hts _ zk_X1_isAsTold_0) (fun _ h9 => h9) rfl dX1_isAsTold_4 ?_
      refine lv_icmp_ge (tgt := 47) hx hb dX1_isAsTold_7 (by decide) (fun c4 => ?_) (fun c4 => ?_)
      · replace h := it_t c4 h
        refine lv_iconst (v := (1 : Int32)) hx hb dX1_isAsTold_47 (by decide) ?_
        obtain ⟨rfl, rfl⟩ := re2 h
        exact zb_zret hx hb hr hlk rfl hP hS dX1_isAsTold_48
      · replace h := it_f c4 h
        refine lv_iload_n hx hb dX1_isAsTold_10 rfl (lv_at hl 2 rfl) ?_
        refine lv_if_le (tgt := 23) hx hb dX1_isAsTold_11 (by decide) (fun c5 => ?_) (fun c5 => ?_)
        · replace h := it_t c5 h
          refine lv_aload_n hx hb dX1_isAsTold_23 rfl (lv_at hl 0 rfl) ?_
          refine va_get (D := D) (ci := 1) (v := .ref (ad 8)) (C := RX1) (T := TX1) (N := 12) hx hb hts zi_X1_isAsTold_X1 hown hK.1 hP 0 rfl rfl 1 (by decide) (hts _ zk_X1_isAsTold_1) (fun _ h9 => h9) rfl dX1_isAsTold_24 ?_
          refine lv_iload_n hx hb dX1_isAsTold_27 rfl (lv_at hl 1 rfl) ?_
          obtain ⟨r6, g7, h⟩ := bo1 h
          refine zb_callV (As := [.int v1]) (rest := []) ⟨hx, hb, hml, hown, hts⟩ (zc_X0_placeOf l D cI (ad 8) (ad 9) (ad 10) (ad 11) (ad 12) (ad 13) (ad 14) x2 v1 r6 g7) (cwV 1 hts gX1_isAsTold_X0_placeOf rfl rfl rfl hd_X0_placeOf ⟨Nat.le_of_ble_eq_true rfl, Nat.le_of_ble_eq_true rfl⟩) hK hP hD hS hA (zb_cGm) (q0 := 0) rfl rfl rfl hl.1 rfl (Nat.le_of_ble_eq_true rfl) dX1_isAsTold_28 ⟨Nat.le_refl _, Nat.le_refl _⟩ (fun H locs hP hD hS => ?_)
          refine lv_aload_n hx hb dX1_isAsTold_31 rfl (lv_at hl 0 rfl) ?_
          refine lv_iload_n hx hb dX1_isAsTold_32 rfl (lv_at hl 2 rfl) ?_
          obtain ⟨r8, g9, h⟩ := bo1 h
          refine zb_callV (As := [.int x1]) (rest := [.int r6]) ⟨hx, hb, hml, hown, hts⟩ (zc_X1_toldAt l D cI ad g_now x2 g_taken g_isTaken g_letters g_letterCount g_told g_toldCount g_refusals g_costs g_gains g_seed x1 r8 g9) (cwV 1 hts gX1_isAsTold_X1_toldAt rfl rfl rfl hd_X1_toldAt ⟨Nat.le_of_ble_eq_true rfl, Nat.le_of_ble_eq_true rfl⟩) hK hP hD hS hA (zb_sG) (q0 := 0) rfl rfl rfl hl.1 rfl (Nat.le_of_ble_eq_true rfl) dX1_isAsTold_33 ⟨Nat.le_refl _, Nat.le_refl _⟩ (fun H locs hP hD hS => ?_)
          refine lv_icmp_eq (tgt := 41) hx hb dX1_isAsTold_36 (by decide) (fun c10 => ?_) (fun c10 => ?_)
          · replace h := it_t c10 h
            refine lv_iinc (v := (x1 + (1 : Int32))) (lv' := [(2, .int (x1 + (1 : Int32))), (0, .ref (ad 0)), (1, .int v1)]) hx hb dX1_isAsTold_41 hl (k := 2) rfl (by first | rfl | decide) (by decide) rfl (fun ls hl => ?_)
            refine lv_goto (tgt := 2) hx hb dX1_isAsTold_44 (by decide) ?_
            exact ih3 (x1 + (1 : Int32)) x2 _ _ hP hD hS ls (lv_sub hl [1, 2, 0] rfl) h
          · replace h := it_f c10 h
            refine lv_iconst (v := (0 : Int32)) hx hb dX1_isAsTold_39 (by decide) ?_
            obtain ⟨rfl, rfl⟩ := re2 h
            exact zb_zret hx hb hr hlk rfl hP hS dX1_isAsTold_40
        · replace h := it_f c5 h
          refine lv_aload_n hx hb dX1_isAsTold_14 rfl (lv_at hl 0 rfl) ?_
          refine va_get (D := D) (ci := 1) (v := .ref (ad 8)) (C := RX1) (T := TX1) (N := 12) hx hb hts zi_X1_isAsTold_X1 hown hK.1 hP 0 rfl rfl 1 (by decide) (hts _ zk_X1_isAsTold_1) (fun _ h9 => h9) rfl dX1_isAsTold_15 ?_
          refine lv_iconst (v := (1 : Int32)) hx hb dX1_isAsTold_18 (by decide) ?_
          refine lv_iconst (v := (0 : Int32)) hx hb dX1_isAsTold_19 (by decide) ?_
          obtain ⟨n11, g12, h⟩ := bo1 h
          refine zb_callV (As := [.int (1 : Int32), .int (0 : Int32)]) (rest := []) ⟨hx, hb, hml, hown, hts⟩ (zc_X0_goOn l D cI (ad 8) (ad 9) (ad 10) (ad 11) (ad 12) (ad 13) (ad 14) x2 (1 : Int32) (0 : Int32) n11 g12) (cwV 2 hts gX1_isAsTold_X0_goOn rfl rfl rfl hd_X0_goOn ⟨Nat.le_of_ble_eq_true rfl, Nat.le_of_ble_eq_true rfl⟩) hK hP hD hS hA (zb_cGm) (q0 := 0) rfl rfl rfl hl.1 rfl (Nat.le_of_ble_eq_true rfl) dX1_isAsTold_20 ⟨Nat.le_refl _, Nat.le_refl _⟩ (fun H locs hP hD hS => ?_)
          refine lv_aload_n hx hb dX1_isAsTold_23 rfl (lv_at hl 0 rfl) ?_
          refine va_get (D := D) (ci := 1) (v := .ref (ad 8)) (C := RX1) (T := TX1) (N := 12) hx hb hts zi_X1_isAsTold_X1 hown hK.1 hP 0 rfl rfl 1 (by decide) (hts _ zk_X1_isAsTold_1) (fun _ h9 => h9) rfl dX1_isAsTold_24 ?_
          refine lv_iload_n hx hb dX1_isAsTold_27 rfl (lv_at hl 1 rfl) ?_
          obtain ⟨r13, g14, h⟩ := bo1 h
          refine zb_callV (As := [.int v1]) (rest := []) ⟨hx, hb, hml, hown, hts⟩ (zc_X0_placeOf l D cI (ad 8) (ad 9) (ad 10) (ad 11) (ad 12) (ad 13) (ad 14) n11 v1 r13 g14) (cwV 1 hts gX1_isAsTold_X0_placeOf rfl rfl rfl hd_X0_placeOf ⟨Nat.le_of_ble_eq_true rfl, Nat.le_of_ble_eq_true rfl⟩) hK hP hD hS hA (zb_cGm) (q0 := 0) rfl rfl rfl hl.1 rfl (Nat.le_of_ble_eq_true rfl) dX1_isAsTold_28 ⟨Nat.le_refl _, Nat.le_refl _⟩ (fun H locs hP hD hS => ?_)
          refine lv_aload_n hx hb dX1_isAsTold_31 rfl (lv_at hl 0 rfl) ?_
          refine lv_iload_n hx hb dX1_isAsTold_32 rfl (lv_at hl 2 rfl) ?_
          obtain ⟨r15, g16, h⟩ := bo1 h
          refine zb_callV (As := [.int x1]) (rest := [.int r13]) ⟨hx, hb, hml, hown, hts⟩ (zc_X1_toldAt l D cI ad g_now n11 g_taken g_isTaken g_letters g_letterCount g_told g_toldCount g_refusals g_costs g_gains g_seed x1 r15 g16) (cwV 1 hts gX1_isAsTold_X1_toldAt rfl rfl rfl hd_X1_toldAt ⟨Nat.le_of_ble_eq_true rfl, Nat.le_of_ble_eq_true rfl⟩) hK hP hD hS hA (zb_sG) (q0 := 0) rfl rfl rfl hl.1 rfl (Nat.le_of_ble_eq_true rfl) dX1_isAsTold_33 ⟨Nat.le_refl _, Nat.le_refl _⟩ (fun H locs hP hD hS => ?_)
          refine lv_icmp_eq (tgt := 41) hx hb dX1_isAsTold_36 (by decide) (fun c17 => ?_) (fun c17 => ?_)
          · replace h := it_t c17 h
            refine lv_iinc (v := (x1 + (1 : Int32))) (lv' := [(2, .int (x1 + (1 : Int32))), (0, .ref (ad 0)), (1, .int v1)]) hx hb dX1_isAsTold_41 hl (k := 2) rfl (by first | rfl | decide) (by decide) rfl (fun ls hl => ?_)
            refine lv_goto (tgt := 2) hx hb dX1_isAsTold_44 (by decide) ?_
            exact ih3 (x1 + (1 : Int32)) n11 _ _ hP hD hS ls (lv_sub hl [1, 2, 0] rfl) h
          · replace h := it_f c17 h
            refine lv_iconst (v := (0 : Int32)) hx hb dX1_isAsTold_39 (by decide) ?_
            obtain ⟨rfl, rfl⟩ := re2 h
            exact zb_zret hx hb hr hlk rfl hP hS dX1_isAsTold_40
  exact lp3 zb_FU (0 : Int32) g_mind _ _ hP hD hS ls (lv_sub hl [1, 2, 0] rfl) h
abbrev rm_X1_whatIs : Room := { frames := 5, cells := 0, slots := 0, locals := 112 }
theorem hd_X1_whatIs : yX1_whatIs.cls = RX1 ∧ yX1_whatIs.cls ≠ "java/lang/invoke/MethodHandle" ∧ yX1_whatIs.cls ≠ "java/lang/invoke/VarHandle" ∧ (parseMethodDescriptor yX1_whatIs.desc).map (fun d => d.parameters.length) = some 3 := by decide +kernel
theorem zi_X1_whatIs_X1 : ∀ w ∈ wsX10, w ∈ wsX1_whatIs := fun _ h => List.mem_cons_of_mem _ (List.mem_append_left _ (List.mem_append_right _ h))
theorem zk_X1_whatIs_0 : Cond.fieldLink RX1 10 "GroutingIsFollowed" "now" "LGroutingIsFollowed$Bath;" ∈ wsX1_whatIs := by decide +kernel
theorem zk_X1_whatIs_1 : Cond.fieldLink RX1 16 "GroutingIsFollowed" "mind" "LGroutingIsFollowed$Bath;" ∈ wsX1_whatIs := by decide +kernel
set_option maxHeartbeats 4000000 in
set_option maxRecDepth 100000 in
theorem zc_X1_whatIs (l : Launch) (D : va_G) (cI : ClassId) (ad : Nat → Nat) (g_now : BT) (g_mind : BT) (g_taken : BT) (g_isTaken : Int32) (g_letters : (Nat → Int32)) (g_letterCount : Int32) (g_told : (Nat → Int32)) (g_toldCount : Int32) (g_refusals : (Nat → Int32)) (g_costs : (Nat → Int32)) (g_gains : (Nat → Int32)) (g_seed : Int32) (v1 : Int32) (v2 : Int32) (v3 : Int32) (r0 : Int32) (w_g_mind : BT) (w_g_refusals : (Nat → Int32)) (h : zf_X1_whatIs g_now g_mind g_told g_toldCount g_refusals v1 v2 v3 = some (r0, w_g_mind, w_g_refusals)) : Cn l D cI yX1_whatIs wsX1_whatIs rm_X1_whatIs [.ref (ad 0), .int v1, .int v2, .int v3] (zb_G cI ad g_now g_mind g_taken g_isTaken g_letters g_letterCount g_told g_toldCount g_refusals g_costs g_gains g_seed) (some (.int r0)) (zb_G cI ad g_now w_g_mind g_taken g_isTaken g_letters g_letterCount g_told g_toldCount w_g_refusals g_costs g_gains g_seed) := by
  refine zb_ofW (cc := cX1_whatIs) (maxL := 7) (ret := (some .int)) (by decide) rfl (Nat.le_of_ble_eq_true rfl) ?_
  intro p e s m args below meth c A ls hx hb hr hml hts hown hlk hK hP hD hA hl
  have hS : va_S A s.heap s.heap [] := va_S.rf
  have hl : lv_has ls 7 [(0, .ref (ad 0)), (1, .int v1), (2, .int v2), (3, .int v3)] := hl
  unfold zf_X1_whatIs at h
  refine lv_iload_n hx hb dX1_whatIs_0 rfl (lv_at hl 1 rfl) ?_
  obtain ⟨r1, g2, h⟩ := bo1 h
  refine zb_callS (As := [.int v1]) (rest := []) ⟨hx, hb, hml, hown, hts⟩ (zc_X1_isNode l D cI v1 r1 g2) (va_cwS 1 hts gX1_whatIs_X1_isNode rfl rfl rfl hd_X1_isNode.2 ⟨Nat.le_of_ble_eq_true rfl, Nat.le_of_ble_eq_true rfl⟩) hK hP hD hS hA (zb_none _) rfl hl.1 rfl (Nat.le_of_ble_eq_true rfl) dX1_whatIs_1 ⟨Nat.le_refl _, Nat.le_refl _⟩ (fun H locs hP hD hS => ?_)
  refine lv_if_eq (tgt := 18) hx hb dX1_whatIs_4 (by decide) (fun c3 => ?_) (fun c3 => ?_)
  · replace h := it_t c3 h
    refine lv_aload_n hx hb dX1_whatIs_18 rfl (lv_at hl 0 rfl) ?_
    refine lv_iconst (v := ((-1) : Int32)) hx hb dX1_whatIs_19 (by decide) ?_
    obtain ⟨r4, n5, g6, h⟩ := bo2 h
    refine zb_callV (As := [.int ((-1) : Int32)]) (rest := []) ⟨hx, hb, hml, hown, hts⟩ (zc_X1_refuse l D cI ad g_now g_mind g_taken g_isTaken g_letters g_letterCount g_told g_toldCount g_refusals g_costs g_gains g_seed ((-1) : Int32) r4 n5 g6) (cwV 1 hts gX1_whatIs_X1_refuse rfl rfl rfl hd_X1_refuse ⟨Nat.le_of_ble_eq_true rfl, Nat.le_of_ble_eq_true rfl⟩) hK hP hD hS hA (zb_sG) (q0 := 0) rfl rfl rfl hl.1 rfl (Nat.le_of_ble_eq_true rfl) dX1_whatIs_20 ⟨Nat.le_refl _, Nat.le_refl _⟩ (fun H locs hP hD hS => ?_)
    obtain ⟨rfl, rfl, rfl⟩ := re3 h
    exact zb_iret hx hb hr hlk hP hS dX1_whatIs_23
  · replace h := it_f c3 h
    refine lv_aload_n hx hb dX1_whatIs_7 rfl (lv_at hl 0 rfl) ?_
    refine va_get (D := D) (ci := 1) (v := .ref (ad 1)) (C := RX1) (T := TX1) (N := 12) hx hb hts zi_X1_whatIs_X1 hown hK.1 hP 0 rfl rfl 0 (by decide) (hts _ zk_X1_whatIs_0) (fun _ h9 => h9) rfl dX1_whatIs_8 ?_
    refine lv_iload_n hx hb dX1_whatIs_11 rfl (lv_at hl 2 rfl) ?_
    obtain ⟨r7, g8, h⟩ := bo1 h
    refine zb_callV (As := [.int v2]) (rest := []) ⟨hx, hb, hml, hown, hts⟩ (zc_X0_has l D cI (ad 1) (ad 2) (ad 3) (ad 4) (ad 5) (ad 6) (ad 7) g_now v2 r7 g8) (cwV 1 hts gX1_whatIs_X0_has rfl rfl rfl hd_X0_has ⟨Nat.le_of_ble_eq_true rfl, Nat.le_of_ble_eq_true rfl⟩) hK hP hD hS hA (zb_cGn) (q0 := 0) rfl rfl rfl hl.1 rfl (Nat.le_of_ble_eq_true rfl) dX1_whatIs_12 ⟨Nat.le_refl _, Nat.le_refl _⟩ (fun H locs hP hD hS => ?_)
    refine lv_if_ne (tgt := 24) hx hb dX1_whatIs_15 (by decide) (fun c9 => ?_) (fun c9 => ?_)
    · replace h := it_f c9 h
      refine lv_iload_n hx hb dX1_whatIs_24 rfl (lv_at hl 3 rfl) ?_
      refine lv_if_lt (tgt := 33) hx hb dX1_whatIs_25 (by decide) (fun c10 => ?_) (fun c10 => ?_)
      · replace h := it_t c10 h
        refine lv_aload_n hx hb dX1_whatIs_33 rfl (lv_at hl 0 rfl) ?_
        refine lv_bipush (v := ((-2) : Int32)) hx hb dX1_whatIs_34 (by decide) ?_
        obtain ⟨r11, n12, g13, h⟩ := bo2 h
        refine zb_callV (As := [.int ((-2) : Int32)]) (rest := []) ⟨hx, hb, hml, hown, hts⟩ (zc_X1_refuse l D cI ad g_now g_mind g_taken g_isTaken g_letters g_letterCount g_told g_toldCount g_refusals g_costs g_gains g_seed ((-2) : Int32) r11 n12 g13) (cwV 1 hts gX1_whatIs_X1_refuse rfl rfl rfl hd_X1_refuse ⟨Nat.le_of_ble_eq_true rfl, Nat.le_of_ble_eq_true rfl⟩) hK hP hD hS hA (zb_sG) (q0 := 0) rfl rfl rfl hl.1 rfl (Nat.le_of_ble_eq_true rfl) dX1_whatIs_36 ⟨Nat.le_refl _, Nat.le_refl _⟩ (fun H locs hP hD hS => ?_)
        obtain ⟨rfl, rfl, rfl⟩ := re3 h
        exact zb_iret hx hb hr hlk hP hS dX1_whatIs_39
      · replace h := it_f c10 h
        refine lv_iload_n hx hb dX1_whatIs_28 rfl (lv_at hl 3 rfl) ?_
        refine lv_iconst (v := (1 : Int32)) hx hb dX1_whatIs_29 (by decide) ?_
        refine lv_icmp_le (tgt := 40) hx hb dX1_whatIs_30 (by decide) (fun c14 => ?_) (fun c14 => ?_)
        · replace h := it_t c14 h
          refine lv_iconst (v := (0 : Int32)) hx hb dX1_whatIs_40 (by decide) ?_
          refine lv_istore (lv' := [(4, .int (0 : Int32)), (0, .ref (ad 0)), (1, .int v1), (2, .int v2), (3, .int v3)]) hx hb dX1_whatIs_41 hl (by decide) rfl (fun ls hl => ?_)
          refine lv_iload_n hx hb dX1_whatIs_43 rfl (lv_at hl 4 rfl) ?_
          refine lv_if_ne (tgt := 51) hx hb dX1_whatIs_44 (by decide) (fun c15 => ?_) (fun c15 => ?_)
          · replace h := it_f c15 h
            refine lv_bipush (v := (9 : Int32)) hx hb dX1_whatIs_51 (by decide) ?_
            refine lv_istore (lv' := [(5, .int (9 : Int32)), (4, .int (0 : Int32)), (0, .ref (ad 0)), (1, .int v1), (2, .int v2), (3, .int v3)]) hx hb dX1_whatIs_53 hl (by decide) rfl (fun ls hl => ?_)
            refine lv_iconst (v := (0 : Int32)) hx hb dX1_whatIs_55 (by decide) ?_
            refine lv_istore (lv' := [(6, .int (0 : Int32)), (5, .int (9 : Int32)), (4, .int (0 : Int32)), (0, .ref (ad 0)), (1, .int v1), (2, .int v2), (3, .int v3)]) hx hb dX1_whatIs_56 hl (by decide) rfl (fun ls hl => ?_)
            have lp19 : ∀ (fu19 : Nat) (x16 : Int32) (x17 : Int32) (x18 : BT) (H : Heap) (locs : List Loc) (hP : va_P D zb_cl (zb_G cI ad g_now x18 g_taken g_isTaken g_letters g_letterCount g_told g_toldCount g_refusals g_costs g_gains g_seed) H) (hD : va_D A (zb_G cI ad g_now x18 g_taken g_isTaken g_letters g_letterCount g_told g_toldCount g_refusals g_costs g_gains g_seed)) (hS : va_S A s.heap H locs) (ls : Array Slot) (hl : lv_has ls 7 [(0, .ref (ad 0)), (1, .int v1), (2, .int v2), (3, .int v3), (4, .int x16), (5, .int (9 : Int32)), (6, .int x17)]) (h : zl3 (zf_X1_whatIs_b58 v1 v2 v3 (9 : Int32) g_now g_told g_toldCount g_refusals) fu19 x16 x17 x18 = some (r0, w_g_mind, w_g_refusals)), W p l e rm_X1_whatIs s m args below meth c H locs 0 0 (zb_Q below D (some (.int r0)) (zb_G cI ad g_now w_g_mind g_taken g_isTaken g_letters g_letterCount g_told g_toldCount w_g_refusals g_costs g_gains g_seed) A args s) (F0 m 58 ls []) := by
              intro fu19
              induction fu19 with
              | zero => intro x16 x17 x18 H locs hP hD hS ls hl h; exact zb_no h
              | succ fu19 ih19 =>
                intro x16 x17 x18 H locs hP hD hS ls hl h
                replace h : zf_X1_whatIs_b58 v1 v2 v3 (9 : Int32) g_now g_told g_toldCount g_refusals (zl3 (zf_X1_whatIs_b58 v1 v2 v3 (9 : Int32) g_now g_told g_toldCount g_refusals) fu19) x16 x17 x18 = some (r0, w_g_mind, w_g_refusals) := h
                unfold zf_X1_whatIs_b58 at h
                refine lv_iload hx hb dX1_whatIs_58 (lv_at hl 6 rfl) ?_
                refine lv_iload hx hb dX1_whatIs_60 (lv_at hl 5 rfl) ?_
                refine lv_icmp_gt (tgt := 126) hx hb dX1_whatIs_62 (by decide) (fun c20 => ?_) (fun c20 => ?_)
                · replace h := it_t c20 h
                  refine lv_iload hx hb dX1_whatIs_126 (lv_at hl 4 rfl) ?_
                  obtain ⟨rfl, rfl, rfl⟩ := re3 h
                  exact zb_iret hx hb hr hlk hP hS dX1_whatIs_128
                · replace h := it_f c20 h
                  refine lv_aload_n hx hb dX1_whatIs_65 rfl (lv_at hl 0 rfl) ?_
                  refine va_get (D := D) (ci := 1) (v := .ref (ad 8)) (C := RX1) (T := TX1) (N := 12) hx hb hts zi_X1_whatIs_X1 hown hK.1 hP 0 rfl rfl 1 (by decide) (hts _ zk_X1_whatIs_1) (fun _ h9 => h9) rfl dX1_whatIs_66 ?_
                  refine lv_aload_n hx hb dX1_whatIs_69 rfl (lv_at hl 0 rfl) ?_
                  refine va_get (D := D) (ci := 1) (v := .ref (ad 1)) (C := RX1) (T := TX1) (N := 12) hx hb hts zi_X1_whatIs_X1 hown hK.1 hP 0 rfl rfl 0 (by decide) (hts _ zk_X1_whatIs_0) (fun _ h9 => h9) rfl dX1_whatIs_70 ?_
                  obtain ⟨n21, g22, h⟩ := bo1 h
                  refine zb_callV (As := [.ref (ad 1)]) (rest := []) ⟨hx, hb, hml, hown, hts⟩ (zc_X0_becomes l D cI (ad 8) (ad 9) (ad 10) (ad 11) (ad 12) (ad 13) (ad 14) (ad 1) (ad 2) (ad 3) (ad 4) (ad 5) (ad 6) (ad 7) x18 g_now n21 g22) (cwV 1 hts gX1_whatIs_X0_becomes rfl rfl rfl hd_X0_becomes ⟨Nat.le_of_ble_eq_true rfl, Nat.le_of_ble_eq_true rfl⟩) hK hP hD hS hA (zb_cGmn) (q0 := 0) rfl rfl rfl hl.1 rfl (Nat.le_of_ble_eq_true rfl) dX1_whatIs_73 ⟨Nat.le_refl _, Nat.le_refl _⟩ (fun H locs hP hD hS => ?_)
                  refine lv_iload_n hx hb dX1_whatIs_76 rfl (lv_at hl 3 rfl) ?_
                  refine lv_if_ne (tgt := 93) hx hb dX1_whatIs_77 (by decide) (fun c23 => ?_) (fun c23 => ?_)
                  · replace h := it_f c23 h
                    refine lv_aload_n hx hb dX1_whatIs_93 rfl (lv_at hl 0 rfl) ?_
                    refine va_get (D := D) (ci := 1) (v := .ref (ad 8)) (C := RX1) (T := TX1) (N := 12) hx hb hts zi_X1_whatIs_X1 hown hK.1 hP 0 rfl rfl 1 (by decide) (hts _ zk_X1_whatIs_1) (fun _ h9 => h9) rfl dX1_whatIs_94 ?_
                    refine lv_iload_n hx hb dX1_whatIs_97 rfl (lv_at hl 1 rfl) ?_
                    refine lv_iload hx hb dX1_whatIs_98 (lv_at hl 6 rfl) ?_
                    obtain ⟨n24, g25, h⟩ := bo1 h
                    refine zb_callV (As := [.int v1, .int x17]) (rest := []) ⟨hx, hb, hml, hown, hts⟩ (zc_X0_putFigure l D cI (ad 8) (ad 9) (ad 10) (ad 11) (ad 12) (ad 13) (ad 14) n21 v1 x17 n24 g25) (cwV 2 hts gX1_whatIs_X0_putFigure rfl rfl rfl hd_X0_putFigure ⟨Nat.le_of_ble_eq_true rfl, Nat.le_of_ble_eq_true rfl⟩) hK hP hD hS hA (zb_cGm) (q0 := 0) rfl rfl rfl hl.1 rfl (Nat.le_of_ble_eq_true rfl) dX1_whatIs_100 ⟨Nat.le_refl _, Nat.le_refl _⟩ (fun H locs hP hD hS => ?_)
                    refine lv_aload_n hx hb dX1_whatIs_103 rfl (lv_at hl 0 rfl) ?_
                    refine lv_iload_n hx hb dX1_whatIs_104 rfl (lv_at hl 2 rfl) ?_
                    obtain ⟨r26, n27, g28, h⟩ := bo2 h
                    refine zb_callV (As := [.int v2]) (rest := []) ⟨hx, hb, hml, hown, hts⟩ (zc_X1_isAsTold l D cI ad g_now n24 g_taken g_isTaken g_letters g_letterCount g_told g_toldCount g_refusals g_costs g_gains g_seed v2 r26 n27 g28) (cwV 1 hts gX1_whatIs_X1_isAsTold rfl rfl rfl hd_X1_isAsTold ⟨Nat.le_of_ble_eq_true rfl, Nat.le_of_ble_eq_true rfl⟩) hK hP hD hS hA (zb_sG) (q0 := 0) rfl rfl rfl hl.1 rfl (Nat.le_of_ble_eq_true rfl) dX1_whatIs_105 ⟨Nat.le_refl _, Nat.le_refl _⟩ (fun H locs hP hD hS => ?_)
                    refine lv_if_eq (tgt := 120) hx hb dX1_whatIs_108 (by decide) (fun c29 => ?_) (fun c29 => ?_)
                    · replace h := it_t c29 h
                      refine lv_iinc (v := (x17 + (1 : Int32))) (lv' := [(6, .int (x17 + (1 : Int32))), (0, .ref (ad 0)), (1, .int v1), (2, .int v2), (3, .int v3), (4, .int x16), (5, .int (9 : Int32))]) hx hb dX1_whatIs_120 hl (k := 6) rfl (by first | rfl | decide) (by decide) rfl (fun ls hl => ?_)
                      refine lv_goto (tgt := 58) hx hb dX1_whatIs_123 (by decide) ?_
                      exact ih19 x16 (x17 + (1 : Int32)) n27 _ _ hP hD hS ls (lv_sub hl [1, 2, 3, 4, 5, 6, 0] rfl) h
                    · replace h := it_f c29 h
                      refine lv_iload hx hb dX1_whatIs_111 (lv_at hl 4 rfl) ?_
                      refine lv_iconst (v := (1 : Int32)) hx hb dX1_whatIs_113 (by decide) ?_
                      refine lv_iload hx hb dX1_whatIs_114 (lv_at hl 6 rfl) ?_
                      refine lv_ishl hx hb dX1_whatIs_116 ?_
                      refine lv_ior hx hb dX1_whatIs_117 ?_
                      refine lv_istore (lv' := [(4, .int (x16 ||| ((1 : Int32) <<< (x17 &&& 31)))), (0, .ref (ad 0)), (1, .int v1), (2, .int v2), (3, .int v3), (5, .int (9 : Int32)), (6, .int x17)]) hx hb dX1_whatIs_118 hl (by decide) rfl (fun ls hl => ?_)
                      refine lv_iinc (v := (x17 + (1 : Int32))) (lv' := [(6, .int (x17 + (1 : Int32))), (4, .int (x16 ||| ((1 : Int32) <<< (x17 &&& 31)))), (0, .ref (ad 0)), (1, .int v1), (2, .int v2), (3, .int v3), (5, .int (9 : Int32))]) hx hb dX1_whatIs_120 hl (k := 6) rfl (by first | rfl | decide) (by decide) rfl (fun ls hl => ?_)
                      refine lv_goto (tgt := 58) hx hb dX1_whatIs_123 (by decide) ?_
                      exact ih19 (x16 ||| ((1 : Int32) <<< (x17 &&& 31))) (x17 + (1 : Int32)) n27 _ _ hP hD hS ls (lv_sub hl [2, 3, 4, 5, 1, 6, 0] rfl) h
                  · replace h := it_t c23 h
                    refine lv_aload_n hx hb dX1_whatIs_80 rfl (lv_at hl 0 rfl) ?_
                    refine va_get (D := D) (ci := 1) (v := .ref (ad 8)) (C := RX1) (T := TX1) (N := 12) hx hb hts zi_X1_whatIs_X1 hown hK.1 hP 0 rfl rfl 1 (by decide) (hts _ zk_X1_whatIs_1) (fun _ h9 => h9) rfl dX1_whatIs_81 ?_
                    refine lv_iload_n hx hb dX1_whatIs_84 rfl (lv_at hl 1 rfl) ?_
                    refine lv_iload hx hb dX1_whatIs_85 (lv_at hl 6 rfl) ?_
                    obtain ⟨n30, g31, h⟩ := bo1 h
                    refine zb_callV (As := [.int v1, .int x17]) (rest := []) ⟨hx, hb, hml, hown, hts⟩ (zc_X0_putKind l D cI (ad 8) (ad 9) (ad 10) (ad 11) (ad 12) (ad 13) (ad 14) n21 v1 x17 n30 g31) (cwV 2 hts gX1_whatIs_X0_putKind rfl rfl rfl hd_X0_putKind ⟨Nat.le_of_ble_eq_true rfl, Nat.le_of_ble_eq_true rfl⟩) hK hP hD hS hA (zb_cGm) (q0 := 0) rfl rfl rfl hl.1 rfl (Nat.le_of_ble_eq_true rfl) dX1_whatIs_87 ⟨Nat.le_refl _, Nat.le_refl _⟩ (fun H locs hP hD hS => ?_)
                    refine lv_goto (tgt := 103) hx hb dX1_whatIs_90 (by decide) ?_
                    refine lv_aload_n hx hb dX1_whatIs_103 rfl (lv_at hl 0 rfl) ?_
                    refine lv_iload_n hx hb dX1_whatIs_104 rfl (lv_at hl 2 rfl) ?_
                    obtain ⟨r32, n33, g34, h⟩ := bo2 h
                    refine zb_callV (As := [.int v2]) (rest := []) ⟨hx, hb, hml, hown, hts⟩ (zc_X1_isAsTold l D cI ad g_now n30 g_taken g_isTaken g_letters g_letterCount g_told g_toldCount g_refusals g_costs g_gains g_seed v2 r32 n33 g34) (cwV 1 hts gX1_whatIs_X1_isAsTold rfl rfl rfl hd_X1_isAsTold ⟨Nat.le_of_ble_eq_true rfl, Nat.le_of_ble_eq_true rfl⟩) hK hP hD hS hA (zb_sG) (q0 := 0) rfl rfl rfl hl.1 rfl (Nat.le_of_ble_eq_true rfl) dX1_whatIs_105 ⟨Nat.le_refl _, Nat.le_refl _⟩ (fun H locs hP hD hS => ?_)
                    refine lv_if_eq (tgt := 120) hx hb dX1_whatIs_108 (by decide) (fun c35 => ?_) (fun c35 => ?_)
                    · replace h := it_t c35 h
                      refine lv_iinc (v := (x17 + (1 : Int32))) (lv' := [(6, .int (x17 + (1 : Int32))), (0, .ref (ad 0)), (1, .int v1), (2, .int v2), (3, .int v3), (4, .int x16), (5, .int (9 : Int32))]) hx hb dX1_whatIs_120 hl (k := 6) rfl (by first | rfl | decide) (by decide) rfl (fun ls hl => ?_)
                      refine lv_goto (tgt := 58) hx hb dX1_whatIs_123 (by decide) ?_
                      exact ih19 x16 (x17 + (1 : Int32)) n33 _ _ hP hD hS ls (lv_sub hl [1, 2, 3, 4, 5, 6, 0] rfl) h
                    · replace h := it_f c35 h
                      refine lv_iload hx hb dX1_whatIs_111 (lv_at hl 4 rfl) ?_
                      refine lv_iconst (v := (1 : Int32)) hx hb dX1_whatIs_113 (by decide) ?_
                      refine lv_iload hx hb dX1_whatIs_114 (lv_at hl 6 rfl) ?_
                      refine lv_ishl hx hb dX1_whatIs_116 ?_
                      refine lv_ior hx hb dX1_whatIs_117 ?_
                      refine lv_istore (lv' := [(4, .int (x16 ||| ((1 : Int32) <<< (x17 &&& 31)))), (0, .ref (ad 0)), (1, .int v1), (2, .int v2), (3, .int v3), (5, .int (9 : Int32)), (6, .int x17)]) hx hb dX1_whatIs_118 hl (by decide) rfl (fun ls hl => ?_)
                      refine lv_iinc (v := (x17 + (1 : Int32))) (lv' := [(6, .int (x17 + (1 : Int32))), (4, .int (x16 ||| ((1 : Int32) <<< (x17 &&& 31)))), (0, .ref (ad 0)), (1, .int v1), (2, .int v2), (3, .int v3), (5, .int (9 : Int32))]) hx hb dX1_whatIs_120 hl (k := 6) rfl (by first | rfl | decide) (by decide) rfl (fun ls hl => ?_)
                      refine lv_goto (tgt := 58) hx hb dX1_whatIs_123 (by decide) ?_
                      exact ih19 (x16 ||| ((1 : Int32) <<< (x17 &&& 31))) (x17 + (1 : Int32)) n33 _ _ hP hD hS ls (lv_sub hl [2, 3, 4, 5, 1, 6, 0] rfl) h
            exact lp19 zb_FU (0 : Int32) (0 : Int32) g_mind _ _ hP hD hS ls (lv_sub hl [3, 4, 5, 6, 2, 1, 0] rfl) h
          · replace h := it_t c15 h
            refine lv_iconst (v := (5 : Int32)) hx hb dX1_whatIs_47 (by decide) ?_
            refine lv_goto (tgt := 53) hx hb dX1_whatIs_48 (by decide) ?_
            refine lv_istore (lv' := [(5, .int (5 : Int32)), (4, .int (0 : Int32)), (0, .ref (ad 0)), (1, .int v1), (2, .int v2), (3, .int v3)]) hx hb dX1_whatIs_53 hl (by decide) rfl (fun ls hl => ?_)
            refine lv_iconst (v := (0 : Int32)) hx hb dX1_whatIs_55 (by decide) ?_
            refine lv_istore (lv' := [(6, .int (0 : Int32)), (5, .int (5 : Int32)), (4, .int (0 : Int32)), (0, .ref (ad 0)), (1, .int v1), (2, .int v2), (3, .int v3)]) hx hb dX1_whatIs_56 hl (by decide) rfl (fun ls hl => ?_)
            have lp39 : ∀ (fu39 : Nat) (x36 : Int32) (x37 : Int32) (x38 : BT) (H : Heap) (locs : List Loc) (hP : va_P D zb_cl (zb_G cI ad g_now x38 g_taken g_isTaken g_letters g_letterCount g_told g_toldCount g_refusals g_costs g_gains g_seed) H) (hD : va_D A (zb_G cI ad g_now x38 g_taken g_isTaken g_letters g_letterCount g_told g_toldCount g_refusals g_costs g_gains g_seed)) (hS : va_S A s.heap H locs) (ls : Array Slot) (hl : lv_has ls 7 [(0, .ref (ad 0)), (1, .int v1), (2, .int v2), (3, .int v3), (4, .int x36), (5, .int (5 : Int32)), (6, .int x37)]) (h : zl3 (zf_X1_whatIs_b58 v1 v2 v3 (5 : Int32) g_now g_told g_toldCount g_refusals) fu39 x36 x37 x38 = some (r0, w_g_mind, w_g_refusals)), W p l e rm_X1_whatIs s m args below meth c H locs 0 0 (zb_Q below D (some (.int r0)) (zb_G cI ad g_now w_g_mind g_taken g_isTaken g_letters g_letterCount g_told g_toldCount w_g_refusals g_costs g_gains g_seed) A args s) (F0 m 58 ls []) := by
              intro fu39
              induction fu39 with
              | zero => intro x36 x37 x38 H locs hP hD hS ls hl h; exact zb_no h
              | succ fu39 ih39 =>
                intro x36 x37 x38 H locs hP hD hS ls hl h
                replace h : zf_X1_whatIs_b58 v1 v2 v3 (5 : Int32) g_now g_told g_toldCount g_refusals (zl3 (zf_X1_whatIs_b58 v1 v2 v3 (5 : Int32) g_now g_told g_toldCount g_refusals) fu39) x36 x37 x38 = some (r0, w_g_mind, w_g_refusals) := h
                unfold zf_X1_whatIs_b58 at h
                refine lv_iload hx hb dX1_whatIs_58 (lv_at hl 6 rfl) ?_
                refine lv_iload hx hb dX1_whatIs_60 (lv_at hl 5 rfl) ?_
                refine lv_icmp_gt (tgt := 126) hx hb dX1_whatIs_62 (by decide) (fun c40 => ?_) (fun c40 => ?_)
                · replace h := it_t c40 h
                  refine lv_iload hx hb dX1_whatIs_126 (lv_at hl 4 rfl) ?_
                  obtain ⟨rfl, rfl, rfl⟩ := re3 h
                  exact zb_iret hx hb hr hlk hP hS dX1_whatIs_128
                · replace h := it_f c40 h
                  refine lv_aload_n hx hb dX1_whatIs_65 rfl (lv_at hl 0 rfl) ?_
                  refine va_get (D := D) (ci := 1) (v := .ref (ad 8)) (C := RX1) (T := TX1) (N := 12) hx hb hts zi_X1_whatIs_X1 hown hK.1 hP 0 rfl rfl 1 (by decide) (hts _ zk_X1_whatIs_1) (fun _ h9 => h9) rfl dX1_whatIs_66 ?_
                  refine lv_aload_n hx hb dX1_whatIs_69 rfl (lv_at hl 0 rfl) ?_
                  refine va_get (D := D) (ci := 1) (v := .ref (ad 1)) (C := RX1) (T := TX1) (N := 12) hx hb hts zi_X1_whatIs_X1 hown hK.1 hP 0 rfl rfl 0 (by decide) (hts _ zk_X1_whatIs_0) (fun _ h9 => h9) rfl dX1_whatIs_70 ?_
                  obtain ⟨n41, g42, h⟩ := bo1 h
                  refine zb_callV (As := [.ref (ad 1)]) (rest := []) ⟨hx, hb, hml, hown, hts⟩ (zc_X0_becomes l D cI (ad 8) (ad 9) (ad 10) (ad 11) (ad 12) (ad 13) (ad 14) (ad 1) (ad 2) (ad 3) (ad 4) (ad 5) (ad 6) (ad 7) x38 g_now n41 g42) (cwV 1 hts gX1_whatIs_X0_becomes rfl rfl rfl hd_X0_becomes ⟨Nat.le_of_ble_eq_true rfl, Nat.le_of_ble_eq_true rfl⟩) hK hP hD hS hA (zb_cGmn) (q0 := 0) rfl rfl rfl hl.1 rfl (Nat.le_of_ble_eq_true rfl) dX1_whatIs_73 ⟨Nat.le_refl _, Nat.le_refl _⟩ (fun H locs hP hD hS => ?_)
                  refine lv_iload_n hx hb dX1_whatIs_76 rfl (lv_at hl 3 rfl) ?_
                  refine lv_if_ne (tgt := 93) hx hb dX1_whatIs_77 (by decide) (fun c43 => ?_) (fun c43 => ?_)
                  · replace h := it_f c43 h
                    refine lv_aload_n hx hb dX1_whatIs_93 rfl (lv_at hl 0 rfl) ?_
                    refine va_get (D := D) (ci := 1) (v := .ref (ad 8)) (C := RX1) (T := TX1) (N := 12) hx hb hts zi_X1_whatIs_X1 hown hK.1 hP 0 rfl rfl 1 (by decide) (hts _ zk_X1_whatIs_1) (fun _ h9 => h9) rfl dX1_whatIs_94 ?_
                    refine lv_iload_n hx hb dX1_whatIs_97 rfl (lv_at hl 1 rfl) ?_
                    refine lv_iload hx hb dX1_whatIs_98 (lv_at hl 6 rfl) ?_
                    obtain ⟨n44, g45, h⟩ := bo1 h
                    refine zb_callV (As := [.int v1, .int x37]) (rest := []) ⟨hx, hb, hml, hown, hts⟩ (zc_X0_putFigure l D cI (ad 8) (ad 9) (ad 10) (ad 11) (ad 12) (ad 13) (ad 14) n41 v1 x37 n44 g45) (cwV 2 hts gX1_whatIs_X0_putFigure rfl rfl rfl hd_X0_putFigure ⟨Nat.le_of_ble_eq_true rfl, Nat.le_of_ble_eq_true rfl⟩) hK hP hD hS hA (zb_cGm) (q0 := 0) rfl rfl rfl hl.1 rfl (Nat.le_of_ble_eq_true rfl) dX1_whatIs_100 ⟨Nat.le_refl _, Nat.le_refl _⟩ (fun H locs hP hD hS => ?_)
                    refine lv_aload_n hx hb dX1_whatIs_103 rfl (lv_at hl 0 rfl) ?_
                    refine lv_iload_n hx hb dX1_whatIs_104 rfl (lv_at hl 2 rfl) ?_
                    obtain ⟨r46, n47, g48, h⟩ := bo2 h
                    refine zb_callV (As := [.int v2]) (rest := []) ⟨hx, hb, hml, hown, hts⟩ (zc_X1_isAsTold l D cI ad g_now n44 g_taken g_isTaken g_letters g_letterCount g_told g_toldCount g_refusals g_costs g_gains g_seed v2 r46 n47 g48) (cwV 1 hts gX1_whatIs_X1_isAsTold rfl rfl rfl hd_X1_isAsTold ⟨Nat.le_of_ble_eq_true rfl, Nat.le_of_ble_eq_true rfl⟩) hK hP hD hS hA (zb_sG) (q0 := 0) rfl rfl rfl hl.1 rfl (Nat.le_of_ble_eq_true rfl) dX1_whatIs_105 ⟨Nat.le_refl _, Nat.le_refl _⟩ (fun H locs hP hD hS => ?_)
                    refine lv_if_eq (tgt := 120) hx hb dX1_whatIs_108 (by decide) (fun c49 => ?_) (fun c49 => ?_)
                    · replace h := it_t c49 h
                      refine lv_iinc (v := (x37 + (1 : Int32))) (lv' := [(6, .int (x37 + (1 : Int32))), (0, .ref (ad 0)), (1, .int v1), (2, .int v2), (3, .int v3), (4, .int x36), (5, .int (5 : Int32))]) hx hb dX1_whatIs_120 hl (k := 6) rfl (by first | rfl | decide) (by decide) rfl (fun ls hl => ?_)
                      refine lv_goto (tgt := 58) hx hb dX1_whatIs_123 (by decide) ?_
                      exact ih39 x36 (x37 + (1 : Int32)) n47 _ _ hP hD hS ls (lv_sub hl [1, 2, 3, 4, 5, 6, 0] rfl) h
                    · replace h := it_f c49 h
                      refine lv_iload hx hb dX1_whatIs_111 (lv_at hl 4 rfl) ?_
                      refine lv_iconst (v := (1 : Int32)) hx hb dX1_whatIs_113 (by decide) ?_
                      refine lv_iload hx hb dX1_whatIs_114 (lv_at hl 6 rfl) ?_
                      refine lv_ishl hx hb dX1_whatIs_116 ?_
                      refine lv_ior hx hb dX1_whatIs_117 ?_
                      refine lv_istore (lv' := [(4, .int (x36 ||| ((1 : Int32) <<< (x37 &&& 31)))), (0, .ref (ad 0)), (1, .int v1), (2, .int v2), (3, .int v3), (5, .int (5 : Int32)), (6, .int x37)]) hx hb dX1_whatIs_118 hl (by decide) rfl (fun ls hl => ?_)
                      refine lv_iinc (v := (x37 + (1 : Int32))) (lv' := [(6, .int (x37 + (1 : Int32))), (4, .int (x36 ||| ((1 : Int32) <<< (x37 &&& 31)))), (0, .ref (ad 0)), (1, .int v1), (2, .int v2), (3, .int v3), (5, .int (5 : Int32))]) hx hb dX1_whatIs_120 hl (k := 6) rfl (by first | rfl | decide) (by decide) rfl (fun ls hl => ?_)
                      refine lv_goto (tgt := 58) hx hb dX1_whatIs_123 (by decide) ?_
                      exact ih39 (x36 ||| ((1 : Int32) <<< (x37 &&& 31))) (x37 + (1 : Int32)) n47 _ _ hP hD hS ls (lv_sub hl [2, 3, 4, 5, 1, 6, 0] rfl) h
                  · replace h := it_t c43 h
                    refine lv_aload_n hx hb dX1_whatIs_80 rfl (lv_at hl 0 rfl) ?_
                    refine va_get (D := D) (ci := 1) (v := .ref (ad 8)) (C := RX1) (T := TX1) (N := 12) hx hb hts zi_X1_whatIs_X1 hown hK.1 hP 0 rfl rfl 1 (by decide) (hts _ zk_X1_whatIs_1) (fun _ h9 => h9) rfl dX1_whatIs_81 ?_
                    refine lv_iload_n hx hb dX1_whatIs_84 rfl (lv_at hl 1 rfl) ?_
                    refine lv_iload hx hb dX1_whatIs_85 (lv_at hl 6 rfl) ?_
                    obtain ⟨n50, g51, h⟩ := bo1 h
                    refine zb_callV (As := [.int v1, .int x37]) (rest := []) ⟨hx, hb, hml, hown, hts⟩ (zc_X0_putKind l D cI (ad 8) (ad 9) (ad 10) (ad 11) (ad 12) (ad 13) (ad 14) n41 v1 x37 n50 g51) (cwV 2 hts gX1_whatIs_X0_putKind rfl rfl rfl hd_X0_putKind ⟨Nat.le_of_ble_eq_true rfl, Nat.le_of_ble_eq_true rfl⟩) hK hP hD hS hA (zb_cGm) (q0 := 0) rfl rfl rfl hl.1 rfl (Nat.le_of_ble_eq_true rfl) dX1_whatIs_87 ⟨Nat.le_refl _, Nat.le_refl _⟩ (fun H locs hP hD hS => ?_)
                    refine lv_goto (tgt := 103) hx hb dX1_whatIs_90 (by decide) ?_
                    refine lv_aload_n hx hb dX1_whatIs_103 rfl (lv_at hl 0 rfl) ?_
                    refine lv_iload_n hx hb dX1_whatIs_104 rfl (lv_at hl 2 rfl) ?_
                    obtain ⟨r52, n53, g54, h⟩ := bo2 h
                    refine zb_callV (As := [.int v2]) (rest := []) ⟨hx, hb, hml, hown, hts⟩ (zc_X1_isAsTold l D cI ad g_now n50 g_taken g_isTaken g_letters g_letterCount g_told g_toldCount g_refusals g_costs g_gains g_seed v2 r52 n53 g54) (cwV 1 hts gX1_whatIs_X1_isAsTold rfl rfl rfl hd_X1_isAsTold ⟨Nat.le_of_ble_eq_true rfl, Nat.le_of_ble_eq_true rfl⟩) hK hP hD hS hA (zb_sG) (q0 := 0) rfl rfl rfl hl.1 rfl (Nat.le_of_ble_eq_true rfl) dX1_whatIs_105 ⟨Nat.le_refl _, Nat.le_refl _⟩ (fun H locs hP hD hS => ?_)
                    refine lv_if_eq (tgt := 120) hx hb dX1_whatIs_108 (by decide) (fun c55 => ?_) (fun c55 => ?_)
                    · replace h := it_t c55 h
                      refine lv_iinc (v := (x37 + (1 : Int32))) (lv' := [(6, .int (x37 + (1 : Int32))), (0, .ref (ad 0)), (1, .int v1), (2, .int v2), (3, .int v3), (4, .int x36), (5, .int (5 : Int32))]) hx hb dX1_whatIs_120 hl (k := 6) rfl (by first | rfl | decide) (by decide) rfl (fun ls hl => ?_)
                      refine lv_goto (tgt := 58) hx hb dX1_whatIs_123 (by decide) ?_
                      exact ih39 x36 (x37 + (1 : Int32)) n53 _ _ hP hD hS ls (lv_sub hl [1, 2, 3, 4, 5, 6, 0] rfl) h
                    · replace h := it_f c55 h
                      refine lv_iload hx hb dX1_whatIs_111 (lv_at hl 4 rfl) ?_
                      refine lv_iconst (v := (1 : Int32)) hx hb dX1_whatIs_113 (by decide) ?_
                      refine lv_iload hx hb dX1_whatIs_114 (lv_at hl 6 rfl) ?_
                      refine lv_ishl hx hb dX1_whatIs_116 ?_
                      refine lv_ior hx hb dX1_whatIs_117 ?_
                      refine lv_istore (lv' := [(4, .int (x36 ||| ((1 : Int32) <<< (x37 &&& 31)))), (0, .ref (ad 0)), (1, .int v1), (2, .int v2), (3, .int v3), (5, .int (5 : Int32)), (6, .int x37)]) hx hb dX1_whatIs_118 hl (by decide) rfl (fun ls hl => ?_)
                      refine lv_iinc (v := (x37 + (1 : Int32))) (lv' := [(6, .int (x37 + (1 : Int32))), (4, .int (x36 ||| ((1 : Int32) <<< (x37 &&& 31)))), (0, .ref (ad 0)), (1, .int v1), (2, .int v2), (3, .int v3), (5, .int (5 : Int32))]) hx hb dX1_whatIs_120 hl (k := 6) rfl (by first | rfl | decide) (by decide) rfl (fun ls hl => ?_)
                      refine lv_goto (tgt := 58) hx hb dX1_whatIs_123 (by decide) ?_
                      exact ih39 (x36 ||| ((1 : Int32) <<< (x37 &&& 31))) (x37 + (1 : Int32)) n53 _ _ hP hD hS ls (lv_sub hl [2, 3, 4, 5, 1, 6, 0] rfl) h
            exact lp39 zb_FU (0 : Int32) (0 : Int32) g_mind _ _ hP hD hS ls (lv_sub hl [3, 4, 5, 6, 2, 1, 0] rfl) h
        · replace h := it_f c14 h
          refine lv_aload_n hx hb dX1_whatIs_33 rfl (lv_at hl 0 rfl) ?_
          refine lv_bipush (v := ((-2) : Int32)) hx hb dX1_whatIs_34 (by decide) ?_
          obtain ⟨r56, n57, g58, h⟩ := bo2 h
          refine zb_callV (As := [.int ((-2) : Int32)]) (rest := []) ⟨hx, hb, hml, hown, hts⟩ (zc_X1_refuse l D cI ad g_now g_mind g_taken g_isTaken g_letters g_letterCount g_told g_toldCount g_refusals g_costs g_gains g_seed ((-2) : Int32) r56 n57 g58) (cwV 1 hts gX1_whatIs_X1_refuse rfl rfl rfl hd_X1_refuse ⟨Nat.le_of_ble_eq_true rfl, Nat.le_of_ble_eq_true rfl⟩) hK hP hD hS hA (zb_sG) (q0 := 0) rfl rfl rfl hl.1 rfl (Nat.le_of_ble_eq_true rfl) dX1_whatIs_36 ⟨Nat.le_refl _, Nat.le_refl _⟩ (fun H locs hP hD hS => ?_)
          obtain ⟨rfl, rfl, rfl⟩ := re3 h
          exact zb_iret hx hb hr hlk hP hS dX1_whatIs_39
    · replace h := it_t c9 h
      refine lv_aload_n hx hb dX1_whatIs_18 rfl (lv_at hl 0 rfl) ?_
      refine lv_iconst (v := ((-1) : Int32)) hx hb dX1_whatIs_19 (by decide) ?_
      obtain ⟨r59, n60, g61, h⟩ := bo2 h
      refine zb_callV (As := [.int ((-1) : Int32)]) (rest := []) ⟨hx, hb, hml, hown, hts⟩ (zc_X1_refuse l D cI ad g_now g_mind g_taken g_isTaken g_letters g_letterCount g_told g_toldCount g_refusals g_costs g_gains g_seed ((-1) : Int32) r59 n60 g61) (cwV 1 hts gX1_whatIs_X1_refuse rfl rfl rfl hd_X1_refuse ⟨Nat.le_of_ble_eq_true rfl, Nat.le_of_ble_eq_true rfl⟩) hK hP hD hS hA (zb_sG) (q0 := 0) rfl rfl rfl hl.1 rfl (Nat.le_of_ble_eq_true rfl) dX1_whatIs_20 ⟨Nat.le_refl _, Nat.le_refl _⟩ (fun H locs hP hD hS => ?_)
      obtain ⟨rfl, rfl, rfl⟩ := re3 h
      exact zb_iret hx hb hr hlk hP hS dX1_whatIs_23
abbrev rm_X1_row : Room := { frames := 1, cells := 0, slots := 0, locals := 22 }
theorem hd_X1_row : yX1_row.cls = RX1 ∧ yX1_row.cls ≠ "java/lang/invoke/MethodHandle" ∧ yX1_row.cls ≠ "java/lang/invoke/VarHandle" ∧ (parseMethodDescriptor yX1_row.desc).map (fun d => d.parameters.length) = some 1 := by decide +kernel
theorem zi_X1_row_X1 : ∀ w ∈ wsX10, w ∈ wsX1_row := fun _ h => List.mem_cons_of_mem _ (List.mem_append_right _ h)
theorem zk_X1_row_0 : Cond.fieldLink RX1 192 "GroutingIsFollowed" "toldCount" "I" ∈ wsX1_row := by decide +kernel
theorem zk_X1_row_1 : Cond.fieldLink RX1 26 "GroutingIsFollowed" "told" "[I" ∈ wsX1_row := by decide +kernel
set_option maxHeartbeats 4000000 in
set_option maxRecDepth 100000 in
theorem zc_X1_row (l : Launch) (D : va_G) (cI : ClassId) (ad : Nat → Nat) (g_now : BT) (g_mind : BT) (g_taken : BT) (g_isTaken : Int32) (g_letters : (Nat → Int32)) (g_letterCount : Int32) (g_told : (Nat → Int32)) (g_toldCount : Int32) (g_refusals : (Nat → Int32)) (g_costs : (Nat → Int32)) (g_gains : (Nat → Int32)) (g_seed : Int32) (v1 : Int32) (r0 : Int32) (w_g_told : (Nat → Int32)) (w_g_toldCount : Int32) (w_g_refusals : (Nat → Int32)) (h : zf_X1_row g_told g_toldCount g_refusals v1 = some (r0, w_g_told, w_g_toldCount, w_g_refusals)) : Cn l D cI yX1_row wsX1_row rm_X1_row [.ref (ad 0), .int v1] (zb_G cI ad g_now g_mind g_taken g_isTaken g_letters g_letterCount g_told g_toldCount g_refusals g_costs g_gains g_seed) (some (.int r0)) (zb_G cI ad g_now g_mind g_taken g_isTaken g_letters g_letterCount w_g_told w_g_toldCount w_g_refusals g_costs g_gains g_seed) := by
  refine zb_ofW (cc := cX1_row) (maxL := 2) (ret := (some .int)) (by decide) rfl (Nat.le_of_ble_eq_true rfl) ?_
  intro p e s m args below meth c A ls hx hb hr hml hts hown hlk hK hP hD hA hl
  have hS : va_S A s.heap s.heap [] := va_S.rf
  have hl : lv_has ls 2 [(0, .ref (ad 0)), (1, .int v1)] := hl
  unfold zf_X1_row at h
  refine lv_iload_n hx hb dX1_row_0 rfl (lv_at hl 1 rfl) ?_
  refine lv_if_ge (tgt := 11) hx hb dX1_row_1 (by decide) (fun c1 => ?_) (fun c1 => ?_)
  · replace h := it_t c1 h
    refine lv_iload_n hx hb dX1_row_11 rfl (lv_at hl 1 rfl) ?_
    refine lv_bipush (v := (99 : Int32)) hx hb dX1_row_12 (by decide) ?_
    refine lv_icmp_gt (tgt := 26) hx hb dX1_row_14 (by decide) (fun c2 => ?_) (fun c2 => ?_)
    · replace h := it_t c2 h
      refine lv_aload_n hx hb dX1_row_26 rfl (lv_at hl 0 rfl) ?_
      refine lv_bipush (v := ((-6) : Int32)) hx hb dX1_row_27 (by decide) ?_
      obtain ⟨r3, n4, g5, h⟩ := bo2 h
      refine zb_callV (As := [.int ((-6) : Int32)]) (rest := []) ⟨hx, hb, hml, hown, hts⟩ (zc_X1_refuse l D cI ad g_now g_mind g_taken g_isTaken g_letters g_letterCount g_told g_toldCount g_refusals g_costs g_gains g_seed ((-6) : Int32) r3 n4 g5) (cwV 1 hts gX1_row_X1_refuse rfl rfl rfl hd_X1_refuse ⟨Nat.le_of_ble_eq_true rfl, Nat.le_of_ble_eq_true rfl⟩) hK hP hD hS hA (zb_sG) (q0 := 0) rfl rfl rfl hl.1 rfl (Nat.le_of_ble_eq_true rfl) dX1_row_29 ⟨Nat.le_refl _, Nat.le_refl _⟩ (fun H locs hP hD hS => ?_)
      obtain ⟨rfl, rfl, rfl, rfl⟩ := re4 h
      exact zb_iret hx hb hr hlk hP hS dX1_row_32
    · replace h := it_f c2 h
      refine lv_aload_n hx hb dX1_row_17 rfl (lv_at hl 0 rfl) ?_
      refine va_get (D := D) (ci := 1) (v := .int g_toldCount) (C := RX1) (T := TX1) (N := 12) hx hb hts zi_X1_row_X1 hown hK.1 hP 0 rfl rfl 7 (by decide) (hts _ zk_X1_row_0) (fun _ h9 => h9) rfl dX1_row_18 ?_
      refine lv_bipush (v := (16 : Int32)) hx hb dX1_row_21 (by decide) ?_
      refine lv_icmp_lt (tgt := 33) hx hb dX1_row_23 (by decide) (fun c6 => ?_) (fun c6 => ?_)
      · replace h := it_t c6 h
        refine lv_aload_n hx hb dX1_row_33 rfl (lv_at hl 0 rfl) ?_
        refine va_get (D := D) (ci := 1) (v := .int g_toldCount) (C := RX1) (T := TX1) (N := 12) hx hb hts zi_X1_row_X1 hown hK.1 hP 0 rfl rfl 7 (by decide) (hts _ zk_X1_row_0) (fun _ h9 => h9) rfl dX1_row_34 ?_
        refine lv_if_lt (tgt := 62) hx hb dX1_row_37 (by decide) (fun c7 => ?_) (fun c7 => ?_)
        · replace h := it_t c7 h
          refine lv_aload_n hx hb dX1_row_62 rfl (lv_at hl 0 rfl) ?_
          refine lv_dup hx hb dX1_row_63 rfl ?_
          refine va_get (D := D) (ci := 1) (v := .int g_toldCount) (C := RX1) (T := TX1) (N := 12) hx hb hts zi_X1_row_X1 hown hK.1 hP 0 rfl rfl 7 (by decide) (hts _ zk_X1_row_0) (fun _ h9 => h9) rfl dX1_row_64 ?_
          refine lv_iconst (v := (1 : Int32)) hx hb dX1_row_67 (by decide) ?_
          refine lv_iadd hx hb dX1_row_68 ?_
          refine va_put (D := D) (ci := 1) (v := .int (g_toldCount + (1 : Int32))) (ty := .int) (C := RX1) (T := TX1) (N := 12) hx hb hts zi_X1_row_X1 tyX1 tyX1_ok nmX1 hown hK.1 hP hD hS 0 rfl rfl 7 (by decide) (hts _ zk_X1_row_0) (fun _ h9 => h9) rfl (by decide +kernel) rfl rfl (Nat.le_of_ble_eq_true rfl) dX1_row_69 (fun H locs hP hD hS => ?_)
          have hP : va_P D zb_cl (zb_G cI ad g_now g_mind g_taken g_isTaken g_letters g_letterCount g_told (g_toldCount + (1 : Int32)) g_refusals g_costs g_gains g_seed) H := hP
          have hD : va_D A (zb_G cI ad g_now g_mind g_taken g_isTaken g_letters g_letterCount g_told (g_toldCount + (1 : Int32)) g_refusals g_costs g_gains g_seed) := hD
          refine lv_aload_n hx hb dX1_row_72 rfl (lv_at hl 0 rfl) ?_
          refine va_get (D := D) (ci := 1) (v := .int (g_toldCount + (1 : Int32))) (C := RX1) (T := TX1) (N := 12) hx hb hts zi_X1_row_X1 hown hK.1 hP 0 rfl rfl 7 (by decide) (hts _ zk_X1_row_0) (fun _ h9 => h9) rfl dX1_row_73 ?_
          obtain ⟨rfl, rfl, rfl, rfl⟩ := re4 h
          exact zb_iret hx hb hr hlk hP hS dX1_row_76
        · replace h := it_f c7 h
          refine lv_aload_n hx hb dX1_row_40 rfl (lv_at hl 0 rfl) ?_
          refine va_get (D := D) (ci := 1) (v := .int g_toldCount) (C := RX1) (T := TX1) (N := 12) hx hb hts zi_X1_row_X1 hown hK.1 hP 0 rfl rfl 7 (by decide) (hts _ zk_X1_row_0) (fun _ h9 => h9) rfl dX1_row_41 ?_
          refine lv_aload_n hx hb dX1_row_44 rfl (lv_at hl 0 rfl) ?_
          refine va_get (D := D) (ci := 1) (v := .ref (ad 23)) (C := RX1) (T := TX1) (N := 12) hx hb hts zi_X1_row_X1 hown hK.1 hP 0 rfl rfl 6 (by decide) (hts _ zk_X1_row_1) (fun _ h9 => h9) rfl dX1_row_45 ?_
          refine va_alen (v := (16 : Int32)) hx hb hK.1 hP 23 0 rfl rfl rfl dX1_row_48 ?_
          refine lv_icmp_ge (tgt := 62) hx hb dX1_row_49 (by decide) (fun c8 => ?_) (fun c8 => ?_)
          · replace h := it_t c8 h
            refine lv_aload_n hx hb dX1_row_62 rfl (lv_at hl 0 rfl) ?_
            refine lv_dup hx hb dX1_row_63 rfl ?_
            refine va_get (D := D) (ci := 1) (v := .int g_toldCount) (C := RX1) (T := TX1) (N := 12) hx hb hts zi_X1_row_X1 hown hK.1 hP 0 rfl rfl 7 (by decide) (hts _ zk_X1_row_0) (fun _ h9 => h9) rfl dX1_row_64 ?_
            refine lv_iconst (v := (1 : Int32)) hx hb dX1_row_67 (by decide) ?_
            refine lv_iadd hx hb dX1_row_68 ?_
            refine va_put (D := D) (ci := 1) (v := .int (g_toldCount + (1 : Int32))) (ty := .int) (C := RX1) (T := TX1) (N := 12) hx hb hts zi_X1_row_X1 tyX1 tyX1_ok nmX1 hown hK.1 hP hD hS 0 rfl rfl 7 (by decide) (hts _ zk_X1_row_0) (fun _ h9 => h9) rfl (by decide +kernel) rfl rfl (Nat.le_of_ble_eq_true rfl) dX1_row_69 (fun H locs hP hD hS => ?_)
            have hP : va_P D zb_cl (zb_G cI ad g_now g_mind g_taken g_isTaken g_letters g_letterCount g_told (g_toldCount + (1 : Int32)) g_refusals g_costs g_gains g_seed) H := hP
            have hD : va_D A (zb_G cI ad g_now g_mind g_taken g_isTaken g_letters g_letterCount g_told (g_toldCount + (1 : Int32)) g_refusals g_costs g_gains g_seed) := hD
            refine lv_aload_n hx hb dX1_row_72 rfl (lv_at hl 0 rfl) ?_
            refine va_get (D := D) (ci := 1) (v := .int (g_toldCount + (1 : Int32))) (C := RX1) (T := TX1) (N := 12) hx hb hts zi_X1_row_X1 hown hK.1 hP 0 rfl rfl 7 (by decide) (hts _ zk_X1_row_0) (fun _ h9 => h9) rfl dX1_row_73 ?_
            obtain ⟨rfl, rfl, rfl, rfl⟩ := re4 h
            exact zb_iret hx hb hr hlk hP hS dX1_row_76
          · replace h := it_f c8 h
            refine lv_aload_n hx hb dX1_row_52 rfl (lv_at hl 0 rfl) ?_
            refine va_get (D := D) (ci := 1) (v := .ref (ad 23)) (C := RX1) (T := TX1) (N := 12) hx hb hts zi_X1_row_X1 hown hK.1 hP 0 rfl rfl 6 (by decide) (hts _ zk_X1_row_1) (fun _ h9 => h9) rfl dX1_row_53 ?_
            refine lv_aload_n hx hb dX1_row_56 rfl (lv_at hl 0 rfl) ?_
            refine va_get (D := D) (ci := 1) (v := .int g_toldCount) (C := RX1) (T := TX1) (N := 12) hx hb hts zi_X1_row_X1 hown hK.1 hP 0 rfl rfl 7 (by decide) (hts _ zk_X1_row_0) (fun _ h9 => h9) rfl dX1_row_57 ?_
            refine lv_iload_n hx hb dX1_row_60 rfl (lv_at hl 1 rfl) ?_
            obtain ⟨h9, h⟩ := it_g h
            refine va_iast hx hb hK.1 hP hD hS 23 0 rfl rfl h9 dX1_row_61 (fun H locs hP hD hS => ?_)
            have hP : va_P D zb_cl (zb_G cI ad g_now g_mind g_taken g_isTaken g_letters g_letterCount (upd g_told g_toldCount.toNatClampNeg v1) g_toldCount g_refusals g_costs g_gains g_seed) H := hP
            have hD : va_D A (zb_G cI ad g_now g_mind g_taken g_isTaken g_letters g_letterCount (upd g_told g_toldCount.toNatClampNeg v1) g_toldCount g_refusals g_costs g_gains g_seed) := hD
            refine lv_aload_n hx hb dX1_row_62 rfl (lv_at hl 0 rfl) ?_
            refine lv_dup hx hb dX1_row_63 rfl ?_
            refine va_get (D := D) (ci := 1) (v := .int g_toldCount) (C := RX1) (T := TX1) (N := 12) hx hb hts zi_X1_row_X1 hown hK.1 hP 0 rfl rfl 7 (by decide) (hts _ zk_X1_row_0) (fun _ h9 => h9) rfl dX1_row_64 ?_
            refine lv_iconst (v := (1 : Int32)) hx hb dX1_row_67 (by decide) ?_
            refine lv_iadd hx hb dX1_row_68 ?_
            refine va_put (D := D) (ci := 1) (v := .int (g_toldCount + (1 : Int32))) (ty := .int) (C := RX1) (T := TX1) (N := 12) hx hb hts zi_X1_row_X1 tyX1 tyX1_ok nmX1 hown hK.1 hP hD hS 0 rfl rfl 7 (by decide) (hts _ zk_X1_row_0) (fun _ h9 => h9) rfl (by decide +kernel) rfl rfl (Nat.le_of_ble_eq_true rfl) dX1_row_69 (fun H locs hP hD hS => ?_)
            have hP : va_P D zb_cl (zb_G cI ad g_now g_mind g_taken g_isTaken g_letters g_letterCount (upd g_told g_toldCount.toNatClampNeg v1) (g_toldCount + (1 : Int32)) g_refusals g_costs g_gains g_seed) H := hP
            have hD : va_D A (zb_G cI ad g_now g_mind g_taken g_isTaken g_letters g_letterCount (upd g_told g_toldCount.toNatClampNeg v1) (g_toldCount + (1 : Int32)) g_refusals g_costs g_gains g_seed) := hD
            refine lv_aload_n hx hb dX1_row_72 rfl (lv_at hl 0 rfl) ?_
            refine va_get (D := D) (ci := 1) (v := .int (g_toldCount + (1 : Int32))) (C := RX1) (T := TX1) (N := 12) hx hb hts zi_X1_row_X1 hown hK.1 hP 0 rfl rfl 7 (by decide) (hts _ zk_X1_row_0) (fun _ h9 => h9) rfl dX1_row_73 ?_
            obtain ⟨rfl, rfl, rfl, rfl⟩ := re4 h
            exact zb_iret hx hb hr hlk hP hS dX1_row_76
      · replace h := it_f c6 h
        refine lv_aload_n hx hb dX1_row_26 rfl (lv_at hl 0 rfl) ?_
        refine lv_bipush (v := ((-6) : Int32)) hx hb dX1_row_27 (by decide) ?_
        obtain ⟨r10, n11, g12, h⟩ := bo2 h
        refine zb_callV (As := [.int ((-6) : Int32)]) (rest := []) ⟨hx, hb, hml, hown, hts⟩ (zc_X1_refuse l D cI ad g_now g_mind g_taken g_isTaken g_letters g_letterCount g_told g_toldCount g_refusals g_costs g_gains g_seed ((-6) : Int32) r10 n11 g12) (cwV 1 hts gX1_row_X1_refuse rfl rfl rfl hd_X1_refuse ⟨Nat.le_of_ble_eq_true rfl, Nat.le_of_ble_eq_true rfl⟩) hK hP hD hS hA (zb_sG) (q0 := 0) rfl rfl rfl hl.1 rfl (Nat.le_of_ble_eq_true rfl) dX1_row_29 ⟨Nat.le_refl _, Nat.le_refl _⟩ (fun H locs hP hD hS => ?_)
        obtain ⟨rfl, rfl, rfl, rfl⟩ := re4 h
        exact zb_iret hx hb hr hlk hP hS dX1_row_32
  · replace h := it_f c1 h
    refine lv_aload_n hx hb dX1_row_4 rfl (lv_at hl 0 rfl) ?_
    refine lv_bipush (v := ((-4) : Int32)) hx hb dX1_row_5 (by decide) ?_
    obtain ⟨r13, n14, g15, h⟩ := bo2 h
    refine zb_callV (As := [.int ((-4) : Int32)]) (rest := []) ⟨hx, hb, hml, hown, hts⟩ (zc_X1_refuse l D cI ad g_now g_mind g_taken g_isTaken g_letters g_letterCount g_told g_toldCount g_refusals g_costs g_gains g_seed ((-4) : Int32) r13 n14 g15) (cwV 1 hts gX1_row_X1_refuse rfl rfl rfl hd_X1_refuse ⟨Nat.le_of_ble_eq_true rfl, Nat.le_of_ble_eq_true rfl⟩) hK hP hD hS hA (zb_sG) (q0 := 0) rfl rfl rfl hl.1 rfl (Nat.le_of_ble_eq_true rfl) dX1_row_7 ⟨Nat.le_refl _, Nat.le_refl _⟩ (fun H locs hP hD hS => ?_)
    obtain ⟨rfl, rfl, rfl, rfl⟩ := re4 h
    exact zb_iret hx hb hr hlk hP hS dX1_row_10
abbrev rm_X1_judge : Room := { frames := 2, cells := 0, slots := 0, locals := 41 }
theorem hd_X1_judge : yX1_judge.cls = RX1 ∧ yX1_judge.cls ≠ "java/lang/invoke/MethodHandle" ∧ yX1_judge.cls ≠ "java/lang/invoke/VarHandle" ∧ (parseMethodDescriptor yX1_judge.desc).map (fun d => d.parameters.length) = some 0 := by decide +kernel
theorem zi_X1_judge_X1 : ∀ w ∈ wsX10, w ∈ wsX1_judge := fun _ h => List.mem_cons_of_mem _ (List.mem_append_left _ (List.mem_append_right _ h))
theorem zk_X1_judge_0 : Cond.fieldLink RX1 192 "GroutingIsFollowed" "toldCount" "I" ∈ wsX1_judge := by decide +kernel
theorem zk_X1_judge_1 : Cond.fieldLink RX1 10 "GroutingIsFollowed" "now" "LGroutingIsFollowed$Bath;" ∈ wsX1_judge := by decide +kernel
set_option maxHeartbeats 4000000 in
set_option maxRecDepth 100000 in
theorem zc_X1_judge (l : Launch) (D : va_G) (cI : ClassId) (ad : Nat → Nat) (g_now : BT) (g_mind : BT) (g_taken : BT) (g_isTaken : Int32) (g_letters : (Nat → Int32)) (g_letterCount : Int32) (g_told : (Nat → Int32)) (g_toldCount : Int32) (g_refusals : (Nat → Int32)) (g_costs : (Nat → Int32)) (g_gains : (Nat → Int32)) (g_seed : Int32) (r0 : Int32) (w_g_toldCount : Int32) (h : zf_X1_judge g_now g_told g_toldCount = some (r0, w_g_toldCount)) : Cn l D cI yX1_judge wsX1_judge rm_X1_judge [.ref (ad 0)] (zb_G cI ad g_now g_mind g_taken g_isTaken g_letters g_letterCount g_told g_toldCount g_refusals g_costs g_gains g_seed) (some (.int r0)) (zb_G cI ad g_now g_mind g_taken g_isTaken g_letters g_letterCount g_told w_g_toldCount g_refusals g_costs g_gains g_seed) := by
  refine zb_ofW (cc := cX1_judge) (maxL := 3) (ret := (some .int)) (by decide) rfl (Nat.le_of_ble_eq_true rfl) ?_
  intro p e s m args below meth c A ls hx hb hr hml hts hown hlk hK hP hD hA hl
  have hS : va_S A s.heap s.heap [] := va_S.rf
  have hl : lv_has ls 3 [(0, .ref (ad 0))] := hl
  unfold zf_X1_judge at h
  refine lv_bipush (v := ((-9) : Int32)) hx hb dX1_judge_0 (by decide) ?_
  refine lv_istore_n (lv' := [(1, .int ((-9) : Int32)), (0, .ref (ad 0))]) hx hb dX1_judge_2 rfl hl (by decide) rfl (fun ls hl => ?_)
  refine lv_iconst (v := (0 : Int32)) hx hb dX1_judge_3 (by decide) ?_
  refine lv_istore_n (lv' := [(2, .int (0 : Int32)), (1, .int ((-9) : Int32)), (0, .ref (ad 0))]) hx hb dX1_judge_4 rfl hl (by decide) rfl (fun ls hl => ?_)
  have lp3 : ∀ (fu3 : Nat) (x1 : Int32) (x2 : Int32) (H : Heap) (locs : List Loc) (hP : va_P D zb_cl (zb_G cI ad g_now g_mind g_taken g_isTaken g_letters g_letterCount g_told g_toldCount g_refusals g_costs g_gains g_seed) H) (hD : va_D A (zb_G cI ad g_now g_mind g_taken g_isTaken g_letters g_letterCount g_told g_toldCount g_refusals g_costs g_gains g_seed)) (hS : va_S A s.heap H locs) (ls : Array Slot) (hl : lv_has ls 3 [(0, .ref (ad 0)), (1, .int x1), (2, .int x2)]) (h : zl2 (zf_X1_judge_b5 g_now g_told g_toldCount) fu3 x1 x2 = some (r0, w_g_toldCount)), W p l e rm_X1_judge s m args below meth c H locs 0 0 (zb_Q below D (some (.int r0)) (zb_G cI ad g_now g_mind g_taken g_isTaken g_letters g_letterCount g_told w_g_toldCount g_refusals g_costs g_gains g_seed) A args s) (F0 m 5 ls []) := by
    intro fu3
    induction fu3 with
    | zero => intro x1 x2 H locs hP hD hS ls hl h; exact zb_no h
    | succ fu3 ih3 =>
      intro x1 x2 H locs hP hD hS ls hl h
      replace h : zf_X1_judge_b5 g_now g_told g_toldCount (zl2 (zf_X1_judge_b5 g_now g_told g_toldCount) fu3) x1 x2 = some (r0, w_g_toldCount) := h
      unfold zf_X1_judge_b5 at h
      refine lv_iload_n hx hb dX1_judge_5 rfl (lv_at hl 2 rfl) ?_
      refine lv_aload_n hx hb dX1_judge_6 rfl (lv_at hl 0 rfl) ?_
      refine va_get (D := D) (ci := 1) (v := .int g_toldCount) (C := RX1) (T := TX1) (N := 12) hx hb hts zi_X1_judge_X1 hown hK.1 hP 0 rfl rfl 7 (by decide) (hts _ zk_X1_judge_0) (fun _ h9 => h9) rfl dX1_judge_7 ?_
      refine lv_icmp_ge (tgt := 43) hx hb dX1_judge_10 (by decide) (fun c4 => ?_) (fun c4 => ?_)
      · replace h := it_t c4 h
        refine lv_aload_n hx hb dX1_judge_43 rfl (lv_at hl 0 rfl) ?_
        refine lv_iconst (v := (0 : Int32)) hx hb dX1_judge_44 (by decide) ?_
        refine va_put (D := D) (ci := 1) (v := .int (0 : Int32)) (ty := .int) (C := RX1) (T := TX1) (N := 12) hx hb hts zi_X1_judge_X1 tyX1 tyX1_ok nmX1 hown hK.1 hP hD hS 0 rfl rfl 7 (by decide) (hts _ zk_X1_judge_0) (fun _ h9 => h9) rfl (by decide +kernel) rfl rfl (Nat.le_of_ble_eq_true rfl) dX1_judge_45 (fun H locs hP hD hS => ?_)
        have hP : va_P D zb_cl (zb_G cI ad g_now g_mind g_taken g_isTaken g_letters g_letterCount g_told (0 : Int32) g_refusals g_costs g_gains g_seed) H := hP
        have hD : va_D A (zb_G cI ad g_now g_mind g_taken g_isTaken g_letters g_letterCount g_told (0 : Int32) g_refusals g_costs g_gains g_seed) := hD
        refine lv_iload_n hx hb dX1_judge_48 rfl (lv_at hl 1 rfl) ?_
        obtain ⟨rfl, rfl⟩ := re2 h
        exact zb_iret hx hb hr hlk hP hS dX1_judge_49
      · replace h := it_f c4 h
        refine lv_iload_n hx hb dX1_judge_13 rfl (lv_at hl 1 rfl) ?_
        refine lv_bipush (v := ((-9) : Int32)) hx hb dX1_judge_14 (by decide) ?_
        refine lv_icmp_ne (tgt := 43) hx hb dX1_judge_16 (by decide) (fun c5 => ?_) (fun c5 => ?_)
        · replace h := it_f c5 h
          refine lv_aload_n hx hb dX1_judge_43 rfl (lv_at hl 0 rfl) ?_
          refine lv_iconst (v := (0 : Int32)) hx hb dX1_judge_44 (by decide) ?_
          refine va_put (D := D) (ci := 1) (v := .int (0 : Int32)) (ty := .int) (C := RX1) (T := TX1) (N := 12) hx hb hts zi_X1_judge_X1 tyX1 tyX1_ok nmX1 hown hK.1 hP hD hS 0 rfl rfl 7 (by decide) (hts _ zk_X1_judge_0) (fun _ h9 => h9) rfl (by decide +kernel) rfl rfl (Nat.le_of_ble_eq_true rfl) dX1_judge_45 (fun H locs hP hD hS => ?_)
          have hP : va_P D zb_cl (zb_G cI ad g_now g_mind g_taken g_isTaken g_letters g_letterCount g_told (0 : Int32) g_refusals g_costs g_gains g_seed) H := hP
          have hD : va_D A (zb_G cI ad g_now g_mind g_taken g_isTaken g_letters g_letterCount g_told (0 : Int32) g_refusals g_costs g_gains g_seed) := hD
          refine lv_iload_n hx hb dX1_judge_48 rfl (lv_at hl 1 rfl) ?_
          obtain ⟨rfl, rfl⟩ := re2 h
          exact zb_iret hx hb hr hlk hP hS dX1_judge_49
        · replace h := it_t c5 h
          refine lv_aload_n hx hb dX1_judge_19 rfl (lv_at hl 0 rfl) ?_
          refine lv_iload_n hx hb dX1_judge_20 rfl (lv_at hl 2 rfl) ?_
          obtain ⟨r6, g7, h⟩ := bo1 h
          refine zb_callV (As := [.int x2]) (rest := []) ⟨hx, hb, hml, hown, hts⟩ (zc_X1_toldAt l D cI ad g_now g_mind g_taken g_isTaken g_letters g_letterCount g_told g_toldCount g_refusals g_costs g_gains g_seed x2 r6 g7) (cwV 1 hts gX1_judge_X1_toldAt rfl rfl rfl hd_X1_toldAt ⟨Nat.le_of_ble_eq_true rfl, Nat.le_of_ble_eq_true rfl⟩) hK hP hD hS hA (zb_sG) (q0 := 0) rfl rfl rfl hl.1 rfl (Nat.le_of_ble_eq_true rfl) dX1_judge_21 ⟨Nat.le_refl _, Nat.le_refl _⟩ (fun H locs hP hD hS => ?_)
          refine lv_aload_n hx hb dX1_judge_24 rfl (lv_at hl 0 rfl) ?_
          refine va_get (D := D) (ci := 1) (v := .ref (ad 1)) (C := RX1) (T := TX1) (N := 12) hx hb hts zi_X1_judge_X1 hown hK.1 hP 0 rfl rfl 0 (by decide) (hts _ zk_X1_judge_1) (fun _ h9 => h9) rfl dX1_judge_25 ?_
          refine lv_iload_n hx hb dX1_judge_28 rfl (lv_at hl 2 rfl) ?_
          obtain ⟨r8, g9, h⟩ := bo1 h
          refine zb_callV (As := [.int x2]) (rest := [.int r6]) ⟨hx, hb, hml, hown, hts⟩ (zc_X0_wetOf l D cI (ad 1) (ad 2) (ad 3) (ad 4) (ad 5) (ad 6) (ad 7) g_now x2 r8 g9) (cwV 1 hts gX1_judge_X0_wetOf rfl rfl rfl hd_X0_wetOf ⟨Nat.le_of_ble_eq_true rfl, Nat.le_of_ble_eq_true rfl⟩) hK hP hD hS hA (zb_cGn) (q0 := 0) rfl rfl rfl hl.1 rfl (Nat.le_of_ble_eq_true rfl) dX1_judge_29 ⟨Nat.le_refl _, Nat.le_refl _⟩ (fun H locs hP hD hS => ?_)
          refine lv_icmp_eq (tgt := 37) hx hb dX1_judge_32 (by decide) (fun c10 => ?_) (fun c10 => ?_)
          · replace h := it_t c10 h
            refine lv_iinc (v := (x2 + (1 : Int32))) (lv' := [(2, .int (x2 + (1 : Int32))), (0, .ref (ad 0)), (1, .int x1)]) hx hb dX1_judge_37 hl (k := 2) rfl (by first | rfl | decide) (by decide) rfl (fun ls hl => ?_)
            refine lv_goto (tgt := 5) hx hb dX1_judge_40 (by decide) ?_
            exact ih3 x1 (x2 + (1 : Int32)) _ _ hP hD hS ls (lv_sub hl [1, 2, 0] rfl) h
          · replace h := it_f c10 h
            refine lv_iload_n hx hb dX1_judge_35 rfl (lv_at hl 2 rfl) ?_
            refine lv_istore_n (lv' := [(1, .int x2), (0, .ref (ad 0)), (2, .int x2)]) hx hb dX1_judge_36 rfl hl (by decide) rfl (fun ls hl => ?_)
            refine lv_iinc (v := (x2 + (1 : Int32))) (lv' := [(2, .int (x2 + (1 : Int32))), (1, .int x2), (0, .ref (ad 0))]) hx hb dX1_judge_37 hl (k := 2) rfl (by first | rfl | decide) (by decide) rfl (fun ls hl => ?_)
            refine lv_goto (tgt := 5) hx hb dX1_judge_40 (by decide) ?_
            exact ih3 x2 (x2 + (1 : Int32)) _ _ hP hD hS ls (lv_sub hl [2, 1, 0] rfl) h
  exact lp3 zb_FU ((-9) : Int32) (0 : Int32) _ _ hP hD hS ls (lv_sub hl [2, 1, 0] rfl) h
abbrev rm_X1_clear : Room := { frames := 0, cells := 0, slots := 0, locals := 0 }
theorem hd_X1_clear : yX1_clear.cls = RX1 ∧ yX1_clear.cls ≠ "java/lang/invoke/MethodHandle" ∧ yX1_clear.cls ≠ "java/lang/invoke/VarHandle" ∧ (parseMethodDescriptor yX1_clear.desc).map (fun d => d.parameters.length) = some 0 := by decide +kernel
theorem zi_X1_clear_X1 : ∀ w ∈ wsX10, w ∈ wsX1_clear := fun _ h => List.mem_cons_of_mem _ (List.mem_append_right _ h)
theorem zk_X1_clear_0 : Cond.fieldLink RX1 192 "GroutingIsFollowed" "toldCount" "I" ∈ wsX1_clear := by decide +kernel
set_option maxHeartbeats 4000000 in
set_option maxRecDepth 100000 in
theorem zc_X1_clear (l : Launch) (D : va_G) (cI : ClassId) (ad : Nat → Nat) (g_now : BT) (g_mind : BT) (g_taken : BT) (g_isTaken : Int32) (g_letters : (Nat → Int32)) (g_letterCount : Int32) (g_told : (Nat → Int32)) (g_toldCount : Int32) (g_refusals : (Nat → Int32)) (g_costs : (Nat → Int32)) (g_gains : (Nat → Int32)) (g_seed : Int32) (r0 : Int32) (w_g_toldCount : Int32) (h : zf_X1_clear g_toldCount = some (r0, w_g_toldCount)) : Cn l D cI yX1_clear wsX1_clear rm_X1_clear [.ref (ad 0)] (zb_G cI ad g_now g_mind g_taken g_isTaken g_letters g_letterCount g_told g_toldCount g_refusals g_costs g_gains g_seed) (some (.int r0)) (zb_G cI ad g_now g_mind g_taken g_isTaken g_letters g_letterCount g_told w_g_toldCount g_refusals g_costs g_gains g_seed) := by
  refine zb_ofW (cc := cX1_clear) (maxL := 2) (ret := (some .int)) (by decide) rfl (Nat.le_of_ble_eq_true rfl) ?_
  intro p e s m args below meth c A ls hx hb hr hml hts hown hlk hK hP hD hA hl
  have hS : va_S A s.heap s.heap [] := va_S.rf
  have hl : lv_has ls 2 [(0, .ref (ad 0))] := hl
  unfold zf_X1_clear at h
  refine lv_aload_n hx hb dX1_clear_0 rfl (lv_at hl 0 rfl) ?_
  refine va_get (D := D) (ci := 1) (v := .int g_toldCount) (C := RX1) (T := TX1) (N := 12) hx hb hts zi_X1_clear_X1 hown hK.1 hP 0 rfl rfl 7 (by decide) (hts _ zk_X1_clear_0) (fun _ h9 => h9) rfl dX1_clear_1 ?_
  refine lv_istore_n (lv' := [(1, .int g_toldCount), (0, .ref (ad 0))]) hx hb dX1_clear_4 rfl hl (by decide) rfl (fun ls hl => ?_)
  refine lv_aload_n hx hb dX1_clear_5 rfl (lv_at hl 1 rfl) ?_
  refine lv_iconst (v := (0 : Int32)) hx hb dX1_clear_6 (by decide) ?_
  refine va_put (D := D) (ci := 1) (v := .int (0 : Int32)) (ty := .int) (C := RX1) (T := TX1) (N := 12) hx hb hts zi_X1_clear_X1 tyX1 tyX1_ok nmX1 hown hK.1 hP hD hS 0 rfl rfl 7 (by decide) (hts _ zk_X1_clear_0) (fun _ h9 => h9) rfl (by decide +kernel) rfl rfl (Nat.le_of_ble_eq_true rfl) dX1_clear_7 (fun H locs hP hD hS => ?_)
  have hP : va_P D zb_cl (zb_G cI ad g_now g_mind g_taken g_isTaken g_letters g_letterCount g_told (0 : Int32) g_refusals g_costs g_gains g_seed) H := hP
  have hD : va_D A (zb_G cI ad g_now g_mind g_taken g_isTaken g_letters g_letterCount g_told (0 : Int32) g_refusals g_costs g_gains g_seed) := hD
  refine lv_iload_n hx hb dX1_clear_10 rfl (lv_at hl 0 rfl) ?_
  obtain ⟨rfl, rfl⟩ := re2 h
  exact zb_iret hx hb hr hlk hP hS dX1_clear_11
abbrev rm_X1_draw : Room := { frames := 0, cells := 0, slots := 0, locals := 0 }
theorem hd_X1_draw : yX1_draw.cls = RX1 ∧ yX1_draw.cls ≠ "java/lang/invoke/MethodHandle" ∧ yX1_draw.cls ≠ "java/lang/invoke/VarHandle" ∧ (parseMethodDescriptor yX1_draw.desc).map (fun d => d.parameters.length) = some 1 := by decide +kernel
theorem zi_X1_draw_X1 : ∀ w ∈ wsX10, w ∈ wsX1_draw := fun _ h => List.mem_cons_of_mem _ (List.mem_append_right _ h)
theorem zk_X1_draw_0 : Cond.fieldLink RX1 198 "GroutingIsFollowed" "seed" "I" ∈ wsX1_draw := by decide +kernel
theorem zk_X1_draw_1 : Cond.constant RX1 321 (1664525) ∈ wsX1_draw := by decide +kernel
theorem zk_X1_draw_2 : Cond.constant RX1 322 (1013904223) ∈ wsX1_draw := by decide +kernel
theorem zk_X1_draw_3 : Cond.constant RX1 323 (2147483647) ∈ wsX1_draw := by decide +kernel
set_option maxHeartbeats 4000000 in
set_option maxRecDepth 100000 in
theorem zc_X1_draw (l : Launch) (D : va_G) (cI : ClassId) (ad : Nat → Nat) (g_now : BT) (g_mind : BT) (g_taken : BT) (g_isTaken : Int32) (g_letters : (Nat → Int32)) (g_letterCount : Int32) (g_told : (Nat → Int32)) (g_toldCount : Int32) (g_refusals : (Nat → Int32)) (g_costs : (Nat → Int32)) (g_gains : (Nat → Int32)) (g_seed : Int32) (v1 : Int32) (r0 : Int32) (w_g_seed : Int32) (h : zf_X1_draw g_seed v1 = some (r0, w_g_seed)) : Cn l D cI yX1_draw wsX1_draw rm_X1_draw [.ref (ad 0), .int v1] (zb_G cI ad g_now g_mind g_taken g_isTaken g_letters g_letterCount g_told g_toldCount g_refusals g_costs g_gains g_seed) (some (.int r0)) (zb_G cI ad g_now g_mind g_taken g_isTaken g_letters g_letterCount g_told g_toldCount g_refusals g_costs g_gains w_g_seed) := by
  refine zb_ofW (cc := cX1_draw) (maxL := 2) (ret := (some .int)) (by decide) rfl (Nat.le_of_ble_eq_true rfl) ?_
  intro p e s m args below meth c A ls hx hb hr hml hts hown hlk hK hP hD hA hl
  have hS : va_S A s.heap s.heap [] := va_S.rf
  have hl : lv_has ls 2 [(0, .ref (ad 0)), (1, .int v1)] := hl
  unfold zf_X1_draw at h
  refine lv_aload_n hx hb dX1_draw_0 rfl (lv_at hl 0 rfl) ?_
  refine lv_aload_n hx hb dX1_draw_1 rfl (lv_at hl 0 rfl) ?_
  refine va_get (D := D) (ci := 1) (v := .int g_seed) (C := RX1) (T := TX1) (N := 12) hx hb hts zi_X1_draw_X1 hown hK.1 hP 0 rfl rfl 11 (by decide) (hts _ zk_X1_draw_0) (fun _ h9 => h9) rfl dX1_draw_2 ?_
  refine lv_ldcw (v := (1664525 : Int32)) hx hb hown (hts _ zk_X1_draw_1) dX1_draw_5 ?_
  refine lv_imul hx hb dX1_draw_8 ?_
  refine lv_ldcw (v := (1013904223 : Int32)) hx hb hown (hts _ zk_X1_draw_2) dX1_draw_9 ?_
  refine lv_iadd hx hb dX1_draw_12 ?_
  refine va_put (D := D) (ci := 1) (v := .int ((g_seed * (1664525 : Int32)) + (1013904223 : Int32))) (ty := .int) (C := RX1) (T := TX1) (N := 12) hx hb hts zi_X1_draw_X1 tyX1 tyX1_ok nmX1 hown hK.1 hP hD hS 0 rfl rfl 11 (by decide) (hts _ zk_X1_draw_0) (fun _ h9 => h9) rfl (by decide +kernel) rfl rfl (Nat.le_of_ble_eq_true rfl) dX1_draw_13 (fun H locs hP hD hS => ?_)
  have hP : va_P D zb_cl (zb_G cI ad g_now g_mind g_taken g_isTaken g_letters g_letterCount g_told g_toldCount g_refusals g_costs g_gains ((g_seed * (1664525 : Int32)) + (1013904223 : Int32))) H := hP
  have hD : va_D A (zb_G cI ad g_now g_mind g_taken g_isTaken g_letters g_letterCount g_told g_toldCount g_refusals g_costs g_gains ((g_seed * (1664525 : Int32)) + (1013904223 : Int32))) := hD
  refine lv_iload_n hx hb dX1_draw_16 rfl (lv_at hl 1 rfl) ?_
  refine lv_if_le (tgt := 37) hx hb dX1_draw_17 (by decide) (fun c1 => ?_) (fun c1 => ?_)
  · replace h := it_t c1 h
    refine lv_iconst (v := (0 : Int32)) hx hb dX1_draw_37 (by decide) ?_
    obtain ⟨rfl, rfl⟩ := re2 h
    exact zb_iret hx hb hr hlk hP hS dX1_draw_38
  · replace h := it_f c1 h
    refine lv_aload_n hx hb dX1_draw_20 rfl (lv_at hl 0 rfl) ?_
    refine va_get (D := D) (ci := 1) (v := .int ((g_seed * (1664525 : Int32)) + (1013904223 : Int32))) (C := RX1) (T := TX1) (N := 12) hx hb hts zi_X1_draw_X1 hown hK.1 hP 0 rfl rfl 11 (by decide) (hts _ zk_X1_draw_0) (fun _ h9 => h9) rfl dX1_draw_21 ?_
    refine lv_ldcw (v := (2147483647 : Int32)) hx hb hown (hts _ zk_X1_draw_3) dX1_draw_24 ?_
    refine lv_iand hx hb dX1_draw_27 ?_
    refine lv_sipush (v := (256 : Int32)) hx hb dX1_draw_28 (by decide) ?_
    refine lv_idiv hx hb dX1_draw_31 (by decide) ?_
    refine lv_iload_n hx hb dX1_draw_32 rfl (lv_at hl 1 rfl) ?_
    obtain ⟨h2, h⟩ := it_n h
    refine lv_irem hx hb dX1_draw_33 h2 ?_
    refine lv_goto (tgt := 38) hx hb dX1_draw_34 (by decide) ?_
    obtain ⟨rfl, rfl⟩ := re2 h
    exact zb_iret hx hb hr hlk hP hS dX1_draw_38
abbrev rm_X1_drawPeople : Room := { frames := 2, cells := 0, slots := 0, locals := 43 }
theorem hd_X1_drawPeople : yX1_drawPeople.cls = RX1 ∧ yX1_drawPeople.cls ≠ "java/lang/invoke/MethodHandle" ∧ yX1_drawPeople.cls ≠ "java/lang/invoke/VarHandle" ∧ (parseMethodDescriptor yX1_drawPeople.desc).map (fun d => d.parameters.length) = some 0 := by decide +kernel
theorem zi_X1_drawPeople_X1 : ∀ w ∈ wsX10, w ∈ wsX1_drawPeople := fun _ h => List.mem_cons_of_mem _ (List.mem_append_left _ (List.mem_append_right _ h))
theorem zk_X1_drawPeople_0 : Cond.fieldLink RX1 16 "GroutingIsFollowed" "mind" "LGroutingIsFollowed$Bath;" ∈ wsX1_drawPeople := by decide +kernel
set_option maxHeartbeats 4000000 in
set_option maxRecDepth 100000 in
theorem zc_X1_drawPeople (l : Launch) (D : va_G) (cI : ClassId) (ad : Nat → Nat) (g_now : BT) (g_mind : BT) (g_taken : BT) (g_isTaken : Int32) (g_letters : (Nat → Int32)) (g_letterCount : Int32) (g_told : (Nat → Int32)) (g_toldCount : Int32) (g_refusals : (Nat → Int32)) (g_costs : (Nat → Int32)) (g_gains : (Nat → Int32)) (g_seed : Int32) (w_g_mind : BT) (w_g_seed : Int32) (h : zf_X1_drawPeople g_mind g_seed = some (w_g_mind, w_g_seed)) : Cn l D cI yX1_drawPeople wsX1_drawPeople rm_X1_drawPeople [.ref (ad 0)] (zb_G cI ad g_now g_mind g_taken g_isTaken g_letters g_letterCount g_told g_toldCount g_refusals g_costs g_gains g_seed) none (zb_G cI ad g_now w_g_mind g_taken g_isTaken g_letters g_letterCount g_told g_toldCount g_refusals g_costs g_gains w_g_seed) := by
  refine zb_ofW (cc := cX1_drawPeople) (maxL := 2) (ret := none) (by decide) rfl (Nat.le_of_ble_eq_true rfl) ?_
  intro p e s m args below meth c A ls hx hb hr hml hts hown hlk hK hP hD hA hl
  have hS : va_S A s.heap s.heap [] := va_S.rf
  have hl : lv_has ls 2 [(0, .ref (ad 0))] := hl
  unfold zf_X1_drawPeople at h
  refine lv_iconst (v := (0 : Int32)) hx hb dX1_drawPeople_0 (by decide) ?_
  refine lv_istore_n (lv' := [(1, .int (0 : Int32)), (0, .ref (ad 0))]) hx hb dX1_drawPeople_1 rfl hl (by decide) rfl (fun ls hl => ?_)
  have lp4 : ∀ (fu4 : Nat) (x1 : Int32) (x2 : BT) (x3 : Int32) (H : Heap) (locs : List Loc) (hP : va_P D zb_cl (zb_G cI ad g_now x2 g_taken g_isTaken g_letters g_letterCount g_told g_toldCount g_refusals g_costs g_gains x3) H) (hD : va_D A (zb_G cI ad g_now x2 g_taken g_isTaken g_letters g_letterCount g_told g_toldCount g_refusals g_costs g_gains x3)) (hS : va_S A s.heap H locs) (ls : Array Slot) (hl : lv_has ls 2 [(0, .ref (ad 0)), (1, .int x1)]) (h : zl3 zf_X1_drawPeople_b2 fu4 x1 x2 x3 = some (w_g_mind, w_g_seed)), W p l e rm_X1_drawPeople s m args below meth c H locs 0 0 (zb_Q below D none (zb_G cI ad g_now w_g_mind g_taken g_isTaken g_letters g_letterCount g_told g_toldCount g_refusals g_costs g_gains w_g_seed) A args s) (F0 m 2 ls []) := by
    intro fu4
    induction fu4 with
    | zero => intro x1 x2 x3 H locs hP hD hS ls hl h; exact zb_no h
    | succ fu4 ih4 =>
      intro x1 x2 x3 H locs hP hD hS ls hl h
      replace h : zf_X1_drawPeople_b2  (zl3 zf_X1_drawPeople_b2 fu4) x1 x2 x3 = some (w_g_mind, w_g_seed) := h
      unfold zf_X1_drawPeople_b2 at h
      refine lv_iload_n hx hb dX1_drawPeople_2 rfl (lv_at hl 1 rfl) ?_
      refine lv_aload_n hx hb dX1_drawPeople_3 rfl (lv_at hl 0 rfl) ?_
      refine va_get (D := D) (ci := 1) (v := .ref (ad 8)) (C := RX1) (T := TX1) (N := 12) hx hb hts zi_X1_drawPeople_X1 hown hK.1 hP 0 rfl rfl 1 (by decide) (hts _ zk_X1_drawPeople_0) (fun _ h9 => h9) rfl dX1_drawPeople_4 ?_
      obtain ⟨r5, g6, h⟩ := bo1 h
      refine zb_callV (As := []) (rest := [.int x1]) ⟨hx, hb, hml, hown, hts⟩ (zc_X0_peopleCount l D cI (ad 8) (ad 9) (ad 10) (ad 11) (ad 12) (ad 13) (ad 14) x2 r5 g6) (cwV 0 hts gX1_drawPeople_X0_peopleCount rfl rfl rfl hd_X0_peopleCount ⟨Nat.le_of_ble_eq_true rfl, Nat.le_of_ble_eq_true rfl⟩) hK hP hD hS hA (zb_cGm) (q0 := 0) rfl rfl rfl hl.1 rfl (Nat.le_of_ble_eq_true rfl) dX1_drawPeople_7 ⟨Nat.le_refl _, Nat.le_refl _⟩ (fun H locs hP hD hS => ?_)
      refine lv_icmp_ge (tgt := 46) hx hb dX1_drawPeople_10 (by decide) (fun c7 => ?_) (fun c7 => ?_)
      · replace h := it_t c7 h
        obtain ⟨rfl, rfl⟩ := re2 h
        exact zb_vret hx hb hr hlk hP hS dX1_drawPeople_46
      · replace h := it_f c7 h
        refine lv_aload_n hx hb dX1_drawPeople_13 rfl (lv_at hl 0 rfl) ?_
        refine va_get (D := D) (ci := 1) (v := .ref (ad 8)) (C := RX1) (T := TX1) (N := 12) hx hb hts zi_X1_drawPeople_X1 hown hK.1 hP 0 rfl rfl 1 (by decide) (hts _ zk_X1_drawPeople_0) (fun _ h9 => h9) rfl dX1_drawPeople_14 ?_
        refine lv_iload_n hx hb dX1_drawPeople_17 rfl (lv_at hl 1 rfl) ?_
        refine lv_aload_n hx hb dX1_drawPeople_18 rfl (lv_at hl 0 rfl) ?_
        refine lv_bipush (v := (30 : Int32)) hx hb dX1_drawPeople_19 (by decide) ?_
        obtain ⟨r8, n9, g10, h⟩ := bo2 h
        refine zb_callV (As := [.int (30 : Int32)]) (rest := [.int x1, .ref (ad 8)]) ⟨hx, hb, hml, hown, hts⟩ (zc_X1_draw l D cI ad g_now x2 g_taken g_isTaken g_letters g_letterCount g_told g_toldCount g_refusals g_costs g_gains x3 (30 : Int32) r8 n9 g10) (cwV 1 hts gX1_drawPeople_X1_draw rfl rfl rfl hd_X1_draw ⟨Nat.le_of_ble_eq_true rfl, Nat.le_of_ble_eq_true rfl⟩) hK hP hD hS hA (zb_sG) (q0 := 0) rfl rfl rfl hl.1 rfl (Nat.le_of_ble_eq_true rfl) dX1_drawPeople_21 ⟨Nat.le_refl _, Nat.le_refl _⟩ (fun H locs hP hD hS => ?_)
        obtain ⟨n11, g12, h⟩ := bo1 h
        refine zb_callV (As := [.int x1, .int r8]) (rest := []) ⟨hx, hb, hml, hown, hts⟩ (zc_X0_putPlace l D cI (ad 8) (ad 9) (ad 10) (ad 11) (ad 12) (ad 13) (ad 14) x2 x1 r8 n11 g12) (cwV 2 hts gX1_drawPeople_X0_putPlace rfl rfl rfl hd_X0_putPlace ⟨Nat.le_of_ble_eq_true rfl, Nat.le_of_ble_eq_true rfl⟩) hK hP hD hS hA (zb_cGm) (q0 := 0) rfl rfl rfl hl.1 rfl (Nat.le_of_ble_eq_true rfl) dX1_drawPeople_24 ⟨Nat.le_refl _, Nat.le_refl _⟩ (fun H locs hP hD hS => ?_)
        refine lv_aload_n hx hb dX1_drawPeople_27 rfl (lv_at hl 0 rfl) ?_
        refine va_get (D := D) (ci := 1) (v := .ref (ad 8)) (C := RX1) (T := TX1) (N := 12) hx hb hts zi_X1_drawPeople_X1 hown hK.1 hP 0 rfl rfl 1 (by decide) (hts _ zk_X1_drawPeople_0) (fun _ h9 => h9) rfl dX1_drawPeople_28 ?_
        refine lv_iload_n hx hb dX1_drawPeople_31 rfl (lv_at hl 1 rfl) ?_
        refine lv_aload_n hx hb dX1_drawPeople_32 rfl (lv_at hl 0 rfl) ?_
        refine lv_iconst (v := (4 : Int32)) hx hb dX1_drawPeople_33 (by decide) ?_
        obtain ⟨r13, n14, g15, h⟩ := bo2 h
        refine zb_callV (As := [.int (4 : Int32)]) (rest := [.int x1, .ref (ad 8)]) ⟨hx, hb, hml, hown, hts⟩ (zc_X1_draw l D cI ad g_now n11 g_taken g_isTaken g_letters g_letterCount g_told g_toldCount g_refusals g_costs g_gains n9 (4 : Int32) r13 n14 g15) (cwV 1 hts gX1_drawPeople_X1_draw rfl rfl rfl hd_X1_draw ⟨Nat.le_of_ble_eq_true rfl, Nat.le_of_ble_eq_true rfl⟩) hK hP hD hS hA (zb_sG) (q0 := 0) rfl rfl rfl hl.1 rfl (Nat.le_of_ble_eq_true rfl) dX1_drawPeople_34 ⟨Nat.le_refl _, Nat.le_refl _⟩ (fun H locs hP hD hS => ?_)
        obtain ⟨n16, g17, h⟩ := bo1 h
        refine zb_callV (As := [.int x1, .int r13]) (rest := []) ⟨hx, hb, hml, hown, hts⟩ (zc_X0_putHeading l D cI (ad 8) (ad 9) (ad 10) (ad 11) (ad 12) (ad 13) (ad 14) n11 x1 r13 n16 g17) (cwV 2 hts gX1_drawPeople_X0_putHeading rfl rfl rfl hd_X0_putHeading ⟨Nat.le_of_ble_eq_true rfl, Nat.le_of_ble_eq_true rfl⟩) hK hP hD hS hA (zb_cGm) (q0 := 0) rfl rfl rfl hl.1 rfl (Nat.le_of_ble_eq_true rfl) dX1_drawPeople_37 ⟨Nat.le_refl _, Nat.le_refl _⟩ (fun H locs hP hD hS => ?_)
        refine lv_iinc (v := (x1 + (1 : Int32))) (lv' := [(1, .int (x1 + (1 : Int32))), (0, .ref (ad 0))]) hx hb dX1_drawPeople_40 hl (k := 1) rfl (by first | rfl | decide) (by decide) rfl (fun ls hl => ?_)
        refine lv_goto (tgt := 2) hx hb dX1_drawPeople_43 (by decide) ?_
        exact ih4 (x1 + (1 : Int32)) n16 n14 _ _ hP hD hS ls (lv_sub hl [1, 0] rfl) h
  exact lp4 zb_FU (0 : Int32) g_mind g_seed _ _ hP hD hS ls (lv_sub hl [1, 0] rfl) h
abbrev rm_X1_lots : Room := { frames := 4, cells := 0, slots := 0, locals := 90 }
theorem hd_X1_lots : yX1_lots.cls = RX1 ∧ yX1_lots.cls ≠ "java/lang/invoke/MethodHandle" ∧ yX1_lots.cls ≠ "java/lang/invoke/VarHandle" ∧ (parseMethodDescriptor yX1_lots.desc).map (fun d => d.parameters.length) = some 3 := by decide +kernel
theorem zi_X1_lots_X1 : ∀ w ∈ wsX10, w ∈ wsX1_lots := fun _ h => List.mem_cons_of_mem _ (List.mem_append_left _ (List.mem_append_right _ h))
theorem zk_X1_lots_0 : Cond.fieldLink RX1 198 "GroutingIsFollowed" "seed" "I" ∈ wsX1_lots := by decide +kernel
theorem zk_X1_lots_1 : Cond.fieldLink RX1 16 "GroutingIsFollowed" "mind" "LGroutingIsFollowed$Bath;" ∈ wsX1_lots := by decide +kernel
theorem zk_X1_lots_2 : Cond.fieldLink RX1 10 "GroutingIsFollowed" "now" "LGroutingIsFollowed$Bath;" ∈ wsX1_lots := by decide +kernel
set_option maxHeartbeats 4000000 in
set_option maxRecDepth 100000 in
theorem zc_X1_lots (l : Launch) (D : va_G) (cI : ClassId) (ad : Nat → Nat) (g_now : BT) (g_mind : BT) (g_taken : BT) (g_isTaken : Int32) (g_letters : (Nat → Int32)) (g_letterCount : Int32) (g_told : (Nat → Int32)) (g_toldCount : Int32) (g_refusals : (Nat → Int32)) (g_costs : (Nat → Int32)) (g_gains : (Nat → Int32)) (g_seed : Int32) (v1 : Int32) (v2 : Int32) (v3 : Int32) (r0 : Int32) (w_g_mind : BT) (w_g_refusals : (Nat → Int32)) (w_g_seed : Int32) (h : zf_X1_lots g_now g_mind g_refusals g_seed v1 v2 v3 = some (r0, w_g_mind, w_g_refusals, w_g_seed)) : Cn l D cI yX1_lots wsX1_lots rm_X1_lots [.ref (ad 0), .int v1, .int v2, .int v3] (zb_G cI ad g_now g_mind g_taken g_isTaken g_letters g_letterCount g_told g_toldCount g_refusals g_costs g_gains g_seed) (some (.int r0)) (zb_G cI ad g_now w_g_mind g_taken g_isTaken g_letters g_letterCount g_told g_toldCount w_g_refusals g_costs g_gains w_g_seed) := by
  refine zb_ofW (cc := cX1_lots) (maxL := 7) (ret := (some .int)) (by decide) rfl (Nat.le_of_ble_eq_true rfl) ?_
  intro p e s m args below meth c A ls hx hb hr hml hts hown hlk hK hP hD hA hl
  have hS : va_S A s.heap s.heap [] := va_S.rf
  have hl : lv_has ls 7 [(0, .ref (ad 0)), (1, .int v1), (2, .int v2), (3, .int v3)] := hl
  unfold zf_X1_lots at h
  refine lv_iload_n hx hb dX1_lots_0 rfl (lv_at hl 1 rfl) ?_
  refine lv_iconst (v := (1 : Int32)) hx hb dX1_lots_1 (by decide) ?_
  refine lv_bipush (v := (20 : Int32)) hx hb dX1_lots_2 (by decide) ?_
  obtain ⟨r1, g2, h⟩ := bo1 h
  refine zb_callS (As := [.int v1, .int (1 : Int32), .int (20 : Int32)]) (rest := []) ⟨hx, hb, hml, hown, hts⟩ (zc_X1_outside l D cI v1 (1 : Int32) (20 : Int32) r1 g2) (va_cwS 3 hts gX1_lots_X1_outside rfl rfl rfl hd_X1_outside.2 ⟨Nat.le_of_ble_eq_true rfl, Nat.le_of_ble_eq_true rfl⟩) hK hP hD hS hA (zb_none _) rfl hl.1 rfl (Nat.le_of_ble_eq_true rfl) dX1_lots_4 ⟨Nat.le_refl _, Nat.le_refl _⟩ (fun H locs hP hD hS => ?_)
  refine lv_istore (lv' := [(4, .int r1), (0, .ref (ad 0)), (1, .int v1), (2, .int v2), (3, .int v3)]) hx hb dX1_lots_7 hl (by decide) rfl (fun ls hl => ?_)
  refine lv_iload hx hb dX1_lots_9 (lv_at hl 0 rfl) ?_
  refine lv_if_eq (tgt := 21) hx hb dX1_lots_11 (by decide) (fun c3 => ?_) (fun c3 => ?_)
  · replace h := it_t c3 h
    refine lv_iload_n hx hb dX1_lots_21 rfl (lv_at hl 4 rfl) ?_
    refine lv_if_lt (tgt := 30) hx hb dX1_lots_22 (by decide) (fun c4 => ?_) (fun c4 => ?_)
    · replace h := it_t c4 h
      refine lv_aload_n hx hb dX1_lots_30 rfl (lv_at hl 1 rfl) ?_
      refine lv_bipush (v := ((-2) : Int32)) hx hb dX1_lots_31 (by decide) ?_
      obtain ⟨r5, n6, g7, h⟩ := bo2 h
      refine zb_callV (As := [.int ((-2) : Int32)]) (rest := []) ⟨hx, hb, hml, hown, hts⟩ (zc_X1_refuse l D cI ad g_now g_mind g_taken g_isTaken g_letters g_letterCount g_told g_toldCount g_refusals g_costs g_gains g_seed ((-2) : Int32) r5 n6 g7) (cwV 1 hts gX1_lots_X1_refuse rfl rfl rfl hd_X1_refuse ⟨Nat.le_of_ble_eq_true rfl, Nat.le_of_ble_eq_true rfl⟩) hK hP hD hS hA (zb_sG) (q0 := 0) rfl rfl rfl hl.1 rfl (Nat.le_of_ble_eq_true rfl) dX1_lots_33 ⟨Nat.le_refl _, Nat.le_refl _⟩ (fun H locs hP hD hS => ?_)
      obtain ⟨rfl, rfl, rfl, rfl⟩ := re4 h
      exact zb_iret hx hb hr hlk hP hS dX1_lots_36
    · replace h := it_f c4 h
      refine lv_iload_n hx hb dX1_lots_25 rfl (lv_at hl 4 rfl) ?_
      refine lv_iconst (v := (1 : Int32)) hx hb dX1_lots_26 (by decide) ?_
      refine lv_icmp_le (tgt := 37) hx hb dX1_lots_27 (by decide) (fun c8 => ?_) (fun c8 => ?_)
      · replace h := it_t c8 h
        refine lv_aload_n hx hb dX1_lots_37 rfl (lv_at hl 1 rfl) ?_
        refine lv_iload_n hx hb dX1_lots_38 rfl (lv_at hl 3 rfl) ?_
        refine va_put (D := D) (ci := 1) (v := .int v2) (ty := .int) (C := RX1) (T := TX1) (N := 12) hx hb hts zi_X1_lots_X1 tyX1 tyX1_ok nmX1 hown hK.1 hP hD hS 0 rfl rfl 11 (by decide) (hts _ zk_X1_lots_0) (fun _ h9 => h9) rfl (by decide +kernel) rfl rfl (Nat.le_of_ble_eq_true rfl) dX1_lots_39 (fun H locs hP hD hS => ?_)
        have hP : va_P D zb_cl (zb_G cI ad g_now g_mind g_taken g_isTaken g_letters g_letterCount g_told g_toldCount g_refusals g_costs g_gains v2) H := hP
        have hD : va_D A (zb_G cI ad g_now g_mind g_taken g_isTaken g_letters g_letterCount g_told g_toldCount g_refusals g_costs g_gains v2) := hD
        refine lv_iconst (v := (0 : Int32)) hx hb dX1_lots_42 (by decide) ?_
        refine lv_istore (lv' := [(5, .int (0 : Int32)), (4, .int r1), (0, .ref (ad 0)), (1, .int v1), (2, .int v2), (3, .int v3)]) hx hb dX1_lots_43 hl (by decide) rfl (fun ls hl => ?_)
        refine lv_iconst (v := (0 : Int32)) hx hb dX1_lots_45 (by decide) ?_
        refine lv_istore (lv' := [(6, .int (0 : Int32)), (5, .int (0 : Int32)), (4, .int r1), (0, .ref (ad 0)), (1, .int v1), (2, .int v2), (3, .int v3)]) hx hb dX1_lots_46 hl (by decide) rfl (fun ls hl => ?_)
        have lp13 : ∀ (fu13 : Nat) (x9 : Int32) (x10 : Int32) (x11 : BT) (x12 : Int32) (H : Heap) (locs : List Loc) (hP : va_P D zb_cl (zb_G cI ad g_now x11 g_taken g_isTaken g_letters g_letterCount g_told g_toldCount g_refusals g_costs g_gains x12) H) (hD : va_D A (zb_G cI ad g_now x11 g_taken g_isTaken g_letters g_letterCount g_told g_toldCount g_refusals g_costs g_gains x12)) (hS : va_S A s.heap H locs) (ls : Array Slot) (hl : lv_has ls 7 [(0, .ref (ad 0)), (1, .int v1), (3, .int v3), (5, .int x9), (6, .int x10)]) (h : zl4 (zf_X1_lots_b48 v1 v3 g_now g_refusals) fu13 x9 x10 x11 x12 = some (r0, w_g_mind, w_g_refusals, w_g_seed)), W p l e rm_X1_lots s m args below meth c H locs 0 0 (zb_Q below D (some (.int r0)) (zb_G cI ad g_now w_g_mind g_taken g_isTaken g_letters g_letterCount g_told g_toldCount w_g_refusals g_costs g_gains w_g_seed) A args s) (F0 m 48 ls []) := by
          intro fu13
          induction fu13 with
          | zero => intro x9 x10 x11 x12 H locs hP hD hS ls hl h; exact zb_no h
          | succ fu13 ih13 =>
            intro x9 x10 x11 x12 H locs hP hD hS ls hl h
            replace h : zf_X1_lots_b48 v1 v3 g_now g_refusals (zl4 (zf_X1_lots_b48 v1 v3 g_now g_refusals) fu13) x9 x10 x11 x12 = some (r0, w_g_mind, w_g_refusals, w_g_seed) := h
            unfold zf_X1_lots_b48 at h
            refine lv_iload hx hb dX1_lots_48 (lv_at hl 4 rfl) ?_
            refine lv_iload_n hx hb dX1_lots_50 rfl (lv_at hl 1 rfl) ?_
            refine lv_icmp_ge (tgt := 119) hx hb dX1_lots_51 (by decide) (fun c14 => ?_) (fun c14 => ?_)
            · replace h := it_t c14 h
              refine lv_iload hx hb dX1_lots_119 (lv_at hl 3 rfl) ?_
              obtain ⟨rfl, rfl, rfl, rfl⟩ := re4 h
              exact zb_iret hx hb hr hlk hP hS dX1_lots_121
            · replace h := it_f c14 h
              refine lv_aload_n hx hb dX1_lots_54 rfl (lv_at hl 0 rfl) ?_
              refine va_get (D := D) (ci := 1) (v := .ref (ad 8)) (C := RX1) (T := TX1) (N := 12) hx hb hts zi_X1_lots_X1 hown hK.1 hP 0 rfl rfl 1 (by decide) (hts _ zk_X1_lots_1) (fun _ h9 => h9) rfl dX1_lots_55 ?_
              refine lv_aload_n hx hb dX1_lots_58 rfl (lv_at hl 0 rfl) ?_
              refine va_get (D := D) (ci := 1) (v := .ref (ad 1)) (C := RX1) (T := TX1) (N := 12) hx hb hts zi_X1_lots_X1 hown hK.1 hP 0 rfl rfl 0 (by decide) (hts _ zk_X1_lots_2) (fun _ h9 => h9) rfl dX1_lots_59 ?_
              obtain ⟨n15, g16, h⟩ := bo1 h
              refine zb_callV (As := [.ref (ad 1)]) (rest := []) ⟨hx, hb, hml, hown, hts⟩ (zc_X0_becomes l D cI (ad 8) (ad 9) (ad 10) (ad 11) (ad 12) (ad 13) (ad 14) (ad 1) (ad 2) (ad 3) (ad 4) (ad 5) (ad 6) (ad 7) x11 g_now n15 g16) (cwV 1 hts gX1_lots_X0_becomes rfl rfl rfl hd_X0_becomes ⟨Nat.le_of_ble_eq_true rfl, Nat.le_of_ble_eq_true rfl⟩) hK hP hD hS hA (zb_cGmn) (q0 := 0) rfl rfl rfl hl.1 rfl (Nat.le_of_ble_eq_true rfl) dX1_lots_62 ⟨Nat.le_refl _, Nat.le_refl _⟩ (fun H locs hP hD hS => ?_)
              refine lv_aload_n hx hb dX1_lots_65 rfl (lv_at hl 0 rfl) ?_
              obtain ⟨n17, n18, g19, h⟩ := bo2 h
              refine zb_callV (As := []) (rest := []) ⟨hx, hb, hml, hown, hts⟩ (zc_X1_drawPeople l D cI ad g_now n15 g_taken g_isTaken g_letters g_letterCount g_told g_toldCount g_refusals g_costs g_gains x12 n17 n18 g19) (cwV 0 hts gX1_lots_X1_drawPeople rfl rfl rfl hd_X1_drawPeople ⟨Nat.le_of_ble_eq_true rfl, Nat.le_of_ble_eq_true rfl⟩) hK hP hD hS hA (zb_sG) (q0 := 0) rfl rfl rfl hl.1 rfl (Nat.le_of_ble_eq_true rfl) dX1_lots_66 ⟨Nat.le_refl _, Nat.le_refl _⟩ (fun H locs hP hD hS => ?_)
              refine lv_aload_n hx hb dX1_lots_69 rfl (lv_at hl 0 rfl) ?_
              refine va_get (D := D) (ci := 1) (v := .ref (ad 8)) (C := RX1) (T := TX1) (N := 12) hx hb hts zi_X1_lots_X1 hown hK.1 hP 0 rfl rfl 1 (by decide) (hts _ zk_X1_lots_1) (fun _ h9 => h9) rfl dX1_lots_70 ?_
              refine lv_bipush (v := (12 : Int32)) hx hb dX1_lots_73 (by decide) ?_
              refine lv_iconst (v := (0 : Int32)) hx hb dX1_lots_75 (by decide) ?_
              obtain ⟨n20, g21, h⟩ := bo1 h
              refine zb_callV (As := [.int (12 : Int32), .int (0 : Int32)]) (rest := []) ⟨hx, hb, hml, hown, hts⟩ (zc_X0_goOn l D cI (ad 8) (ad 9) (ad 10) (ad 11) (ad 12) (ad 13) (ad 14) n17 (12 : Int32) (0 : Int32) n20 g21) (cwV 2 hts gX1_lots_X0_goOn rfl rfl rfl hd_X0_goOn ⟨Nat.le_of_ble_eq_true rfl, Nat.le_of_ble_eq_true rfl⟩) hK hP hD hS hA (zb_cGm) (q0 := 0) rfl rfl rfl hl.1 rfl (Nat.le_of_ble_eq_true rfl) dX1_lots_76 ⟨Nat.le_refl _, Nat.le_refl _⟩ (fun H locs hP hD hS => ?_)
              refine lv_iload hx hb dX1_lots_79 (lv_at hl 3 rfl) ?_
              refine lv_iload_n hx hb dX1_lots_81 rfl (lv_at hl 2 rfl) ?_
              refine lv_if_ne (tgt := 103) hx hb dX1_lots_82 (by decide) (fun c22 => ?_) (fun c22 => ?_)
              · replace h := it_f c22 h
                refine lv_aload_n hx hb dX1_lots_103 rfl (lv_at hl 0 rfl) ?_
                refine va_get (D := D) (ci := 1) (v := .ref (ad 8)) (C := RX1) (T := TX1) (N := 12) hx hb hts zi_X1_lots_X1 hown hK.1 hP 0 rfl rfl 1 (by decide) (hts _ zk_X1_lots_1) (fun _ h9 => h9) rfl dX1_lots_104 ?_
                obtain ⟨r23, g24, h⟩ := bo1 h
                refine zb_callV (As := []) (rest := [.int x9]) ⟨hx, hb, hml, hown, hts⟩ (zc_X0_stuckPeople l D cI (ad 8) (ad 9) (ad 10) (ad 11) (ad 12) (ad 13) (ad 14) n20 r23 g24) (cwV 0 hts gX1_lots_X0_stuckPeople rfl rfl rfl hd_X0_stuckPeople ⟨Nat.le_of_ble_eq_true rfl, Nat.le_of_ble_eq_true rfl⟩) hK hP hD hS hA (zb_cGm) (q0 := 0) rfl rfl rfl hl.1 rfl (Nat.le_of_ble_eq_true rfl) dX1_lots_107 ⟨Nat.le_refl _, Nat.le_refl _⟩ (fun H locs hP hD hS => ?_)
                refine lv_iadd hx hb dX1_lots_110 ?_
                refine lv_istore (lv' := [(5, .int (x9 + r23)), (0, .ref (ad 0)), (1, .int v1), (3, .int v3), (6, .int x10)]) hx hb dX1_lots_111 hl (by decide) rfl (fun ls hl => ?_)
                refine lv_iinc (v := (x10 + (1 : Int32))) (lv' := [(6, .int (x10 + (1 : Int32))), (5, .int (x9 + r23)), (0, .ref (ad 0)), (1, .int v1), (3, .int v3)]) hx hb dX1_lots_113 hl (k := 4) rfl (by first | rfl | decide) (by decide) rfl (fun ls hl => ?_)
                refine lv_goto (tgt := 48) hx hb dX1_lots_116 (by decide) ?_
                exact ih13 (x9 + r23) (x10 + (1 : Int32)) n20 n18 _ _ hP hD hS ls (lv_sub hl [2, 3, 4, 1, 0] rfl) h
              · replace h := it_t c22 h
                refine lv_aload_n hx hb dX1_lots_85 rfl (lv_at hl 0 rfl) ?_
                refine va_get (D := D) (ci := 1) (v := .ref (ad 8)) (C := RX1) (T := TX1) (N := 12) hx hb hts zi_X1_lots_X1 hown hK.1 hP 0 rfl rfl 1 (by decide) (hts _ zk_X1_lots_1) (fun _ h9 => h9) rfl dX1_lots_86 ?_
                obtain ⟨r25, g26, h⟩ := bo1 h
                refine zb_callV (As := []) (rest := [.int x9]) ⟨hx, hb, hml, hown, hts⟩ (zc_X0_allHelped l D cI (ad 8) (ad 9) (ad 10) (ad 11) (ad 12) (ad 13) (ad 14) n20 r25 g26) (cwV 0 hts gX1_lots_X0_allHelped rfl rfl rfl hd_X0_allHelped ⟨Nat.le_of_ble_eq_true rfl, Nat.le_of_ble_eq_true rfl⟩) hK hP hD hS hA (zb_cGm) (q0 := 0) rfl rfl rfl hl.1 rfl (Nat.le_of_ble_eq_true rfl) dX1_lots_89 ⟨Nat.le_refl _, Nat.le_refl _⟩ (fun H locs hP hD hS => ?_)
                refine lv_aload_n hx hb dX1_lots_92 rfl (lv_at hl 0 rfl) ?_
                refine va_get (D := D) (ci := 1) (v := .ref (ad 1)) (C := RX1) (T := TX1) (N := 12) hx hb hts zi_X1_lots_X1 hown hK.1 hP 0 rfl rfl 0 (by decide) (hts _ zk_X1_lots_2) (fun _ h9 => h9) rfl dX1_lots_93 ?_
                obtain ⟨r27, g28, h⟩ := bo1 h
                refine zb_callV (As := []) (rest := [.int r25, .int x9]) ⟨hx, hb, hml, hown, hts⟩ (zc_X0_allHelped l D cI (ad 1) (ad 2) (ad 3) (ad 4) (ad 5) (ad 6) (ad 7) g_now r27 g28) (cwV 0 hts gX1_lots_X0_allHelped rfl rfl rfl hd_X0_allHelped ⟨Nat.le_of_ble_eq_true rfl, Nat.le_of_ble_eq_true rfl⟩) hK hP hD hS hA (zb_cGn) (q0 := 0) rfl rfl rfl hl.1 rfl (Nat.le_of_ble_eq_true rfl) dX1_lots_96 ⟨Nat.le_refl _, Nat.le_refl _⟩ (fun H locs hP hD hS => ?_)
                refine lv_isub hx hb dX1_lots_99 ?_
                refine lv_goto (tgt := 110) hx hb dX1_lots_100 (by decide) ?_
                refine lv_iadd hx hb dX1_lots_110 ?_
                refine lv_istore (lv' := [(5, .int (x9 + (r25 - r27))), (0, .ref (ad 0)), (1, .int v1), (3, .int v3), (6, .int x10)]) hx hb dX1_lots_111 hl (by decide) rfl (fun ls hl => ?_)
                refine lv_iinc (v := (x10 + (1 : Int32))) (lv' := [(6, .int (x10 + (1 : Int32))), (5, .int (x9 + (r25 - r27))), (0, .ref (ad 0)), (1, .int v1), (3, .int v3)]) hx hb dX1_lots_113 hl (k := 4) rfl (by first | rfl | decide) (by decide) rfl (fun ls hl => ?_)
                refine lv_goto (tgt := 48) hx hb dX1_lots_116 (by decide) ?_
                exact ih13 (x9 + (r25 - r27)) (x10 + (1 : Int32)) n20 n18 _ _ hP hD hS ls (lv_sub hl [2, 3, 4, 1, 0] rfl) h
        exact lp13 zb_FU (0 : Int32) (0 : Int32) g_mind v2 _ _ hP hD hS ls (lv_sub hl [3, 4, 6, 1, 0] rfl) h
      · replace h := it_f c8 h
        refine lv_aload_n hx hb dX1_lots_30 rfl (lv_at hl 1 rfl) ?_
        refine lv_bipush (v := ((-2) : Int32)) hx hb dX1_lots_31 (by decide) ?_
        obtain ⟨r29, n30, g31, h⟩ := bo2 h
        refine zb_callV (As := [.int ((-2) : Int32)]) (rest := []) ⟨hx, hb, hml, hown, hts⟩ (zc_X1_refuse l D cI ad g_now g_mind g_taken g_isTaken g_letters g_letterCount g_told g_toldCount g_refusals g_costs g_gains g_seed ((-2) : Int32) r29 n30 g31) (cwV 1 hts gX1_lots_X1_refuse rfl rfl rfl hd_X1_refuse ⟨Nat.le_of_ble_eq_true rfl, Nat.le_of_ble_eq_true rfl⟩) hK hP hD hS hA (zb_sG) (q0 := 0) rfl rfl rfl hl.1 rfl (Nat.le_of_ble_eq_true rfl) dX1_lots_33 ⟨Nat.le_refl _, Nat.le_refl _⟩ (fun H locs hP hD hS => ?_)
        obtain ⟨rfl, rfl, rfl, rfl⟩ := re4 h
        exact zb_iret hx hb hr hlk hP hS dX1_lots_36
  · replace h := it_f c3 h
    refine lv_aload_n hx hb dX1_lots_14 rfl (lv_at hl 1 rfl) ?_
    refine lv_iload hx hb dX1_lots_15 (lv_at hl 0 rfl) ?_
    obtain ⟨r32, n33, g34, h⟩ := bo2 h
    refine zb_callV (As := [.int r1]) (rest := []) ⟨hx, hb, hml, hown, hts⟩ (zc_X1_refuse l D cI ad g_now g_mind g_taken g_isTaken g_letters g_letterCount g_told g_toldCount g_refusals g_costs g_gains g_seed r1 r32 n33 g34) (cwV 1 hts gX1_lots_X1_refuse rfl rfl rfl hd_X1_refuse ⟨Nat.le_of_ble_eq_true rfl, Nat.le_of_ble_eq_true rfl⟩) hK hP hD hS hA (zb_sG) (q0 := 0) rfl rfl rfl hl.1 rfl (Nat.le_of_ble_eq_true rfl) dX1_lots_17 ⟨Nat.le_refl _, Nat.le_refl _⟩ (fun H locs hP hD hS => ?_)
    obtain ⟨rfl, rfl, rfl, rfl⟩ := re4 h
    exact zb_iret hx hb hr hlk hP hS dX1_lots_20
abbrev rm_X1_image : Room := { frames := 2, cells := 0, slots := 0, locals := 51 }
theorem hd_X1_image : yX1_image.cls = RX1 ∧ yX1_image.cls ≠ "java/lang/invoke/MethodHandle" ∧ yX1_image.cls ≠ "java/lang/invoke/VarHandle" ∧ (parseMethodDescriptor yX1_image.desc).map (fun d => d.parameters.length) = some 0 := by decide +kernel
theorem zi_X1_image_X1 : ∀ w ∈ wsX10, w ∈ wsX1_image := fun _ h => List.mem_cons_of_mem _ (List.mem_append_left _ (List.mem_append_right _ h))
theorem zk_X1_image_0 : Cond.fieldLink RX1 19 "GroutingIsFollowed" "taken" "LGroutingIsFollowed$Bath;" ∈ wsX1_image := by decide +kernel
theorem zk_X1_image_1 : Cond.fieldLink RX1 10 "GroutingIsFollowed" "now" "LGroutingIsFollowed$Bath;" ∈ wsX1_image := by decide +kernel
theorem zk_X1_image_2 : Cond.fieldLink RX1 210 "GroutingIsFollowed" "isTaken" "Z" ∈ wsX1_image := by decide +kernel
set_option maxHeartbeats 4000000 in
set_option maxRecDepth 100000 in
theorem zc_X1_image (l : Launch) (D : va_G) (cI : ClassId) (ad : Nat → Nat) (g_now : BT) (g_mind : BT) (g_taken : BT) (g_isTaken : Int32) (g_letters : (Nat → Int32)) (g_letterCount : Int32) (g_told : (Nat → Int32)) (g_toldCount : Int32) (g_refusals : (Nat → Int32)) (g_costs : (Nat → Int32)) (g_gains : (Nat → Int32)) (g_seed : Int32) (r0 : Int32) (w_g_taken : BT) (w_g_isTaken : Int32) (h : zf_X1_image g_now g_taken g_isTaken = some (r0, w_g_taken, w_g_isTaken)) : Cn l D cI yX1_image wsX1_image rm_X1_image [.ref (ad 0)] (zb_G cI ad g_now g_mind g_taken g_isTaken g_letters g_letterCount g_told g_toldCount g_refusals g_costs g_gains g_seed) (some (.int r0)) (zb_G cI ad g_now g_mind w_g_taken w_g_isTaken g_letters g_letterCount g_told g_toldCount g_refusals g_costs g_gains g_seed) := by
  refine zb_ofW (cc := cX1_image) (maxL := 1) (ret := (some .int)) (by decide) rfl (Nat.le_of_ble_eq_true rfl) ?_
  intro p e s m args below meth c A ls hx hb hr hml hts hown hlk hK hP hD hA hl
  have hS : va_S A s.heap s.heap [] := va_S.rf
  have hl : lv_has ls 1 [(0, .ref (ad 0))] := hl
  unfold zf_X1_image at h
  refine lv_aload_n hx hb dX1_image_0 rfl (lv_at hl 0 rfl) ?_
  refine va_get (D := D) (ci := 1) (v := .ref (ad 15)) (C := RX1) (T := TX1) (N := 12) hx hb hts zi_X1_image_X1 hown hK.1 hP 0 rfl rfl 2 (by decide) (hts _ zk_X1_image_0) (fun _ h9 => h9) rfl dX1_image_1 ?_
  refine lv_aload_n hx hb dX1_image_4 rfl (lv_at hl 0 rfl) ?_
  refine va_get (D := D) (ci := 1) (v := .ref (ad 1)) (C := RX1) (T := TX1) (N := 12) hx hb hts zi_X1_image_X1 hown hK.1 hP 0 rfl rfl 0 (by decide) (hts _ zk_X1_image_1) (fun _ h9 => h9) rfl dX1_image_5 ?_
  obtain ⟨n1, g2, h⟩ := bo1 h
  refine zb_callV (As := [.ref (ad 1)]) (rest := []) ⟨hx, hb, hml, hown, hts⟩ (zc_X0_becomes l D cI (ad 15) (ad 16) (ad 17) (ad 18) (ad 19) (ad 20) (ad 21) (ad 1) (ad 2) (ad 3) (ad 4) (ad 5) (ad 6) (ad 7) g_taken g_now n1 g2) (cwV 1 hts gX1_image_X0_becomes rfl rfl rfl hd_X0_becomes ⟨Nat.le_of_ble_eq_true rfl, Nat.le_of_ble_eq_true rfl⟩) hK hP hD hS hA (zb_cGtn) (q0 := 0) rfl rfl rfl hl.1 rfl (Nat.le_of_ble_eq_true rfl) dX1_image_8 ⟨Nat.le_refl _, Nat.le_refl _⟩ (fun H locs hP hD hS => ?_)
  refine lv_aload_n hx hb dX1_image_11 rfl (lv_at hl 0 rfl) ?_
  refine lv_iconst (v := (1 : Int32)) hx hb dX1_image_12 (by decide) ?_
  refine va_put (D := D) (ci := 1) (v := .int (1 : Int32)) (ty := .boolean) (C := RX1) (T := TX1) (N := 12) hx hb hts zi_X1_image_X1 tyX1 tyX1_ok nmX1 hown hK.1 hP hD hS 0 rfl rfl 3 (by decide) (hts _ zk_X1_image_2) (fun _ h9 => h9) rfl (by decide +kernel) rfl rfl (Nat.le_of_ble_eq_true rfl) dX1_image_13 (fun H locs hP hD hS => ?_)
  have hP : va_P D zb_cl (zb_G cI ad g_now g_mind n1 (1 : Int32) g_letters g_letterCount g_told g_toldCount g_refusals g_costs g_gains g_seed) H := hP
  have hD : va_D A (zb_G cI ad g_now g_mind n1 (1 : Int32) g_letters g_letterCount g_told g_toldCount g_refusals g_costs g_gains g_seed) := hD
  refine lv_aload_n hx hb dX1_image_16 rfl (lv_at hl 0 rfl) ?_
  refine va_get (D := D) (ci := 1) (v := .ref (ad 1)) (C := RX1) (T := TX1) (N := 12) hx hb hts zi_X1_image_X1 hown hK.1 hP 0 rfl rfl 0 (by decide) (hts _ zk_X1_image_1) (fun _ h9 => h9) rfl dX1_image_17 ?_
  obtain ⟨r3, g4, h⟩ := bo1 h
  refine zb_callV (As := []) (rest := []) ⟨hx, hb, hml, hown, hts⟩ (zc_X0_stepCount l D cI (ad 1) (ad 2) (ad 3) (ad 4) (ad 5) (ad 6) (ad 7) g_now r3 g4) (cwV 0 hts gX1_image_X0_stepCount rfl rfl rfl hd_X0_stepCount ⟨Nat.le_of_ble_eq_true rfl, Nat.le_of_ble_eq_true rfl⟩) hK hP hD hS hA (zb_cGn) (q0 := 0) rfl rfl rfl hl.1 rfl (Nat.le_of_ble_eq_true rfl) dX1_image_20 ⟨Nat.le_refl _, Nat.le_refl _⟩ (fun H locs hP hD hS => ?_)
  obtain ⟨rfl, rfl, rfl⟩ := re3 h
  exact zb_iret hx hb hr hlk hP hS dX1_image_23
abbrev rm_X1_on : Room := { frames := 2, cells := 0, slots := 0, locals := 51 }
theorem hd_X1_on : yX1_on.cls = RX1 ∧ yX1_on.cls ≠ "java/lang/invoke/MethodHandle" ∧ yX1_on.cls ≠ "java/lang/invoke/VarHandle" ∧ (parseMethodDescriptor yX1_on.desc).map (fun d => d.parameters.length) = some 0 := by decide +kernel
theorem zi_X1_on_X1 : ∀ w ∈ wsX10, w ∈ wsX1_on := fun _ h => List.mem_cons_of_mem _ (List.mem_append_left _ (List.mem_append_right _ h))
theorem zk_X1_on_0 : Cond.fieldLink RX1 210 "GroutingIsFollowed" "isTaken" "Z" ∈ wsX1_on := by decide +kernel
theorem zk_X1_on_1 : Cond.fieldLink RX1 10 "GroutingIsFollowed" "now" "LGroutingIsFollowed$Bath;" ∈ wsX1_on := by decide +kernel
theorem zk_X1_on_2 : Cond.fieldLink RX1 19 "GroutingIsFollowed" "taken" "LGroutingIsFollowed$Bath;" ∈ wsX1_on := by decide +kernel
set_option maxHeartbeats 4000000 in
set_option maxRecDepth 100000 in
theorem zc_X1_on (l : Launch) (D : va_G) (cI : ClassId) (ad : Nat → Nat) (g_now : BT) (g_mind : BT) (g_taken : BT) (g_isTaken : Int32) (g_letters : (Nat → Int32)) (g_letterCount : Int32) (g_told : (Nat → Int32)) (g_toldCount : Int32) (g_refusals : (Nat → Int32)) (g_costs : (Nat → Int32)) (g_gains : (Nat → Int32)) (g_seed : Int32) (r0 : Int32) (w_g_now : BT) (w_g_refusals : (Nat → Int32)) (h : zf_X1_on g_now g_taken g_isTaken g_refusals = some (r0, w_g_now, w_g_refusals)) : Cn l D cI yX1_on wsX1_on rm_X1_on [.ref (ad 0)] (zb_G cI ad g_now g_mind g_taken g_isTaken g_letters g_letterCount g_told g_toldCount g_refusals g_costs g_gains g_seed) (some (.int r0)) (zb_G cI ad w_g_now g_mind g_taken g_isTaken g_letters g_letterCount g_told g_toldCount w_g_refusals g_costs g_gains g_seed) := by
  refine zb_ofW (cc := cX1_on) (maxL := 1) (ret := (some .int)) (by decide) rfl (Nat.le_of_ble_eq_true rfl) ?_
  intro p e s m args below meth c A ls hx hb hr hml hts hown hlk hK hP hD hA hl
  have hS : va_S A s.heap s.heap [] := va_S.rf
  have hl : lv_has ls 1 [(0, .ref (ad 0))] := hl
  unfold zf_X1_on at h
  refine lv_aload_n hx hb dX1_on_0 rfl (lv_at hl 0 rfl) ?_
  refine va_get (D := D) (ci := 1) (v := .int g_isTaken) (C := RX1) (T := TX1) (N := 12) hx hb hts zi_X1_on_X1 hown hK.1 hP 0 rfl rfl 3 (by decide) (hts _ zk_X1_on_0) (fun _ h9 => h9) rfl dX1_on_1 ?_
  refine lv_if_ne (tgt := 14) hx hb dX1_on_4 (by decide) (fun c1 => ?_) (fun c1 => ?_)
  · replace h := it_f c1 h
    refine lv_aload_n hx hb dX1_on_14 rfl (lv_at hl 0 rfl) ?_
    refine va_get (D := D) (ci := 1) (v := .ref (ad 1)) (C := RX1) (T := TX1) (N := 12) hx hb hts zi_X1_on_X1 hown hK.1 hP 0 rfl rfl 0 (by decide) (hts _ zk_X1_on_1) (fun _ h9 => h9) rfl dX1_on_15 ?_
    refine lv_aload_n hx hb dX1_on_18 rfl (lv_at hl 0 rfl) ?_
    refine va_get (D := D) (ci := 1) (v := .ref (ad 15)) (C := RX1) (T := TX1) (N := 12) hx hb hts zi_X1_on_X1 hown hK.1 hP 0 rfl rfl 2 (by decide) (hts _ zk_X1_on_2) (fun _ h9 => h9) rfl dX1_on_19 ?_
    obtain ⟨n2, g3, h⟩ := bo1 h
    refine zb_callV (As := [.ref (ad 15)]) (rest := []) ⟨hx, hb, hml, hown, hts⟩ (zc_X0_becomes l D cI (ad 1) (ad 2) (ad 3) (ad 4) (ad 5) (ad 6) (ad 7) (ad 15) (ad 16) (ad 17) (ad 18) (ad 19) (ad 20) (ad 21) g_now g_taken n2 g3) (cwV 1 hts gX1_on_X0_becomes rfl rfl rfl hd_X0_becomes ⟨Nat.le_of_ble_eq_true rfl, Nat.le_of_ble_eq_true rfl⟩) hK hP hD hS hA (zb_cGnt) (q0 := 0) rfl rfl rfl hl.1 rfl (Nat.le_of_ble_eq_true rfl) dX1_on_22 ⟨Nat.le_refl _, Nat.le_refl _⟩ (fun H locs hP hD hS => ?_)
    refine lv_aload_n hx hb dX1_on_25 rfl (lv_at hl 0 rfl) ?_
    refine va_get (D := D) (ci := 1) (v := .ref (ad 1)) (C := RX1) (T := TX1) (N := 12) hx hb hts zi_X1_on_X1 hown hK.1 hP 0 rfl rfl 0 (by decide) (hts _ zk_X1_on_1) (fun _ h9 => h9) rfl dX1_on_26 ?_
    obtain ⟨r4, g5, h⟩ := bo1 h
    refine zb_callV (As := []) (rest := []) ⟨hx, hb, hml, hown, hts⟩ (zc_X0_stepCount l D cI (ad 1) (ad 2) (ad 3) (ad 4) (ad 5) (ad 6) (ad 7) n2 r4 g5) (cwV 0 hts gX1_on_X0_stepCount rfl rfl rfl hd_X0_stepCount ⟨Nat.le_of_ble_eq_true rfl, Nat.le_of_ble_eq_true rfl⟩) hK hP hD hS hA (zb_cGn) (q0 := 0) rfl rfl rfl hl.1 rfl (Nat.le_of_ble_eq_true rfl) dX1_on_29 ⟨Nat.le_refl _, Nat.le_refl _⟩ (fun H locs hP hD hS => ?_)
    obtain ⟨rfl, rfl, rfl⟩ := re3 h
    exact zb_iret hx hb hr hlk hP hS dX1_on_32
  · replace h := it_t c1 h
    refine lv_aload_n hx hb dX1_on_7 rfl (lv_at hl 0 rfl) ?_
    refine lv_bipush (v := ((-3) : Int32)) hx hb dX1_on_8 (by decide) ?_
    obtain ⟨r6, n7, g8, h⟩ := bo2 h
    refine zb_callV (As := [.int ((-3) : Int32)]) (rest := []) ⟨hx, hb, hml, hown, hts⟩ (zc_X1_refuse l D cI ad g_now g_mind g_taken g_isTaken g_letters g_letterCount g_told g_toldCount g_refusals g_costs g_gains g_seed ((-3) : Int32) r6 n7 g8) (cwV 1 hts gX1_on_X1_refuse rfl rfl rfl hd_X1_refuse ⟨Nat.le_of_ble_eq_true rfl, Nat.le_of_ble_eq_true rfl⟩) hK hP hD hS hA (zb_sG) (q0 := 0) rfl rfl rfl hl.1 rfl (Nat.le_of_ble_eq_true rfl) dX1_on_10 ⟨Nat.le_refl _, Nat.le_refl _⟩ (fun H locs hP hD hS => ?_)
    obtain ⟨rfl, rfl, rfl⟩ := re3 h
    exact zb_iret hx hb hr hlk hP hS dX1_on_13
abbrev rm_X1_refusalsOf : Room := { frames := 0, cells := 0, slots := 0, locals := 0 }
theorem hd_X1_refusalsOf : yX1_refusalsOf.cls = RX1 ∧ yX1_refusalsOf.cls ≠ "java/lang/invoke/MethodHandle" ∧ yX1_refusalsOf.cls ≠ "java/lang/invoke/VarHandle" ∧ (parseMethodDescriptor yX1_refusalsOf.desc).map (fun d => d.parameters.length) = some 1 := by decide +kernel
theorem zi_X1_refusalsOf_X1 : ∀ w ∈ wsX10, w ∈ wsX1_refusalsOf := fun _ h => List.mem_cons_of_mem _ (List.mem_append_right _ h)
theorem zk_X1_refusalsOf_0 : Cond.fieldLink RX1 29 "GroutingIsFollowed" "refusals" "[I" ∈ wsX1_refusalsOf := by decide +kernel
set_option maxHeartbeats 4000000 in
set_option maxRecDepth 100000 in
theorem zc_X1_refusalsOf (l : Launch) (D : va_G) (cI : ClassId) (ad : Nat → Nat) (g_now : BT) (g_mind : BT) (g_taken : BT) (g_isTaken : Int32) (g_letters : (Nat → Int32)) (g_letterCount : Int32) (g_told : (Nat → Int32)) (g_toldCount : Int32) (g_refusals : (Nat → Int32)) (g_costs : (Nat → Int32)) (g_gains : (Nat → Int32)) (g_seed : Int32) (v1 : Int32) (r0 : Int32) (h : zf_X1_refusalsOf g_refusals v1 = some r0) : Cn l D cI yX1_refusalsOf wsX1_refusalsOf rm_X1_refusalsOf [.ref (ad 0), .int v1] (zb_G cI ad g_now g_mind g_taken g_isTaken g_letters g_letterCount g_told g_toldCount g_refusals g_costs g_gains g_seed) (some (.int r0)) (zb_G cI ad g_now g_mind g_taken g_isTaken g_letters g_letterCount g_told g_toldCount g_refusals g_costs g_gains g_seed) := by
  refine zb_ofW (cc := cX1_refusalsOf) (maxL := 2) (ret := (some .int)) (by decide) rfl (Nat.le_of_ble_eq_true rfl) ?_
  intro p e s m args below meth c A ls hx hb hr hml hts hown hlk hK hP hD hA hl
  have hS : va_S A s.heap s.heap [] := va_S.rf
  have hl : lv_has ls 2 [(0, .ref (ad 0)), (1, .int v1)] := hl
  unfold zf_X1_refusalsOf at h
  refine lv_iload_n hx hb dX1_refusalsOf_0 rfl (lv_at hl 1 rfl) ?_
  refine lv_if_lt (tgt := 22) hx hb dX1_refusalsOf_1 (by decide) (fun c1 => ?_) (fun c1 => ?_)
  · replace h := it_t c1 h
    refine lv_bipush (v := ((-9) : Int32)) hx hb dX1_refusalsOf_22 (by decide) ?_
    obtain rfl := re1 h
    exact zb_iret hx hb hr hlk hP hS dX1_refusalsOf_24
  · replace h := it_f c1 h
    refine lv_iload_n hx hb dX1_refusalsOf_4 rfl (lv_at hl 1 rfl) ?_
    refine lv_aload_n hx hb dX1_refusalsOf_5 rfl (lv_at hl 0 rfl) ?_
    refine va_get (D := D) (ci := 1) (v := .ref (ad 24)) (C := RX1) (T := TX1) (N := 12) hx hb hts zi_X1_refusalsOf_X1 hown hK.1 hP 0 rfl rfl 8 (by decide) (hts _ zk_X1_refusalsOf_0) (fun _ h9 => h9) rfl dX1_refusalsOf_6 ?_
    refine va_alen (v := (6 : Int32)) hx hb hK.1 hP 24 0 rfl rfl rfl dX1_refusalsOf_9 ?_
    refine lv_icmp_ge (tgt := 22) hx hb dX1_refusalsOf_10 (by decide) (fun c2 => ?_) (fun c2 => ?_)
    · replace h := it_t c2 h
      refine lv_bipush (v := ((-9) : Int32)) hx hb dX1_refusalsOf_22 (by decide) ?_
      obtain rfl := re1 h
      exact zb_iret hx hb hr hlk hP hS dX1_refusalsOf_24
    · replace h := it_f c2 h
      refine lv_aload_n hx hb dX1_refusalsOf_13 rfl (lv_at hl 0 rfl) ?_
      refine va_get (D := D) (ci := 1) (v := .ref (ad 24)) (C := RX1) (T := TX1) (N := 12) hx hb hts zi_X1_refusalsOf_X1 hown hK.1 hP 0 rfl rfl 8 (by decide) (hts _ zk_X1_refusalsOf_0) (fun _ h9 => h9) rfl dX1_refusalsOf_14 ?_
      refine lv_iload_n hx hb dX1_refusalsOf_17 rfl (lv_at hl 1 rfl) ?_
      obtain ⟨h3, h⟩ := it_g h
      refine va_iald hx hb hK.1 hP 24 0 rfl rfl h3 dX1_refusalsOf_18 ?_
      refine lv_goto (tgt := 24) hx hb dX1_refusalsOf_19 (by decide) ?_
      obtain rfl := re1 h
      exact zb_iret hx hb hr hlk hP hS dX1_refusalsOf_24
abbrev rm_X1_count : Room := { frames := 4, cells := 0, slots := 0, locals := 86 }
theorem hd_X1_count : yX1_count.cls = RX1 ∧ yX1_count.cls ≠ "java/lang/invoke/MethodHandle" ∧ yX1_count.cls ≠ "java/lang/invoke/VarHandle" ∧ (parseMethodDescriptor yX1_count.desc).map (fun d => d.parameters.length) = some 1 := by decide +kernel
theorem zi_X1_count_X1 : ∀ w ∈ wsX10, w ∈ wsX1_count := fun _ h => List.mem_cons_of_mem _ (List.mem_append_left _ (List.mem_append_right _ h))
theorem zk_X1_count_0 : Cond.fieldLink RX1 42 "GroutingIsFollowed" "letterCount" "I" ∈ wsX1_count := by decide +kernel
theorem zk_X1_count_1 : Cond.fieldLink RX1 192 "GroutingIsFollowed" "toldCount" "I" ∈ wsX1_count := by decide +kernel
theorem zk_X1_count_2 : Cond.fieldLink RX1 10 "GroutingIsFollowed" "now" "LGroutingIsFollowed$Bath;" ∈ wsX1_count := by decide +kernel
set_option maxHeartbeats 4000000 in
set_option maxRecDepth 100000 in
theorem zc_X1_count (l : Launch) (D : va_G) (cI : ClassId) (ad : Nat → Nat) (g_now : BT) (g_mind : BT) (g_taken : BT) (g_isTaken : Int32) (g_letters : (Nat → Int32)) (g_letterCount : Int32) (g_told : (Nat → Int32)) (g_toldCount : Int32) (g_refusals : (Nat → Int32)) (g_costs : (Nat → Int32)) (g_gains : (Nat → Int32)) (g_seed : Int32) (v1 : Int32) (r0 : Int32) (h : zf_X1_count g_now g_letterCount g_toldCount g_refusals v1 = some r0) : Cn l D cI yX1_count wsX1_count rm_X1_count [.ref (ad 0), .int v1] (zb_G cI ad g_now g_mind g_taken g_isTaken g_letters g_letterCount g_told g_toldCount g_refusals g_costs g_gains g_seed) (some (.int r0)) (zb_G cI ad g_now g_mind g_taken g_isTaken g_letters g_letterCount g_told g_toldCount g_refusals g_costs g_gains g_seed) := by
  refine zb_ofW (cc := cX1_count) (maxL := 2) (ret := (some .int)) (by decide) rfl (Nat.le_of_ble_eq_true rfl) ?_
  intro p e s m args below meth c A ls hx hb hr hml hts hown hlk hK hP hD hA hl
  have hS : va_S A s.heap s.heap [] := va_S.rf
  have hl : lv_has ls 2 [(0, .ref (ad 0)), (1, .int v1)] := hl
  unfold zf_X1_count at h
  refine lv_iload_n hx hb dX1_count_0 rfl (lv_at hl 1 rfl) ?_
  by_cases c1 : v1 = (0 : Int32)
  · replace h := it_t c1 h
    have e9 : v1.toInt = 0 := by rw [c1]; rfl
    refine lv_tableIn (tgt := 48) hx hb dX1_count_1 (by rw [e9]; decide) (by rw [e9]; decide) (by rw [e9]; rfl) (by decide) ?_
    refine lv_aload_n hx hb dX1_count_48 rfl (lv_at hl 0 rfl) ?_
    refine va_get (D := D) (ci := 1) (v := .ref (ad 1)) (C := RX1) (T := TX1) (N := 12) hx hb hts zi_X1_count_X1 hown hK.1 hP 0 rfl rfl 0 (by decide) (hts _ zk_X1_count_2) (fun _ h9 => h9) rfl dX1_count_49 ?_
    obtain ⟨r2, g3, h⟩ := bo1 h
    refine zb_callV (As := []) (rest := []) ⟨hx, hb, hml, hown, hts⟩ (zc_X0_peopleCount l D cI (ad 1) (ad 2) (ad 3) (ad 4) (ad 5) (ad 6) (ad 7) g_now r2 g3) (cwV 0 hts gX1_count_X0_peopleCount rfl rfl rfl hd_X0_peopleCount ⟨Nat.le_of_ble_eq_true rfl, Nat.le_of_ble_eq_true rfl⟩) hK hP hD hS hA (zb_cGn) (q0 := 0) rfl rfl rfl hl.1 rfl (Nat.le_of_ble_eq_true rfl) dX1_count_52 ⟨Nat.le_refl _, Nat.le_refl _⟩ (fun H locs hP hD hS => ?_)
    obtain rfl := re1 h
    exact zb_iret hx hb hr hlk hP hS dX1_count_55
  replace h := it_f c1 h
  by_cases c4 : v1 = (1 : Int32)
  · replace h := it_t c4 h
    have e9 : v1.toInt = 1 := by rw [c4]; rfl
    refine lv_tableIn (tgt := 56) hx hb dX1_count_1 (by rw [e9]; decide) (by rw [e9]; decide) (by rw [e9]; rfl) (by decide) ?_
    refine lv_aload_n hx hb dX1_count_56 rfl (lv_at hl 0 rfl) ?_
    refine va_get (D := D) (ci := 1) (v := .ref (ad 1)) (C := RX1) (T := TX1) (N := 12) hx hb hts zi_X1_count_X1 hown hK.1 hP 0 rfl rfl 0 (by decide) (hts _ zk_X1_count_2) (fun _ h9 => h9) rfl dX1_count_57 ?_
    obtain ⟨r5, g6, h⟩ := bo1 h
    refine zb_callV (As := []) (rest := []) ⟨hx, hb, hml, hown, hts⟩ (zc_X0_stepCount l D cI (ad 1) (ad 2) (ad 3) (ad 4) (ad 5) (ad 6) (ad 7) g_now r5 g6) (cwV 0 hts gX1_count_X0_stepCount rfl rfl rfl hd_X0_stepCount ⟨Nat.le_of_ble_eq_true rfl, Nat.le_of_ble_eq_true rfl⟩) hK hP hD hS hA (zb_cGn) (q0 := 0) rfl rfl rfl hl.1 rfl (Nat.le_of_ble_eq_true rfl) dX1_count_60 ⟨Nat.le_refl _, Nat.le_refl _⟩ (fun H locs hP hD hS => ?_)
    obtain rfl := re1 h
    exact zb_iret hx hb hr hlk hP hS dX1_count_63
  replace h := it_f c4 h
  by_cases c7 : v1 = (2 : Int32)
  · replace h := it_t c7 h
    have e9 : v1.toInt = 2 := by rw [c7]; rfl
    refine lv_tableIn (tgt := 64) hx hb dX1_count_1 (by rw [e9]; decide) (by rw [e9]; decide) (by rw [e9]; rfl) (by decide) ?_
    refine lv_aload_n hx hb dX1_count_64 rfl (lv_at hl 0 rfl) ?_
    refine va_get (D := D) (ci := 1) (v := .ref (ad 1)) (C := RX1) (T := TX1) (N := 12) hx hb hts zi_X1_count_X1 hown hK.1 hP 0 rfl rfl 0 (by decide) (hts _ zk_X1_count_2) (fun _ h9 => h9) rfl dX1_count_65 ?_
    obtain ⟨r8, g9, h⟩ := bo1 h
    refine zb_callV (As := []) (rest := []) ⟨hx, hb, hml, hown, hts⟩ (zc_X0_allWet l D cI (ad 1) (ad 2) (ad 3) (ad 4) (ad 5) (ad 6) (ad 7) g_now r8 g9) (cwV 0 hts gX1_count_X0_allWet rfl rfl rfl hd_X0_allWet ⟨Nat.le_of_ble_eq_true rfl, Nat.le_of_ble_eq_true rfl⟩) hK hP hD hS hA (zb_cGn) (q0 := 0) rfl rfl rfl hl.1 rfl (Nat.le_of_ble_eq_true rfl) dX1_count_68 ⟨Nat.le_refl _, Nat.le_refl _⟩ (fun H locs hP hD hS => ?_)
    obtain rfl := re1 h
    exact zb_iret hx hb hr hlk hP hS dX1_count_71
  replace h := it_f c7 h
  by_cases c10 : v1 = (3 : Int32)
  · replace h := it_t c10 h
    have e9 : v1.toInt = 3 := by rw [c10]; rfl
    refine lv_tableIn (tgt := 72) hx hb dX1_count_1 (by rw [e9]; decide) (by rw [e9]; decide) (by rw [e9]; rfl) (by decide) ?_
    refine lv_aload_n hx hb dX1_count_72 rfl (lv_at hl 0 rfl) ?_
    refine va_get (D := D) (ci := 1) (v := .ref (ad 1)) (C := RX1) (T := TX1) (N := 12) hx hb hts zi_X1_count_X1 hown hK.1 hP 0 rfl rfl 0 (by decide) (hts _ zk_X1_count_2) (fun _ h9 => h9) rfl dX1_count_73 ?_
    obtain ⟨r11, g12, h⟩ := bo1 h
    refine zb_callV (As := []) (rest := []) ⟨hx, hb, hml, hown, hts⟩ (zc_X0_allHelped l D cI (ad 1) (ad 2) (ad 3) (ad 4) (ad 5) (ad 6) (ad 7) g_now r11 g12) (cwV 0 hts gX1_count_X0_allHelped rfl rfl rfl hd_X0_allHelped ⟨Nat.le_of_ble_eq_true rfl, Nat.le_of_ble_eq_true rfl⟩) hK hP hD hS hA (zb_cGn) (q0 := 0) rfl rfl rfl hl.1 rfl (Nat.le_of_ble_eq_true rfl) dX1_count_76 ⟨Nat.le_refl _, Nat.le_refl _⟩ (fun H locs hP hD hS => ?_)
    obtain rfl := re1 h
    exact zb_iret hx hb hr hlk hP hS dX1_count_79
  replace h := it_f c10 h
  by_cases c13 : v1 = (4 : Int32)
  · replace h := it_t c13 h
    have e9 : v1.toInt = 4 := by rw [c13]; rfl
    refine lv_tableIn (tgt := 80) hx hb dX1_count_1 (by rw [e9]; decide) (by rw [e9]; decide) (by rw [e9]; rfl) (by decide) ?_
    refine lv_aload_n hx hb dX1_count_80 rfl (lv_at hl 0 rfl) ?_
    refine va_get (D := D) (ci := 1) (v := .ref (ad 1)) (C := RX1) (T := TX1) (N := 12) hx hb hts zi_X1_count_X1 hown hK.1 hP 0 rfl rfl 0 (by decide) (hts _ zk_X1_count_2) (fun _ h9 => h9) rfl dX1_count_81 ?_
    obtain ⟨r14, g15, h⟩ := bo1 h
    refine zb_callV (As := []) (rest := []) ⟨hx, hb, hml, hown, hts⟩ (zc_X0_dryNodes l D cI (ad 1) (ad 2) (ad 3) (ad 4) (ad 5) (ad 6) (ad 7) g_now r14 g15) (cwV 0 hts gX1_count_X0_dryNodes rfl rfl rfl hd_X0_dryNodes ⟨Nat.le_of_ble_eq_true rfl, Nat.le_of_ble_eq_true rfl⟩) hK hP hD hS hA (zb_cGn) (q0 := 0) rfl rfl rfl hl.1 rfl (Nat.le_of_ble_eq_true rfl) dX1_count_84 ⟨Nat.le_refl _, Nat.le_refl _⟩ (fun H locs hP hD hS => ?_)
    obtain rfl := re1 h
    exact zb_iret hx hb hr hlk hP hS dX1_count_87
  replace h := it_f c13 h
  by_cases c16 : v1 = (5 : Int32)
  · replace h := it_t c16 h
    have e9 : v1.toInt = 5 := by rw [c16]; rfl
    refine lv_tableIn (tgt := 88) hx hb dX1_count_1 (by rw [e9]; decide) (by rw [e9]; decide) (by rw [e9]; rfl) (by decide) ?_
    refine lv_aload_n hx hb dX1_count_88 rfl (lv_at hl 0 rfl) ?_
    refine va_get (D := D) (ci := 1) (v := .ref (ad 1)) (C := RX1) (T := TX1) (N := 12) hx hb hts zi_X1_count_X1 hown hK.1 hP 0 rfl rfl 0 (by decide) (hts _ zk_X1_count_2) (fun _ h9 => h9) rfl dX1_count_89 ?_
    obtain ⟨r17, g18, h⟩ := bo1 h
    refine zb_callV (As := []) (rest := []) ⟨hx, hb, hml, hown, hts⟩ (zc_X0_allFigures l D cI (ad 1) (ad 2) (ad 3) (ad 4) (ad 5) (ad 6) (ad 7) g_now r17 g18) (cwV 0 hts gX1_count_X0_allFigures rfl rfl rfl hd_X0_allFigures ⟨Nat.le_of_ble_eq_true rfl, Nat.le_of_ble_eq_true rfl⟩) hK hP hD hS hA (zb_cGn) (q0 := 0) rfl rfl rfl hl.1 rfl (Nat.le_of_ble_eq_true rfl) dX1_count_92 ⟨Nat.le_refl _, Nat.le_refl _⟩ (fun H locs hP hD hS => ?_)
    obtain rfl := re1 h
    exact zb_iret hx hb hr hlk hP hS dX1_count_95
  replace h := it_f c16 h
  by_cases c19 : v1 = (6 : Int32)
  · replace h := it_t c19 h
    have e9 : v1.toInt = 6 := by rw [c19]; rfl
    refine lv_tableIn (tgt := 96) hx hb dX1_count_1 (by rw [e9]; decide) (by rw [e9]; decide) (by rw [e9]; rfl) (by decide) ?_
    refine lv_aload_n hx hb dX1_count_96 rfl (lv_at hl 0 rfl) ?_
    refine va_get (D := D) (ci := 1) (v := .int g_toldCount) (C := RX1) (T := TX1) (N := 12) hx hb hts zi_X1_count_X1 hown hK.1 hP 0 rfl rfl 7 (by decide) (hts _ zk_X1_count_1) (fun _ h9 => h9) rfl dX1_count_97 ?_
    obtain rfl := re1 h
    exact zb_iret hx hb hr hlk hP hS dX1_count_100
  replace h := it_f c19 h
  by_cases c20 : v1 = (7 : Int32)
  · replace h := it_t c20 h
    have e9 : v1.toInt = 7 := by rw [c20]; rfl
    refine lv_tableIn (tgt := 101) hx hb dX1_count_1 (by rw [e9]; decide) (by rw [e9]; decide) (by rw [e9]; rfl) (by decide) ?_
    refine lv_aload_n hx hb dX1_count_101 rfl (lv_at hl 0 rfl) ?_
    refine va_get (D := D) (ci := 1) (v := .int g_letterCount) (C := RX1) (T := TX1) (N := 12) hx hb hts zi_X1_count_X1 hown hK.1 hP 0 rfl rfl 5 (by decide) (hts _ zk_X1_count_0) (fun _ h9 => h9) rfl dX1_count_102 ?_
    obtain rfl := re1 h
    exact zb_iret hx hb hr hlk hP hS dX1_count_105
  replace h := it_f c20 h
  have e_c1 := sw_ne (k := 0) rfl c1
  have e_c4 := sw_ne (k := 1) rfl c4
  have e_c7 := sw_ne (k := 2) rfl c7
  have e_c10 := sw_ne (k := 3) rfl c10
  have e_c13 := sw_ne (k := 4) rfl c13
  have e_c16 := sw_ne (k := 5) rfl c16
  have e_c19 := sw_ne (k := 6) rfl c19
  have e_c20 := sw_ne (k := 7) rfl c20
  refine lv_tableOut (tgt := 106) hx hb dX1_count_1 (by omega) (by decide) ?_
  refine lv_aload_n hx hb dX1_count_106 rfl (lv_at hl 0 rfl) ?_
  refine lv_iload_n hx hb dX1_count_107 rfl (lv_at hl 1 rfl) ?_
  refine lv_bipush (v := (11 : Int32)) hx hb dX1_count_108 (by decide) ?_
  refine lv_isub hx hb dX1_count_110 ?_
  obtain ⟨r21, g22, h⟩ := bo1 h
  refine zb_callV (As := [.int (v1 - (11 : Int32))]) (rest := []) ⟨hx, hb, hml, hown, hts⟩ (zc_X1_refusalsOf l D cI ad g_now g_mind g_taken g_isTaken g_letters g_letterCount g_told g_toldCount g_refusals g_costs g_gains g_seed (v1 - (11 : Int32)) r21 g22) (cwV 1 hts gX1_count_X1_refusalsOf rfl rfl rfl hd_X1_refusalsOf ⟨Nat.le_of_ble_eq_true rfl, Nat.le_of_ble_eq_true rfl⟩) hK hP hD hS hA (zb_sG) (q0 := 0) rfl rfl rfl hl.1 rfl (Nat.le_of_ble_eq_true rfl) dX1_count_111 ⟨Nat.le_refl _, Nat.le_refl _⟩ (fun H locs hP hD hS => ?_)
  obtain rfl := re1 h
  exact zb_iret hx hb hr hlk hP hS dX1_count_114
abbrev rm_X1_letterAt : Room := { frames := 0, cells := 0, slots := 0, locals := 0 }
theorem hd_X1_letterAt : yX1_letterAt.cls = RX1 ∧ yX1_letterAt.cls ≠ "java/lang/invoke/MethodHandle" ∧ yX1_letterAt.cls ≠ "java/lang/invoke/VarHandle" ∧ (parseMethodDescriptor yX1_letterAt.desc).map (fun d => d.parameters.length) = some 1 := by decide +kernel
theorem zi_X1_letterAt_X1 : ∀ w ∈ wsX10, w ∈ wsX1_letterAt := fun _ h => List.mem_cons_of_mem _ (List.mem_append_right _ h)
theorem zk_X1_letterAt_0 : Cond.fieldLink RX1 42 "GroutingIsFollowed" "letterCount" "I" ∈ wsX1_letterAt := by decide +kernel
theorem zk_X1_letterAt_1 : Cond.fieldLink RX1 22 "GroutingIsFollowed" "letters" "[I" ∈ wsX1_letterAt := by decide +kernel
set_option maxHeartbeats 4000000 in
set_option maxRecDepth 100000 in
theorem zc_X1_letterAt (l : Launch) (D : va_G) (cI : ClassId) (ad : Nat → Nat) (g_now : BT) (g_mind : BT) (g_taken : BT) (g_isTaken : Int32) (g_letters : (Nat → Int32)) (g_letterCount : Int32) (g_told : (Nat → Int32)) (g_toldCount : Int32) (g_refusals : (Nat → Int32)) (g_costs : (Nat → Int32)) (g_gains : (Nat → Int32)) (g_seed : Int32) (v1 : Int32) (r0 : Int32) (h : zf_X1_letterAt g_letters g_letterCount v1 = some r0) : Cn l D cI yX1_letterAt wsX1_letterAt rm_X1_letterAt [.ref (ad 0), .int v1] (zb_G cI ad g_now g_mind g_taken g_isTaken g_letters g_letterCount g_told g_toldCount g_refusals g_costs g_gains g_seed) (some (.int r0)) (zb_G cI ad g_now g_mind g_taken g_isTaken g_letters g_letterCount g_told g_toldCount g_refusals g_costs g_gains g_seed) := by
  refine zb_ofW (cc := cX1_letterAt) (maxL := 2) (ret := (some .int)) (by decide) rfl (Nat.le_of_ble_eq_true rfl) ?_
  intro p e s m args below meth c A ls hx hb hr hml hts hown hlk hK hP hD hA hl
  have hS : va_S A s.heap s.heap [] := va_S.rf
  have hl : lv_has ls 2 [(0, .ref (ad 0)), (1, .int v1)] := hl
  unfold zf_X1_letterAt at h
  refine lv_iload_n hx hb dX1_letterAt_0 rfl (lv_at hl 1 rfl) ?_
  refine lv_if_lt (tgt := 30) hx hb dX1_letterAt_1 (by decide) (fun c1 => ?_) (fun c1 => ?_)
  · replace h := it_t c1 h
    refine lv_iconst (v := ((-1) : Int32)) hx hb dX1_letterAt_30 (by decide) ?_
    obtain rfl := re1 h
    exact zb_iret hx hb hr hlk hP hS dX1_letterAt_31
  · replace h := it_f c1 h
    refine lv_iload_n hx hb dX1_letterAt_4 rfl (lv_at hl 1 rfl) ?_
    refine lv_aload_n hx hb dX1_letterAt_5 rfl (lv_at hl 0 rfl) ?_
    refine va_get (D := D) (ci := 1) (v := .int g_letterCount) (C := RX1) (T := TX1) (N := 12) hx hb hts zi_X1_letterAt_X1 hown hK.1 hP 0 rfl rfl 5 (by decide) (hts _ zk_X1_letterAt_0) (fun _ h9 => h9) rfl dX1_letterAt_6 ?_
    refine lv_icmp_ge (tgt := 30) hx hb dX1_letterAt_9 (by decide) (fun c2 => ?_) (fun c2 => ?_)
    · replace h := it_t c2 h
      refine lv_iconst (v := ((-1) : Int32)) hx hb dX1_letterAt_30 (by decide) ?_
      obtain rfl := re1 h
      exact zb_iret hx hb hr hlk hP hS dX1_letterAt_31
    · replace h := it_f c2 h
      refine lv_iload_n hx hb dX1_letterAt_12 rfl (lv_at hl 1 rfl) ?_
      refine lv_aload_n hx hb dX1_letterAt_13 rfl (lv_at hl 0 rfl) ?_
      refine va_get (D := D) (ci := 1) (v := .ref (ad 22)) (C := RX1) (T := TX1) (N := 12) hx hb hts zi_X1_letterAt_X1 hown hK.1 hP 0 rfl rfl 4 (by decide) (hts _ zk_X1_letterAt_1) (fun _ h9 => h9) rfl dX1_letterAt_14 ?_
      refine va_alen (v := (96 : Int32)) hx hb hK.1 hP 22 0 rfl rfl rfl dX1_letterAt_17 ?_
      refine lv_icmp_ge (tgt := 30) hx hb dX1_letterAt_18 (by decide) (fun c3 => ?_) (fun c3 => ?_)
      · replace h := it_t c3 h
        refine lv_iconst (v := ((-1) : Int32)) hx hb dX1_letterAt_30 (by decide) ?_
        obtain rfl := re1 h
        exact zb_iret hx hb hr hlk hP hS dX1_letterAt_31
      · replace h := it_f c3 h
        refine lv_aload_n hx hb dX1_letterAt_21 rfl (lv_at hl 0 rfl) ?_
        refine va_get (D := D) (ci := 1) (v := .ref (ad 22)) (C := RX1) (T := TX1) (N := 12) hx hb hts zi_X1_letterAt_X1 hown hK.1 hP 0 rfl rfl 4 (by decide) (hts _ zk_X1_letterAt_1) (fun _ h9 => h9) rfl dX1_letterAt_22 ?_
        refine lv_iload_n hx hb dX1_letterAt_25 rfl (lv_at hl 1 rfl) ?_
        obtain ⟨h4, h⟩ := it_g h
        refine va_iald hx hb hK.1 hP 22 0 rfl rfl h4 dX1_letterAt_26 ?_
        refine lv_goto (tgt := 31) hx hb dX1_letterAt_27 (by decide) ?_
        obtain rfl := re1 h
        exact zb_iret hx hb hr hlk hP hS dX1_letterAt_31
abbrev rm_X1_digit : Room := { frames := 1, cells := 0, slots := 0, locals := 21 }
theorem hd_X1_digit : yX1_digit.cls = RX1 ∧ yX1_digit.cls ≠ "java/lang/invoke/MethodHandle" ∧ yX1_digit.cls ≠ "java/lang/invoke/VarHandle" ∧ (parseMethodDescriptor yX1_digit.desc).map (fun d => d.parameters.length) = some 1 := by decide +kernel
set_option maxHeartbeats 4000000 in
set_option maxRecDepth 100000 in
theorem zc_X1_digit (l : Launch) (D : va_G) (cI : ClassId) (ad : Nat → Nat) (g_now : BT) (g_mind : BT) (g_taken : BT) (g_isTaken : Int32) (g_letters : (Nat → Int32)) (g_letterCount : Int32) (g_told : (Nat → Int32)) (g_toldCount : Int32) (g_refusals : (Nat → Int32)) (g_costs : (Nat → Int32)) (g_gains : (Nat → Int32)) (g_seed : Int32) (v1 : Int32) (r0 : Int32) (h : zf_X1_digit g_letters g_letterCount v1 = some r0) : Cn l D cI yX1_digit wsX1_digit rm_X1_digit [.ref (ad 0), .int v1] (zb_G cI ad g_now g_mind g_taken g_isTaken g_letters g_letterCount g_told g_toldCount g_refusals g_costs g_gains g_seed) (some (.int r0)) (zb_G cI ad g_now g_mind g_taken g_isTaken g_letters g_letterCount g_told g_toldCount g_refusals g_costs g_gains g_seed) := by
  refine zb_ofW (cc := cX1_digit) (maxL := 2) (ret := (some .int)) (by decide) rfl (Nat.le_of_ble_eq_true rfl) ?_
  intro p e s m args below meth c A ls hx hb hr hml hts hown hlk hK hP hD hA hl
  have hS : va_S A s.heap s.heap [] := va_S.rf
  have hl : lv_has ls 2 [(0, .ref (ad 0)), (1, .int v1)] := hl
  unfold zf_X1_digit at h
  refine lv_aload_n hx hb dX1_digit_0 rfl (lv_at hl 0 rfl) ?_
  refine lv_iload_n hx hb dX1_digit_1 rfl (lv_at hl 1 rfl) ?_
  obtain ⟨r1, g2, h⟩ := bo1 h
  refine zb_callV (As := [.int v1]) (rest := []) ⟨hx, hb, hml, hown, hts⟩ (zc_X1_letterAt l D cI ad g_now g_mind g_taken g_isTaken g_letters g_letterCount g_told g_toldCount g_refusals g_costs g_gains g_seed v1 r1 g2) (cwV 1 hts gX1_digit_X1_letterAt rfl rfl rfl hd_X1_letterAt ⟨Nat.le_of_ble_eq_true rfl, Nat.le_of_ble_eq_true rfl⟩) hK hP hD hS hA (zb_sG) (q0 := 0) rfl rfl rfl hl.1 rfl (Nat.le_of_ble_eq_true rfl) dX1_digit_2 ⟨Nat.le_refl _, Nat.le_refl _⟩ (fun H locs hP hD hS => ?_)
  refine lv_bipush (v := (48 : Int32)) hx hb dX1_digit_5 (by decide) ?_
  refine lv_isub hx hb dX1_digit_7 ?_
  obtain rfl := re1 h
  exact zb_iret hx hb hr hlk hP hS dX1_digit_8
abbrev rm_X1_number : Room := { frames := 2, cells := 0, slots := 0, locals := 42 }
theorem hd_X1_number : yX1_number.cls = RX1 ∧ yX1_number.cls ≠ "java/lang/invoke/MethodHandle" ∧ yX1_number.cls ≠ "java/lang/invoke/VarHandle" ∧ (parseMethodDescriptor yX1_number.desc).map (fun d => d.parameters.length) = some 1 := by decide +kernel
set_option maxHeartbeats 4000000 in
set_option maxRecDepth 100000 in
theorem zc_X1_number (l : Launch) (D : va_G) (cI : ClassId) (ad : Nat → Nat) (g_now : BT) (g_mind : BT) (g_taken : BT) (g_isTaken : Int32) (g_letters : (Nat → Int32)) (g_letterCount : Int32) (g_told : (Nat → Int32)) (g_toldCount : Int32) (g_refusals : (Nat → Int32)) (g_costs : (Nat → Int32)) (g_gains : (Nat → Int32)) (g_seed : Int32) (v1 : Int32) (r0 : Int32) (h : zf_X1_number g_letters g_letterCount v1 = some r0) : Cn l D cI yX1_number wsX1_number rm_X1_number [.ref (ad 0), .int v1] (zb_G cI ad g_now g_mind g_taken g_isTaken g_letters g_letterCount g_told g_toldCount g_refusals g_costs g_gains g_seed) (some (.int r0)) (zb_G cI ad g_now g_mind g_taken g_isTaken g_letters g_letterCount g_told g_toldCount g_refusals g_costs g_gains g_seed) := by
  refine zb_ofW (cc := cX1_number) (maxL := 2) (ret := (some .int)) (by decide) rfl (Nat.le_of_ble_eq_true rfl) ?_
  intro p e s m args below meth c A ls hx hb hr hml hts hown hlk hK hP hD hA hl
  have hS : va_S A s.heap s.heap [] := va_S.rf
  have hl : lv_has ls 2 [(0, .ref (ad 0)), (1, .int v1)] := hl
  unfold zf_X1_number at h
  refine lv_bipush (v := (10 : Int32)) hx hb dX1_number_0 (by decide) ?_
  refine lv_aload_n hx hb dX1_number_2 rfl (lv_at hl 0 rfl) ?_
  refine lv_iload_n hx hb dX1_number_3 rfl (lv_at hl 1 rfl) ?_
  obtain ⟨r1, g2, h⟩ := bo1 h
  refine zb_callV (As := [.int v1]) (rest := [.int (10 : Int32)]) ⟨hx, hb, hml, hown, hts⟩ (zc_X1_digit l D cI ad g_now g_mind g_taken g_isTaken g_letters g_letterCount g_told g_toldCount g_refusals g_costs g_gains g_seed v1 r1 g2) (cwV 1 hts gX1_number_X1_digit rfl rfl rfl hd_X1_digit ⟨Nat.le_of_ble_eq_true rfl, Nat.le_of_ble_eq_true rfl⟩) hK hP hD hS hA (zb_sG) (q0 := 0) rfl rfl rfl hl.1 rfl (Nat.le_of_ble_eq_true rfl) dX1_number_4 ⟨Nat.le_refl _, Nat.le_refl _⟩ (fun H locs hP hD hS => ?_)
  refine lv_imul hx hb dX1_number_7 ?_
  refine lv_aload_n hx hb dX1_number_8 rfl (lv_at hl 0 rfl) ?_
  refine lv_iload_n hx hb dX1_number_9 rfl (lv_at hl 1 rfl) ?_
  refine lv_iconst (v := (1 : Int32)) hx hb dX1_number_10 (by decide) ?_
  refine lv_iadd hx hb dX1_number_11 ?_
  obtain ⟨r3, g4, h⟩ := bo1 h
  refine zb_callV (As := [.int (v1 + (1 : Int32))]) (rest := [.int ((10 : Int32) * r1)]) ⟨hx, hb, hml, hown, hts⟩ (zc_X1_digit l D cI ad g_now g_mind g_taken g_isTaken g_letters g_letterCount g_told g_toldCount g_refusals g_costs g_gains g_seed (v1 + (1 : Int32)) r3 g4) (cwV 1 hts gX1_number_X1_digit rfl rfl rfl hd_X1_digit ⟨Nat.le_of_ble_eq_true rfl, Nat.le_of_ble_eq_true rfl⟩) hK hP hD hS hA (zb_sG) (q0 := 0) rfl rfl rfl hl.1 rfl (Nat.le_of_ble_eq_true rfl) dX1_number_12 ⟨Nat.le_refl _, Nat.le_refl _⟩ (fun H locs hP hD hS => ?_)
  refine lv_iadd hx hb dX1_number_15 ?_
  obtain rfl := re1 h
  exact zb_iret hx hb hr hlk hP hS dX1_number_16
abbrev rm_X1_tellNode : Room := { frames := 2, cells := 0, slots := 0, locals := 42 }
theorem hd_X1_tellNode : yX1_tellNode.cls = RX1 ∧ yX1_tellNode.cls ≠ "java/lang/invoke/MethodHandle" ∧ yX1_tellNode.cls ≠ "java/lang/invoke/VarHandle" ∧ (parseMethodDescriptor yX1_tellNode.desc).map (fun d => d.parameters.length) = some 3 := by decide +kernel
theorem zi_X1_tellNode_X1 : ∀ w ∈ wsX10, w ∈ wsX1_tellNode := fun _ h => List.mem_cons_of_mem _ (List.mem_append_left _ (List.mem_append_right _ h))
theorem zk_X1_tellNode_0 : Cond.fieldLink RX1 16 "GroutingIsFollowed" "mind" "LGroutingIsFollowed$Bath;" ∈ wsX1_tellNode := by decide +kernel
set_option maxHeartbeats 4000000 in
set_option maxRecDepth 100000 in
theorem zc_X1_tellNode (l : Launch) (D : va_G) (cI : ClassId) (ad : Nat → Nat) (g_now : BT) (g_mind : BT) (g_taken : BT) (g_isTaken : Int32) (g_letters : (Nat → Int32)) (g_letterCount : Int32) (g_told : (Nat → Int32)) (g_toldCount : Int32) (g_refusals : (Nat → Int32)) (g_costs : (Nat → Int32)) (g_gains : (Nat → Int32)) (g_seed : Int32) (v1 : Int32) (v2 : Int32) (v3 : Int32) (r0 : Int32) (w_g_mind : BT) (h : zf_X1_tellNode g_mind v1 v2 v3 = some (r0, w_g_mind)) : Cn l D cI yX1_tellNode wsX1_tellNode rm_X1_tellNode [.ref (ad 0), .int v1, .int v2, .int v3] (zb_G cI ad g_now g_mind g_taken g_isTaken g_letters g_letterCount g_told g_toldCount g_refusals g_costs g_gains g_seed) (some (.int r0)) (zb_G cI ad g_now w_g_mind g_taken g_isTaken g_letters g_letterCount g_told g_toldCount g_refusals g_costs g_gains g_seed) := by
  refine zb_ofW (cc := cX1_tellNode) (maxL := 4) (ret := (some .boolean)) (by decide) rfl (Nat.le_of_ble_eq_true rfl) ?_
  intro p e s m args below meth c A ls hx hb hr hml hts hown hlk hK hP hD hA hl
  have hS : va_S A s.heap s.heap [] := va_S.rf
  have hl : lv_has ls 4 [(0, .ref (ad 0)), (1, .int v1), (2, .int v2), (3, .int v3)] := hl
  unfold zf_X1_tellNode at h
  refine lv_iload_n hx hb dX1_tellNode_0 rfl (lv_at hl 1 rfl) ?_
  obtain ⟨r1, g2, h⟩ := bo1 h
  refine zb_callS (As := [.int v1]) (rest := []) ⟨hx, hb, hml, hown, hts⟩ (zc_X1_isNode l D cI v1 r1 g2) (va_cwS 1 hts gX1_tellNode_X1_isNode rfl rfl rfl hd_X1_isNode.2 ⟨Nat.le_of_ble_eq_true rfl, Nat.le_of_ble_eq_true rfl⟩) hK hP hD hS hA (zb_none _) rfl hl.1 rfl (Nat.le_of_ble_eq_true rfl) dX1_tellNode_1 ⟨Nat.le_refl _, Nat.le_refl _⟩ (fun H locs hP hD hS => ?_)
  refine lv_if_ne (tgt := 9) hx hb dX1_tellNode_4 (by decide) (fun c3 => ?_) (fun c3 => ?_)
  · replace h := it_f c3 h
    refine lv_aload_n hx hb dX1_tellNode_9 rfl (lv_at hl 0 rfl) ?_
    refine va_get (D := D) (ci := 1) (v := .ref (ad 8)) (C := RX1) (T := TX1) (N := 12) hx hb hts zi_X1_tellNode_X1 hown hK.1 hP 0 rfl rfl 1 (by decide) (hts _ zk_X1_tellNode_0) (fun _ h9 => h9) rfl dX1_tellNode_10 ?_
    refine lv_iload_n hx hb dX1_tellNode_13 rfl (lv_at hl 1 rfl) ?_
    refine lv_iload_n hx hb dX1_tellNode_14 rfl (lv_at hl 2 rfl) ?_
    obtain ⟨n4, g5, h⟩ := bo1 h
    refine zb_callV (As := [.int v1, .int v2]) (rest := []) ⟨hx, hb, hml, hown, hts⟩ (zc_X0_putKind l D cI (ad 8) (ad 9) (ad 10) (ad 11) (ad 12) (ad 13) (ad 14) g_mind v1 v2 n4 g5) (cwV 2 hts gX1_tellNode_X0_putKind rfl rfl rfl hd_X0_putKind ⟨Nat.le_of_ble_eq_true rfl, Nat.le_of_ble_eq_true rfl⟩) hK hP hD hS hA (zb_cGm) (q0 := 0) rfl rfl rfl hl.1 rfl (Nat.le_of_ble_eq_true rfl) dX1_tellNode_15 ⟨Nat.le_refl _, Nat.le_refl _⟩ (fun H locs hP hD hS => ?_)
    refine lv_aload_n hx hb dX1_tellNode_18 rfl (lv_at hl 0 rfl) ?_
    refine va_get (D := D) (ci := 1) (v := .ref (ad 8)) (C := RX1) (T := TX1) (N := 12) hx hb hts zi_X1_tellNode_X1 hown hK.1 hP 0 rfl rfl 1 (by decide) (hts _ zk_X1_tellNode_0) (fun _ h9 => h9) rfl dX1_tellNode_19 ?_
    refine lv_iload_n hx hb dX1_tellNode_22 rfl (lv_at hl 1 rfl) ?_
    refine lv_iload_n hx hb dX1_tellNode_23 rfl (lv_at hl 3 rfl) ?_
    obtain ⟨n6, g7, h⟩ := bo1 h
    refine zb_callV (As := [.int v1, .int v3]) (rest := []) ⟨hx, hb, hml, hown, hts⟩ (zc_X0_putFigure l D cI (ad 8) (ad 9) (ad 10) (ad 11) (ad 12) (ad 13) (ad 14) n4 v1 v3 n6 g7) (cwV 2 hts gX1_tellNode_X0_putFigure rfl rfl rfl hd_X0_putFigure ⟨Nat.le_of_ble_eq_true rfl, Nat.le_of_ble_eq_true rfl⟩) hK hP hD hS hA (zb_cGm) (q0 := 0) rfl rfl rfl hl.1 rfl (Nat.le_of_ble_eq_true rfl) dX1_tellNode_24 ⟨Nat.le_refl _, Nat.le_refl _⟩ (fun H locs hP hD hS => ?_)
    refine lv_iconst (v := (1 : Int32)) hx hb dX1_tellNode_27 (by decide) ?_
    obtain ⟨rfl, rfl⟩ := re2 h
    exact zb_zret hx hb hr hlk rfl hP hS dX1_tellNode_28
  · replace h := it_t c3 h
    refine lv_iconst (v := (0 : Int32)) hx hb dX1_tellNode_7 (by decide) ?_
    obtain ⟨rfl, rfl⟩ := re2 h
    exact zb_zret hx hb hr hlk rfl hP hS dX1_tellNode_8
abbrev rm_X1_tellWet : Room := { frames := 2, cells := 0, slots := 0, locals := 42 }
theorem hd_X1_tellWet : yX1_tellWet.cls = RX1 ∧ yX1_tellWet.cls ≠ "java/lang/invoke/MethodHandle" ∧ yX1_tellWet.cls ≠ "java/lang/invoke/VarHandle" ∧ (parseMethodDescriptor yX1_tellWet.desc).map (fun d => d.parameters.length) = some 2 := by decide +kernel
theorem zi_X1_tellWet_X1 : ∀ w ∈ wsX10, w ∈ wsX1_tellWet := fun _ h => List.mem_cons_of_mem _ (List.mem_append_left _ (List.mem_append_right _ h))
theorem zk_X1_tellWet_0 : Cond.fieldLink RX1 16 "GroutingIsFollowed" "mind" "LGroutingIsFollowed$Bath;" ∈ wsX1_tellWet := by decide +kernel
set_option maxHeartbeats 4000000 in
set_option maxRecDepth 100000 in
theorem zc_X1_tellWet (l : Launch) (D : va_G) (cI : ClassId) (ad : Nat → Nat) (g_now : BT) (g_mind : BT) (g_taken : BT) (g_isTaken : Int32) (g_letters : (Nat → Int32)) (g_letterCount : Int32) (g_told : (Nat → Int32)) (g_toldCount : Int32) (g_refusals : (Nat → Int32)) (g_costs : (Nat → Int32)) (g_gains : (Nat → Int32)) (g_seed : Int32) (v1 : Int32) (v2 : Int32) (r0 : Int32) (w_g_mind : BT) (h : zf_X1_tellWet g_mind v1 v2 = some (r0, w_g_mind)) : Cn l D cI yX1_tellWet wsX1_tellWet rm_X1_tellWet [.ref (ad 0), .int v1, .int v2] (zb_G cI ad g_now g_mind g_taken g_isTaken g_letters g_letterCount g_told g_toldCount g_refusals g_costs g_gains g_seed) (some (.int r0)) (zb_G cI ad g_now w_g_mind g_taken g_isTaken g_letters g_letterCount g_told g_toldCount g_refusals g_costs g_gains g_seed) := by
  refine zb_ofW (cc := cX1_tellWet) (maxL := 3) (ret := (some .boolean)) (by decide) rfl (Nat.le_of_ble_eq_true rfl) ?_
  intro p e s m args below meth c A ls hx hb hr hml hts hown hlk hK hP hD hA hl
  have hS : va_S A s.heap s.heap [] := va_S.rf
  have hl : lv_has ls 3 [(0, .ref (ad 0)), (1, .int v1), (2, .int v2)] := hl
  unfold zf_X1_tellWet at h
  refine lv_iload_n hx hb dX1_tellWet_0 rfl (lv_at hl 1 rfl) ?_
  obtain ⟨r1, g2, h⟩ := bo1 h
  refine zb_callS (As := [.int v1]) (rest := []) ⟨hx, hb, hml, hown, hts⟩ (zc_X1_isNode l D cI v1 r1 g2) (va_cwS 1 hts gX1_tellWet_X1_isNode rfl rfl rfl hd_X1_isNode.2 ⟨Nat.le_of_ble_eq_true rfl, Nat.le_of_ble_eq_true rfl⟩) hK hP hD hS hA (zb_none _) rfl hl.1 rfl (Nat.le_of_ble_eq_true rfl) dX1_tellWet_1 ⟨Nat.le_refl _, Nat.le_refl _⟩ (fun H locs hP hD hS => ?_)
  refine lv_if_ne (tgt := 9) hx hb dX1_tellWet_4 (by decide) (fun c3 => ?_) (fun c3 => ?_)
  · replace h := it_f c3 h
    refine lv_aload_n hx hb dX1_tellWet_9 rfl (lv_at hl 0 rfl) ?_
    refine va_get (D := D) (ci := 1) (v := .ref (ad 8)) (C := RX1) (T := TX1) (N := 12) hx hb hts zi_X1_tellWet_X1 hown hK.1 hP 0 rfl rfl 1 (by decide) (hts _ zk_X1_tellWet_0) (fun _ h9 => h9) rfl dX1_tellWet_10 ?_
    refine lv_iload_n hx hb dX1_tellWet_13 rfl (lv_at hl 1 rfl) ?_
    refine lv_iload_n hx hb dX1_tellWet_14 rfl (lv_at hl 2 rfl) ?_
    obtain ⟨n4, g5, h⟩ := bo1 h
    refine zb_callV (As := [.int v1, .int v2]) (rest := []) ⟨hx, hb, hml, hown, hts⟩ (zc_X0_putWet l D cI (ad 8) (ad 9) (ad 10) (ad 11) (ad 12) (ad 13) (ad 14) g_mind v1 v2 n4 g5) (cwV 2 hts gX1_tellWet_X0_putWet rfl rfl rfl hd_X0_putWet ⟨Nat.le_of_ble_eq_true rfl, Nat.le_of_ble_eq_true rfl⟩) hK hP hD hS hA (zb_cGm) (q0 := 0) rfl rfl rfl hl.1 rfl (Nat.le_of_ble_eq_true rfl) dX1_tellWet_15 ⟨Nat.le_refl _, Nat.le_refl _⟩ (fun H locs hP hD hS => ?_)
    refine lv_iconst (v := (1 : Int32)) hx hb dX1_tellWet_18 (by decide) ?_
    obtain ⟨rfl, rfl⟩ := re2 h
    exact zb_zret hx hb hr hlk rfl hP hS dX1_tellWet_19
  · replace h := it_t c3 h
    refine lv_iconst (v := (0 : Int32)) hx hb dX1_tellWet_7 (by decide) ?_
    obtain ⟨rfl, rfl⟩ := re2 h
    exact zb_zret hx hb hr hlk rfl hP hS dX1_tellWet_8
