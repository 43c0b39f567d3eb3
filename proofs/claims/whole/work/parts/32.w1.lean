abbrev rm_X1_dry : Room := { frames := 4, cells := 0, slots := 0, locals := 86 }
theorem hd_X1_dry : yX1_dry.cls = RX1 ∧ yX1_dry.cls ≠ "java/lang/invoke/MethodHandle" ∧ yX1_dry.cls ≠ "java/lang/invoke/VarHandle" ∧ (parseMethodDescriptor yX1_dry.desc).map (fun d => d.parameters.length) = some 1 := by decide +kernel
theorem zi_X1_dry_X1 : ∀ w ∈ wsX10, w ∈ wsX1_dry := fun _ h => List.mem_cons_of_mem _ (List.mem_append_left _ (List.mem_append_right _ h))
theorem zk_X1_dry_0 : Cond.fieldLink RX1 10 "GroutingIsFollowed" "now" "LGroutingIsFollowed$Bath;" ∈ wsX1_dry := by decide +kernel
set_option maxHeartbeats 4000000 in
set_option maxRecDepth 100000 in
theorem zc_X1_dry (l : Launch) (D : va_G) (cI : ClassId) (ad : Nat → Nat) (g_now : BT) (g_mind : BT) (g_taken : BT) (g_isTaken : Int32) (g_letters : (Nat → Int32)) (g_letterCount : Int32) (g_told : (Nat → Int32)) (g_toldCount : Int32) (g_refusals : (Nat → Int32)) (g_costs : (Nat → Int32)) (g_gains : (Nat → Int32)) (g_seed : Int32) (v1 : Int32) (r0 : Int32) (w_g_refusals : (Nat → Int32)) (h : zf_X1_dry g_now g_refusals v1 = some (r0, w_g_refusals)) : Cn l D cI yX1_dry wsX1_dry rm_X1_dry [.ref (ad 0), .int v1] (zb_G cI ad g_now g_mind g_taken g_isTaken g_letters g_letterCount g_told g_toldCount g_refusals g_costs g_gains g_seed) (some (.int r0)) (zb_G cI ad g_now g_mind g_taken g_isTaken g_letters g_letterCount g_told g_toldCount w_g_refusals g_costs g_gains g_seed) := by
  refine zb_ofW (cc := cX1_dry) (maxL := 2) (ret := (some .int)) (by decide) rfl (Nat.le_of_ble_eq_true rfl) ?_
  intro p e s m args below meth c A ls hx hb hr hml hts hown hlk hK hP hD hA hl
  have hS : va_S A s.heap s.heap [] := va_S.rf
  have hl : lv_has ls 2 [(0, .ref (ad 0)), (1, .int v1)] := hl
  unfold zf_X1_dry at h
  refine lv_iload_n hx hb dX1_dry_0 rfl (lv_at hl 1 rfl) ?_
  by_cases c1 : v1 = (0 : Int32)
  · replace h := it_t c1 h
    have e9 : v1.toInt = 0 := by rw [c1]; rfl
    refine lv_tableIn (tgt := 44) hx hb dX1_dry_1 (by rw [e9]; decide) (by rw [e9]; decide) (by rw [e9]; rfl) (by decide) ?_
    refine lv_aload_n hx hb dX1_dry_44 rfl (lv_at hl 0 rfl) ?_
    refine va_get (D := D) (ci := 1) (v := .ref (ad 1)) (C := RX1) (T := TX1) (N := 12) hx hb hts zi_X1_dry_X1 hown hK.1 hP 0 rfl rfl 0 (by decide) (hts _ zk_X1_dry_0) (fun _ h9 => h9) rfl dX1_dry_45 ?_
    obtain ⟨r2, g3, h⟩ := bo1 h
    refine zb_callV (As := []) (rest := []) ⟨hx, hb, hml, hown, hts⟩ (zc_X0_dryNodes l D cI (ad 1) (ad 2) (ad 3) (ad 4) (ad 5) (ad 6) (ad 7) g_now r2 g3) (cwV 0 hts gX1_dry_X0_dryNodes rfl rfl rfl hd_X0_dryNodes ⟨Nat.le_of_ble_eq_true rfl, Nat.le_of_ble_eq_true rfl⟩) hK hP hD hS hA (zb_cGn) (q0 := 0) rfl rfl rfl hl.1 rfl (Nat.le_of_ble_eq_true rfl) dX1_dry_48 ⟨Nat.le_refl _, Nat.le_refl _⟩ (fun H locs hP hD hS => ?_)
    obtain ⟨r4, g5, h⟩ := bo1 h
    refine zb_callS (As := [.int r2]) (rest := []) ⟨hx, hb, hml, hown, hts⟩ (zc_J6_bitCount_0f7a4 l D cI r2 r4 g5) (va_cwS 1 hts gX1_dry_J6_bitCount_0f7a4 rfl rfl rfl hd_J6_bitCount_0f7a4.2 ⟨Nat.le_of_ble_eq_true rfl, Nat.le_of_ble_eq_true rfl⟩) hK hP hD hS hA (zb_none _) rfl hl.1 rfl (Nat.le_of_ble_eq_true rfl) dX1_dry_51 ⟨Nat.le_refl _, Nat.le_refl _⟩ (fun H locs hP hD hS => ?_)
    obtain ⟨rfl, rfl⟩ := re2 h
    exact zb_iret hx hb hr hlk hP hS dX1_dry_54
  replace h := it_f c1 h
  by_cases c6 : v1 = (1 : Int32)
  · replace h := it_t c6 h
    have e9 : v1.toInt = 1 := by rw [c6]; rfl
    refine lv_tableIn (tgt := 55) hx hb dX1_dry_1 (by rw [e9]; decide) (by rw [e9]; decide) (by rw [e9]; rfl) (by decide) ?_
    refine lv_aload_n hx hb dX1_dry_55 rfl (lv_at hl 0 rfl) ?_
    refine va_get (D := D) (ci := 1) (v := .ref (ad 1)) (C := RX1) (T := TX1) (N := 12) hx hb hts zi_X1_dry_X1 hown hK.1 hP 0 rfl rfl 0 (by decide) (hts _ zk_X1_dry_0) (fun _ h9 => h9) rfl dX1_dry_56 ?_
    obtain ⟨r7, g8, h⟩ := bo1 h
    refine zb_callV (As := []) (rest := []) ⟨hx, hb, hml, hown, hts⟩ (zc_X0_wettest l D cI (ad 1) (ad 2) (ad 3) (ad 4) (ad 5) (ad 6) (ad 7) g_now r7 g8) (cwV 0 hts gX1_dry_X0_wettest rfl rfl rfl hd_X0_wettest ⟨Nat.le_of_ble_eq_true rfl, Nat.le_of_ble_eq_true rfl⟩) hK hP hD hS hA (zb_cGn) (q0 := 0) rfl rfl rfl hl.1 rfl (Nat.le_of_ble_eq_true rfl) dX1_dry_59 ⟨Nat.le_refl _, Nat.le_refl _⟩ (fun H locs hP hD hS => ?_)
    obtain ⟨rfl, rfl⟩ := re2 h
    exact zb_iret hx hb hr hlk hP hS dX1_dry_62
  replace h := it_f c6 h
  by_cases c9 : v1 = (2 : Int32)
  · replace h := it_t c9 h
    have e9 : v1.toInt = 2 := by rw [c9]; rfl
    refine lv_tableIn (tgt := 63) hx hb dX1_dry_1 (by rw [e9]; decide) (by rw [e9]; decide) (by rw [e9]; rfl) (by decide) ?_
    refine lv_aload_n hx hb dX1_dry_63 rfl (lv_at hl 0 rfl) ?_
    refine va_get (D := D) (ci := 1) (v := .ref (ad 1)) (C := RX1) (T := TX1) (N := 12) hx hb hts zi_X1_dry_X1 hown hK.1 hP 0 rfl rfl 0 (by decide) (hts _ zk_X1_dry_0) (fun _ h9 => h9) rfl dX1_dry_64 ?_
    obtain ⟨r10, g11, h⟩ := bo1 h
    refine zb_callV (As := []) (rest := []) ⟨hx, hb, hml, hown, hts⟩ (zc_X0_allWet l D cI (ad 1) (ad 2) (ad 3) (ad 4) (ad 5) (ad 6) (ad 7) g_now r10 g11) (cwV 0 hts gX1_dry_X0_allWet rfl rfl rfl hd_X0_allWet ⟨Nat.le_of_ble_eq_true rfl, Nat.le_of_ble_eq_true rfl⟩) hK hP hD hS hA (zb_cGn) (q0 := 0) rfl rfl rfl hl.1 rfl (Nat.le_of_ble_eq_true rfl) dX1_dry_67 ⟨Nat.le_refl _, Nat.le_refl _⟩ (fun H locs hP hD hS => ?_)
    obtain ⟨rfl, rfl⟩ := re2 h
    exact zb_iret hx hb hr hlk hP hS dX1_dry_70
  replace h := it_f c9 h
  by_cases c12 : v1 = (3 : Int32)
  · replace h := it_t c12 h
    have e9 : v1.toInt = 3 := by rw [c12]; rfl
    refine lv_tableIn (tgt := 71) hx hb dX1_dry_1 (by rw [e9]; decide) (by rw [e9]; decide) (by rw [e9]; rfl) (by decide) ?_
    refine lv_aload_n hx hb dX1_dry_71 rfl (lv_at hl 0 rfl) ?_
    refine va_get (D := D) (ci := 1) (v := .ref (ad 1)) (C := RX1) (T := TX1) (N := 12) hx hb hts zi_X1_dry_X1 hown hK.1 hP 0 rfl rfl 0 (by decide) (hts _ zk_X1_dry_0) (fun _ h9 => h9) rfl dX1_dry_72 ?_
    obtain ⟨r13, g14, h⟩ := bo1 h
    refine zb_callV (As := []) (rest := []) ⟨hx, hb, hml, hown, hts⟩ (zc_X0_mostHelped l D cI (ad 1) (ad 2) (ad 3) (ad 4) (ad 5) (ad 6) (ad 7) g_now r13 g14) (cwV 0 hts gX1_dry_X0_mostHelped rfl rfl rfl hd_X0_mostHelped ⟨Nat.le_of_ble_eq_true rfl, Nat.le_of_ble_eq_true rfl⟩) hK hP hD hS hA (zb_cGn) (q0 := 0) rfl rfl rfl hl.1 rfl (Nat.le_of_ble_eq_true rfl) dX1_dry_75 ⟨Nat.le_refl _, Nat.le_refl _⟩ (fun H locs hP hD hS => ?_)
    obtain ⟨rfl, rfl⟩ := re2 h
    exact zb_iret hx hb hr hlk hP hS dX1_dry_78
  replace h := it_f c12 h
  by_cases c15 : v1 = (4 : Int32)
  · replace h := it_t c15 h
    have e9 : v1.toInt = 4 := by rw [c15]; rfl
    refine lv_tableIn (tgt := 79) hx hb dX1_dry_1 (by rw [e9]; decide) (by rw [e9]; decide) (by rw [e9]; rfl) (by decide) ?_
    refine lv_aload_n hx hb dX1_dry_79 rfl (lv_at hl 0 rfl) ?_
    refine va_get (D := D) (ci := 1) (v := .ref (ad 1)) (C := RX1) (T := TX1) (N := 12) hx hb hts zi_X1_dry_X1 hown hK.1 hP 0 rfl rfl 0 (by decide) (hts _ zk_X1_dry_0) (fun _ h9 => h9) rfl dX1_dry_80 ?_
    obtain ⟨r16, g17, h⟩ := bo1 h
    refine zb_callV (As := []) (rest := []) ⟨hx, hb, hml, hown, hts⟩ (zc_X0_together l D cI (ad 1) (ad 2) (ad 3) (ad 4) (ad 5) (ad 6) (ad 7) g_now r16 g17) (cwV 0 hts gX1_dry_X0_together rfl rfl rfl hd_X0_together ⟨Nat.le_of_ble_eq_true rfl, Nat.le_of_ble_eq_true rfl⟩) hK hP hD hS hA (zb_cGn) (q0 := 0) rfl rfl rfl hl.1 rfl (Nat.le_of_ble_eq_true rfl) dX1_dry_83 ⟨Nat.le_refl _, Nat.le_refl _⟩ (fun H locs hP hD hS => ?_)
    obtain ⟨rfl, rfl⟩ := re2 h
    exact zb_iret hx hb hr hlk hP hS dX1_dry_86
  replace h := it_f c15 h
  by_cases c18 : v1 = (5 : Int32)
  · replace h := it_t c18 h
    have e9 : v1.toInt = 5 := by rw [c18]; rfl
    refine lv_tableIn (tgt := 87) hx hb dX1_dry_1 (by rw [e9]; decide) (by rw [e9]; decide) (by rw [e9]; rfl) (by decide) ?_
    refine lv_aload_n hx hb dX1_dry_87 rfl (lv_at hl 0 rfl) ?_
    refine va_get (D := D) (ci := 1) (v := .ref (ad 1)) (C := RX1) (T := TX1) (N := 12) hx hb hts zi_X1_dry_X1 hown hK.1 hP 0 rfl rfl 0 (by decide) (hts _ zk_X1_dry_0) (fun _ h9 => h9) rfl dX1_dry_88 ?_
    obtain ⟨r19, g20, h⟩ := bo1 h
    refine zb_callV (As := []) (rest := []) ⟨hx, hb, hml, hown, hts⟩ (zc_X0_atEdges l D cI (ad 1) (ad 2) (ad 3) (ad 4) (ad 5) (ad 6) (ad 7) g_now r19 g20) (cwV 0 hts gX1_dry_X0_atEdges rfl rfl rfl hd_X0_atEdges ⟨Nat.le_of_ble_eq_true rfl, Nat.le_of_ble_eq_true rfl⟩) hK hP hD hS hA (zb_cGn) (q0 := 0) rfl rfl rfl hl.1 rfl (Nat.le_of_ble_eq_true rfl) dX1_dry_91 ⟨Nat.le_refl _, Nat.le_refl _⟩ (fun H locs hP hD hS => ?_)
    obtain ⟨rfl, rfl⟩ := re2 h
    exact zb_iret hx hb hr hlk hP hS dX1_dry_94
  replace h := it_f c18 h
  by_cases c21 : v1 = (6 : Int32)
  · replace h := it_t c21 h
    have e9 : v1.toInt = 6 := by rw [c21]; rfl
    refine lv_tableIn (tgt := 95) hx hb dX1_dry_1 (by rw [e9]; decide) (by rw [e9]; decide) (by rw [e9]; rfl) (by decide) ?_
    refine lv_aload_n hx hb dX1_dry_95 rfl (lv_at hl 0 rfl) ?_
    refine va_get (D := D) (ci := 1) (v := .ref (ad 1)) (C := RX1) (T := TX1) (N := 12) hx hb hts zi_X1_dry_X1 hown hK.1 hP 0 rfl rfl 0 (by decide) (hts _ zk_X1_dry_0) (fun _ h9 => h9) rfl dX1_dry_96 ?_
    obtain ⟨r22, g23, h⟩ := bo1 h
    refine zb_callV (As := []) (rest := []) ⟨hx, hb, hml, hown, hts⟩ (zc_X0_wettestRow l D cI (ad 1) (ad 2) (ad 3) (ad 4) (ad 5) (ad 6) (ad 7) g_now r22 g23) (cwV 0 hts gX1_dry_X0_wettestRow rfl rfl rfl hd_X0_wettestRow ⟨Nat.le_of_ble_eq_true rfl, Nat.le_of_ble_eq_true rfl⟩) hK hP hD hS hA (zb_cGn) (q0 := 0) rfl rfl rfl hl.1 rfl (Nat.le_of_ble_eq_true rfl) dX1_dry_99 ⟨Nat.le_refl _, Nat.le_refl _⟩ (fun H locs hP hD hS => ?_)
    obtain ⟨rfl, rfl⟩ := re2 h
    exact zb_iret hx hb hr hlk hP hS dX1_dry_102
  replace h := it_f c21 h
  have e_c1 := sw_ne (k := 0) rfl c1
  have e_c6 := sw_ne (k := 1) rfl c6
  have e_c9 := sw_ne (k := 2) rfl c9
  have e_c12 := sw_ne (k := 3) rfl c12
  have e_c15 := sw_ne (k := 4) rfl c15
  have e_c18 := sw_ne (k := 5) rfl c18
  have e_c21 := sw_ne (k := 6) rfl c21
  refine lv_tableOut (tgt := 103) hx hb dX1_dry_1 (by omega) (by decide) ?_
  refine lv_aload_n hx hb dX1_dry_103 rfl (lv_at hl 0 rfl) ?_
  refine lv_bipush (v := ((-2) : Int32)) hx hb dX1_dry_104 (by decide) ?_
  obtain ⟨r24, n25, g26, h⟩ := bo2 h
  refine zb_callV (As := [.int ((-2) : Int32)]) (rest := []) ⟨hx, hb, hml, hown, hts⟩ (zc_X1_refuse l D cI ad g_now g_mind g_taken g_isTaken g_letters g_letterCount g_told g_toldCount g_refusals g_costs g_gains g_seed ((-2) : Int32) r24 n25 g26) (cwV 1 hts gX1_dry_X1_refuse rfl rfl rfl hd_X1_refuse ⟨Nat.le_of_ble_eq_true rfl, Nat.le_of_ble_eq_true rfl⟩) hK hP hD hS hA (zb_sG) (q0 := 0) rfl rfl rfl hl.1 rfl (Nat.le_of_ble_eq_true rfl) dX1_dry_106 ⟨Nat.le_refl _, Nat.le_refl _⟩ (fun H locs hP hD hS => ?_)
  obtain ⟨rfl, rfl⟩ := re2 h
  exact zb_iret hx hb hr hlk hP hS dX1_dry_109
abbrev rm_X1_kinds : Room := { frames := 2, cells := 0, slots := 0, locals := 41 }
theorem hd_X1_kinds : yX1_kinds.cls = RX1 ∧ yX1_kinds.cls ≠ "java/lang/invoke/MethodHandle" ∧ yX1_kinds.cls ≠ "java/lang/invoke/VarHandle" ∧ (parseMethodDescriptor yX1_kinds.desc).map (fun d => d.parameters.length) = some 1 := by decide +kernel
theorem zi_X1_kinds_X1 : ∀ w ∈ wsX10, w ∈ wsX1_kinds := fun _ h => List.mem_cons_of_mem _ (List.mem_append_left _ (List.mem_append_right _ h))
theorem zk_X1_kinds_0 : Cond.fieldLink RX1 10 "GroutingIsFollowed" "now" "LGroutingIsFollowed$Bath;" ∈ wsX1_kinds := by decide +kernel
set_option maxHeartbeats 4000000 in
set_option maxRecDepth 100000 in
theorem zc_X1_kinds (l : Launch) (D : va_G) (cI : ClassId) (ad : Nat → Nat) (g_now : BT) (g_mind : BT) (g_taken : BT) (g_isTaken : Int32) (g_letters : (Nat → Int32)) (g_letterCount : Int32) (g_told : (Nat → Int32)) (g_toldCount : Int32) (g_refusals : (Nat → Int32)) (g_costs : (Nat → Int32)) (g_gains : (Nat → Int32)) (g_seed : Int32) (v1 : Int32) (r0 : Int32) (w_g_refusals : (Nat → Int32)) (h : zf_X1_kinds g_now g_refusals v1 = some (r0, w_g_refusals)) : Cn l D cI yX1_kinds wsX1_kinds rm_X1_kinds [.ref (ad 0), .int v1] (zb_G cI ad g_now g_mind g_taken g_isTaken g_letters g_letterCount g_told g_toldCount g_refusals g_costs g_gains g_seed) (some (.int r0)) (zb_G cI ad g_now g_mind g_taken g_isTaken g_letters g_letterCount g_told g_toldCount w_g_refusals g_costs g_gains g_seed) := by
  refine zb_ofW (cc := cX1_kinds) (maxL := 4) (ret := (some .int)) (by decide) rfl (Nat.le_of_ble_eq_true rfl) ?_
  intro p e s m args below meth c A ls hx hb hr hml hts hown hlk hK hP hD hA hl
  have hS : va_S A s.heap s.heap [] := va_S.rf
  have hl : lv_has ls 4 [(0, .ref (ad 0)), (1, .int v1)] := hl
  unfold zf_X1_kinds at h
  refine lv_iload_n hx hb dX1_kinds_0 rfl (lv_at hl 1 rfl) ?_
  obtain ⟨r1, g2, h⟩ := bo1 h
  refine zb_callS (As := [.int v1]) (rest := []) ⟨hx, hb, hml, hown, hts⟩ (zc_X1_isKind l D cI v1 r1 g2) (va_cwS 1 hts gX1_kinds_X1_isKind rfl rfl rfl hd_X1_isKind.2 ⟨Nat.le_of_ble_eq_true rfl, Nat.le_of_ble_eq_true rfl⟩) hK hP hD hS hA (zb_none _) rfl hl.1 rfl (Nat.le_of_ble_eq_true rfl) dX1_kinds_1 ⟨Nat.le_refl _, Nat.le_refl _⟩ (fun H locs hP hD hS => ?_)
  refine lv_if_ne (tgt := 14) hx hb dX1_kinds_4 (by decide) (fun c3 => ?_) (fun c3 => ?_)
  · replace h := it_f c3 h
    refine lv_iconst (v := (0 : Int32)) hx hb dX1_kinds_14 (by decide) ?_
    refine lv_istore_n (lv' := [(2, .int (0 : Int32)), (0, .ref (ad 0)), (1, .int v1)]) hx hb dX1_kinds_15 rfl hl (by decide) rfl (fun ls hl => ?_)
    refine lv_iconst (v := (0 : Int32)) hx hb dX1_kinds_16 (by decide) ?_
    refine lv_istore_n (lv' := [(3, .int (0 : Int32)), (2, .int (0 : Int32)), (0, .ref (ad 0)), (1, .int v1)]) hx hb dX1_kinds_17 rfl hl (by decide) rfl (fun ls hl => ?_)
    have lp6 : ∀ (fu6 : Nat) (x4 : Int32) (x5 : Int32) (H : Heap) (locs : List Loc) (hP : va_P D zb_cl (zb_G cI ad g_now g_mind g_taken g_isTaken g_letters g_letterCount g_told g_toldCount g_refusals g_costs g_gains g_seed) H) (hD : va_D A (zb_G cI ad g_now g_mind g_taken g_isTaken g_letters g_letterCount g_told g_toldCount g_refusals g_costs g_gains g_seed)) (hS : va_S A s.heap H locs) (ls : Array Slot) (hl : lv_has ls 4 [(0, .ref (ad 0)), (1, .int v1), (2, .int x4), (3, .int x5)]) (h : zl2 (zf_X1_kinds_b18 v1 g_now g_refusals) fu6 x4 x5 = some (r0, w_g_refusals)), W p l e rm_X1_kinds s m args below meth c H locs 0 0 (zb_Q below D (some (.int r0)) (zb_G cI ad g_now g_mind g_taken g_isTaken g_letters g_letterCount g_told g_toldCount w_g_refusals g_costs g_gains g_seed) A args s) (F0 m 18 ls []) := by
      intro fu6
      induction fu6 with
      | zero => intro x4 x5 H locs hP hD hS ls hl h; exact zb_no h
      | succ fu6 ih6 =>
        intro x4 x5 H locs hP hD hS ls hl h
        replace h : zf_X1_kinds_b18 v1 g_now g_refusals (zl2 (zf_X1_kinds_b18 v1 g_now g_refusals) fu6) x4 x5 = some (r0, w_g_refusals) := h
        unfold zf_X1_kinds_b18 at h
        refine lv_iload_n hx hb dX1_kinds_18 rfl (lv_at hl 3 rfl) ?_
        refine lv_bipush (v := (30 : Int32)) hx hb dX1_kinds_19 (by decide) ?_
        refine lv_icmp_ge (tgt := 45) hx hb dX1_kinds_21 (by decide) (fun c7 => ?_) (fun c7 => ?_)
        · replace h := it_t c7 h
          refine lv_iload_n hx hb dX1_kinds_45 rfl (lv_at hl 2 rfl) ?_
          obtain ⟨rfl, rfl⟩ := re2 h
          exact zb_iret hx hb hr hlk hP hS dX1_kinds_46
        · replace h := it_f c7 h
          refine lv_aload_n hx hb dX1_kinds_24 rfl (lv_at hl 0 rfl) ?_
          refine va_get (D := D) (ci := 1) (v := .ref (ad 1)) (C := RX1) (T := TX1) (N := 12) hx hb hts zi_X1_kinds_X1 hown hK.1 hP 0 rfl rfl 0 (by decide) (hts _ zk_X1_kinds_0) (fun _ h9 => h9) rfl dX1_kinds_25 ?_
          refine lv_iload_n hx hb dX1_kinds_28 rfl (lv_at hl 3 rfl) ?_
          obtain ⟨r8, g9, h⟩ := bo1 h
          refine zb_callV (As := [.int x5]) (rest := []) ⟨hx, hb, hml, hown, hts⟩ (zc_X0_kindOf l D cI (ad 1) (ad 2) (ad 3) (ad 4) (ad 5) (ad 6) (ad 7) g_now x5 r8 g9) (cwV 1 hts gX1_kinds_X0_kindOf rfl rfl rfl hd_X0_kindOf ⟨Nat.le_of_ble_eq_true rfl, Nat.le_of_ble_eq_true rfl⟩) hK hP hD hS hA (zb_cGn) (q0 := 0) rfl rfl rfl hl.1 rfl (Nat.le_of_ble_eq_true rfl) dX1_kinds_29 ⟨Nat.le_refl _, Nat.le_refl _⟩ (fun H locs hP hD hS => ?_)
          refine lv_iload_n hx hb dX1_kinds_32 rfl (lv_at hl 1 rfl) ?_
          refine lv_icmp_ne (tgt := 39) hx hb dX1_kinds_33 (by decide) (fun c10 => ?_) (fun c10 => ?_)
          · replace h := it_f c10 h
            refine lv_iinc (v := (x5 + (1 : Int32))) (lv' := [(3, .int (x5 + (1 : Int32))), (0, .ref (ad 0)), (1, .int v1), (2, .int x4)]) hx hb dX1_kinds_39 hl (k := 3) rfl (by first | rfl | decide) (by decide) rfl (fun ls hl => ?_)
            refine lv_goto (tgt := 18) hx hb dX1_kinds_42 (by decide) ?_
            exact ih6 x4 (x5 + (1 : Int32)) _ _ hP hD hS ls (lv_sub hl [1, 2, 3, 0] rfl) h
          · replace h := it_t c10 h
            refine lv_iinc (v := (x4 + (1 : Int32))) (lv' := [(2, .int (x4 + (1 : Int32))), (0, .ref (ad 0)), (1, .int v1), (3, .int x5)]) hx hb dX1_kinds_36 hl (k := 2) rfl (by first | rfl | decide) (by decide) rfl (fun ls hl => ?_)
            refine lv_iinc (v := (x5 + (1 : Int32))) (lv' := [(3, .int (x5 + (1 : Int32))), (2, .int (x4 + (1 : Int32))), (0, .ref (ad 0)), (1, .int v1)]) hx hb dX1_kinds_39 hl (k := 3) rfl (by first | rfl | decide) (by decide) rfl (fun ls hl => ?_)
            refine lv_goto (tgt := 18) hx hb dX1_kinds_42 (by decide) ?_
            exact ih6 (x4 + (1 : Int32)) (x5 + (1 : Int32)) _ _ hP hD hS ls (lv_sub hl [2, 3, 1, 0] rfl) h
    exact lp6 zb_FU (0 : Int32) (0 : Int32) _ _ hP hD hS ls (lv_sub hl [2, 3, 1, 0] rfl) h
  · replace h := it_t c3 h
    refine lv_aload_n hx hb dX1_kinds_7 rfl (lv_at hl 0 rfl) ?_
    refine lv_bipush (v := ((-2) : Int32)) hx hb dX1_kinds_8 (by decide) ?_
    obtain ⟨r11, n12, g13, h⟩ := bo2 h
    refine zb_callV (As := [.int ((-2) : Int32)]) (rest := []) ⟨hx, hb, hml, hown, hts⟩ (zc_X1_refuse l D cI ad g_now g_mind g_taken g_isTaken g_letters g_letterCount g_told g_toldCount g_refusals g_costs g_gains g_seed ((-2) : Int32) r11 n12 g13) (cwV 1 hts gX1_kinds_X1_refuse rfl rfl rfl hd_X1_refuse ⟨Nat.le_of_ble_eq_true rfl, Nat.le_of_ble_eq_true rfl⟩) hK hP hD hS hA (zb_sG) (q0 := 0) rfl rfl rfl hl.1 rfl (Nat.le_of_ble_eq_true rfl) dX1_kinds_10 ⟨Nat.le_refl _, Nat.le_refl _⟩ (fun H locs hP hD hS => ?_)
    obtain ⟨rfl, rfl⟩ := re2 h
    exact zb_iret hx hb hr hlk hP hS dX1_kinds_13
abbrev rm_X1_near : Room := { frames := 3, cells := 0, slots := 0, locals := 69 }
theorem hd_X1_near : yX1_near.cls = RX1 ∧ yX1_near.cls ≠ "java/lang/invoke/MethodHandle" ∧ yX1_near.cls ≠ "java/lang/invoke/VarHandle" ∧ (parseMethodDescriptor yX1_near.desc).map (fun d => d.parameters.length) = some 1 := by decide +kernel
theorem zi_X1_near_X1 : ∀ w ∈ wsX10, w ∈ wsX1_near := fun _ h => List.mem_cons_of_mem _ (List.mem_append_left _ (List.mem_append_right _ h))
theorem zk_X1_near_0 : Cond.fieldLink RX1 10 "GroutingIsFollowed" "now" "LGroutingIsFollowed$Bath;" ∈ wsX1_near := by decide +kernel
set_option maxHeartbeats 4000000 in
set_option maxRecDepth 100000 in
theorem zc_X1_near (l : Launch) (D : va_G) (cI : ClassId) (ad : Nat → Nat) (g_now : BT) (g_mind : BT) (g_taken : BT) (g_isTaken : Int32) (g_letters : (Nat → Int32)) (g_letterCount : Int32) (g_told : (Nat → Int32)) (g_toldCount : Int32) (g_refusals : (Nat → Int32)) (g_costs : (Nat → Int32)) (g_gains : (Nat → Int32)) (g_seed : Int32) (v1 : Int32) (r0 : Int32) (w_g_refusals : (Nat → Int32)) (h : zf_X1_near g_now g_refusals v1 = some (r0, w_g_refusals)) : Cn l D cI yX1_near wsX1_near rm_X1_near [.ref (ad 0), .int v1] (zb_G cI ad g_now g_mind g_taken g_isTaken g_letters g_letterCount g_told g_toldCount g_refusals g_costs g_gains g_seed) (some (.int r0)) (zb_G cI ad g_now g_mind g_taken g_isTaken g_letters g_letterCount g_told g_toldCount w_g_refusals g_costs g_gains g_seed) := by
  refine zb_ofW (cc := cX1_near) (maxL := 2) (ret := (some .int)) (by decide) rfl (Nat.le_of_ble_eq_true rfl) ?_
  intro p e s m args below meth c A ls hx hb hr hml hts hown hlk hK hP hD hA hl
  have hS : va_S A s.heap s.heap [] := va_S.rf
  have hl : lv_has ls 2 [(0, .ref (ad 0)), (1, .int v1)] := hl
  unfold zf_X1_near at h
  refine lv_iload_n hx hb dX1_near_0 rfl (lv_at hl 1 rfl) ?_
  obtain ⟨r1, g2, h⟩ := bo1 h
  refine zb_callS (As := [.int v1]) (rest := []) ⟨hx, hb, hml, hown, hts⟩ (zc_X1_isNode l D cI v1 r1 g2) (va_cwS 1 hts gX1_near_X1_isNode rfl rfl rfl hd_X1_isNode.2 ⟨Nat.le_of_ble_eq_true rfl, Nat.le_of_ble_eq_true rfl⟩) hK hP hD hS hA (zb_none _) rfl hl.1 rfl (Nat.le_of_ble_eq_true rfl) dX1_near_1 ⟨Nat.le_refl _, Nat.le_refl _⟩ (fun H locs hP hD hS => ?_)
  refine lv_if_ne (tgt := 13) hx hb dX1_near_4 (by decide) (fun c3 => ?_) (fun c3 => ?_)
  · replace h := it_f c3 h
    refine lv_aload_n hx hb dX1_near_13 rfl (lv_at hl 0 rfl) ?_
    refine va_get (D := D) (ci := 1) (v := .ref (ad 1)) (C := RX1) (T := TX1) (N := 12) hx hb hts zi_X1_near_X1 hown hK.1 hP 0 rfl rfl 0 (by decide) (hts _ zk_X1_near_0) (fun _ h9 => h9) rfl dX1_near_14 ?_
    refine lv_iload_n hx hb dX1_near_17 rfl (lv_at hl 1 rfl) ?_
    obtain ⟨r4, g5, h⟩ := bo1 h
    refine zb_callV (As := [.int v1]) (rest := []) ⟨hx, hb, hml, hown, hts⟩ (zc_X0_nearest l D cI (ad 1) (ad 2) (ad 3) (ad 4) (ad 5) (ad 6) (ad 7) g_now v1 r4 g5) (cwV 1 hts gX1_near_X0_nearest rfl rfl rfl hd_X0_nearest ⟨Nat.le_of_ble_eq_true rfl, Nat.le_of_ble_eq_true rfl⟩) hK hP hD hS hA (zb_cGn) (q0 := 0) rfl rfl rfl hl.1 rfl (Nat.le_of_ble_eq_true rfl) dX1_near_18 ⟨Nat.le_refl _, Nat.le_refl _⟩ (fun H locs hP hD hS => ?_)
    obtain ⟨rfl, rfl⟩ := re2 h
    exact zb_iret hx hb hr hlk hP hS dX1_near_21
  · replace h := it_t c3 h
    refine lv_aload_n hx hb dX1_near_7 rfl (lv_at hl 0 rfl) ?_
    refine lv_iconst (v := ((-1) : Int32)) hx hb dX1_near_8 (by decide) ?_
    obtain ⟨r6, n7, g8, h⟩ := bo2 h
    refine zb_callV (As := [.int ((-1) : Int32)]) (rest := []) ⟨hx, hb, hml, hown, hts⟩ (zc_X1_refuse l D cI ad g_now g_mind g_taken g_isTaken g_letters g_letterCount g_told g_toldCount g_refusals g_costs g_gains g_seed ((-1) : Int32) r6 n7 g8) (cwV 1 hts gX1_near_X1_refuse rfl rfl rfl hd_X1_refuse ⟨Nat.le_of_ble_eq_true rfl, Nat.le_of_ble_eq_true rfl⟩) hK hP hD hS hA (zb_sG) (q0 := 0) rfl rfl rfl hl.1 rfl (Nat.le_of_ble_eq_true rfl) dX1_near_9 ⟨Nat.le_refl _, Nat.le_refl _⟩ (fun H locs hP hD hS => ?_)
    obtain ⟨rfl, rfl⟩ := re2 h
    exact zb_iret hx hb hr hlk hP hS dX1_near_12
abbrev rm_X1_gainOf : Room := { frames := 0, cells := 0, slots := 0, locals := 0 }
theorem hd_X1_gainOf : yX1_gainOf.cls = RX1 ∧ yX1_gainOf.cls ≠ "java/lang/invoke/MethodHandle" ∧ yX1_gainOf.cls ≠ "java/lang/invoke/VarHandle" ∧ (parseMethodDescriptor yX1_gainOf.desc).map (fun d => d.parameters.length) = some 2 := by decide +kernel
theorem zi_X1_gainOf_X1 : ∀ w ∈ wsX10, w ∈ wsX1_gainOf := fun _ h => List.mem_cons_of_mem _ (List.mem_append_right _ h)
theorem zk_X1_gainOf_0 : Cond.fieldLink RX1 35 "GroutingIsFollowed" "gains" "[I" ∈ wsX1_gainOf := by decide +kernel
set_option maxHeartbeats 4000000 in
set_option maxRecDepth 100000 in
theorem zc_X1_gainOf (l : Launch) (D : va_G) (cI : ClassId) (ad : Nat → Nat) (g_now : BT) (g_mind : BT) (g_taken : BT) (g_isTaken : Int32) (g_letters : (Nat → Int32)) (g_letterCount : Int32) (g_told : (Nat → Int32)) (g_toldCount : Int32) (g_refusals : (Nat → Int32)) (g_costs : (Nat → Int32)) (g_gains : (Nat → Int32)) (g_seed : Int32) (v1 : Int32) (v2 : Int32) (r0 : Int32) (h : zf_X1_gainOf g_gains v1 v2 = some r0) : Cn l D cI yX1_gainOf wsX1_gainOf rm_X1_gainOf [.ref (ad 0), .int v1, .int v2] (zb_G cI ad g_now g_mind g_taken g_isTaken g_letters g_letterCount g_told g_toldCount g_refusals g_costs g_gains g_seed) (some (.int r0)) (zb_G cI ad g_now g_mind g_taken g_isTaken g_letters g_letterCount g_told g_toldCount g_refusals g_costs g_gains g_seed) := by
  refine zb_ofW (cc := cX1_gainOf) (maxL := 4) (ret := (some .int)) (by decide) rfl (Nat.le_of_ble_eq_true rfl) ?_
  intro p e s m args below meth c A ls hx hb hr hml hts hown hlk hK hP hD hA hl
  have hS : va_S A s.heap s.heap [] := va_S.rf
  have hl : lv_has ls 4 [(0, .ref (ad 0)), (1, .int v1), (2, .int v2)] := hl
  unfold zf_X1_gainOf at h
  refine lv_iconst (v := (2 : Int32)) hx hb dX1_gainOf_0 (by decide) ?_
  refine lv_iload_n hx hb dX1_gainOf_1 rfl (lv_at hl 1 rfl) ?_
  refine lv_imul hx hb dX1_gainOf_2 ?_
  refine lv_iload_n hx hb dX1_gainOf_3 rfl (lv_at hl 2 rfl) ?_
  refine lv_iadd hx hb dX1_gainOf_4 ?_
  refine lv_istore_n (lv' := [(3, .int (((2 : Int32) * v1) + v2)), (0, .ref (ad 0)), (1, .int v1), (2, .int v2)]) hx hb dX1_gainOf_5 rfl hl (by decide) rfl (fun ls hl => ?_)
  refine lv_iload_n hx hb dX1_gainOf_6 rfl (lv_at hl 0 rfl) ?_
  refine lv_if_lt (tgt := 28) hx hb dX1_gainOf_7 (by decide) (fun c1 => ?_) (fun c1 => ?_)
  · replace h := it_t c1 h
    refine lv_iconst (v := (0 : Int32)) hx hb dX1_gainOf_28 (by decide) ?_
    obtain rfl := re1 h
    exact zb_iret hx hb hr hlk hP hS dX1_gainOf_29
  · replace h := it_f c1 h
    refine lv_iload_n hx hb dX1_gainOf_10 rfl (lv_at hl 0 rfl) ?_
    refine lv_aload_n hx hb dX1_gainOf_11 rfl (lv_at hl 1 rfl) ?_
    refine va_get (D := D) (ci := 1) (v := .ref (ad 26)) (C := RX1) (T := TX1) (N := 12) hx hb hts zi_X1_gainOf_X1 hown hK.1 hP 0 rfl rfl 10 (by decide) (hts _ zk_X1_gainOf_0) (fun _ h9 => h9) rfl dX1_gainOf_12 ?_
    refine va_alen (v := (8 : Int32)) hx hb hK.1 hP 26 0 rfl rfl rfl dX1_gainOf_15 ?_
    refine lv_icmp_ge (tgt := 28) hx hb dX1_gainOf_16 (by decide) (fun c2 => ?_) (fun c2 => ?_)
    · replace h := it_t c2 h
      refine lv_iconst (v := (0 : Int32)) hx hb dX1_gainOf_28 (by decide) ?_
      obtain rfl := re1 h
      exact zb_iret hx hb hr hlk hP hS dX1_gainOf_29
    · replace h := it_f c2 h
      refine lv_aload_n hx hb dX1_gainOf_19 rfl (lv_at hl 1 rfl) ?_
      refine va_get (D := D) (ci := 1) (v := .ref (ad 26)) (C := RX1) (T := TX1) (N := 12) hx hb hts zi_X1_gainOf_X1 hown hK.1 hP 0 rfl rfl 10 (by decide) (hts _ zk_X1_gainOf_0) (fun _ h9 => h9) rfl dX1_gainOf_20 ?_
      refine lv_iload_n hx hb dX1_gainOf_23 rfl (lv_at hl 0 rfl) ?_
      obtain ⟨h3, h⟩ := it_g h
      refine va_iald hx hb hK.1 hP 26 0 rfl rfl h3 dX1_gainOf_24 ?_
      refine lv_goto (tgt := 29) hx hb dX1_gainOf_25 (by decide) ?_
      obtain rfl := re1 h
      exact zb_iret hx hb hr hlk hP hS dX1_gainOf_29
abbrev rm_X1_putGain : Room := { frames := 0, cells := 0, slots := 0, locals := 0 }
theorem hd_X1_putGain : yX1_putGain.cls = RX1 ∧ yX1_putGain.cls ≠ "java/lang/invoke/MethodHandle" ∧ yX1_putGain.cls ≠ "java/lang/invoke/VarHandle" ∧ (parseMethodDescriptor yX1_putGain.desc).map (fun d => d.parameters.length) = some 3 := by decide +kernel
theorem zi_X1_putGain_X1 : ∀ w ∈ wsX10, w ∈ wsX1_putGain := fun _ h => List.mem_cons_of_mem _ (List.mem_append_right _ h)
theorem zk_X1_putGain_0 : Cond.fieldLink RX1 35 "GroutingIsFollowed" "gains" "[I" ∈ wsX1_putGain := by decide +kernel
set_option maxHeartbeats 4000000 in
set_option maxRecDepth 100000 in
theorem zc_X1_putGain (l : Launch) (D : va_G) (cI : ClassId) (ad : Nat → Nat) (g_now : BT) (g_mind : BT) (g_taken : BT) (g_isTaken : Int32) (g_letters : (Nat → Int32)) (g_letterCount : Int32) (g_told : (Nat → Int32)) (g_toldCount : Int32) (g_refusals : (Nat → Int32)) (g_costs : (Nat → Int32)) (g_gains : (Nat → Int32)) (g_seed : Int32) (v1 : Int32) (v2 : Int32) (v3 : Int32) (w_g_gains : (Nat → Int32)) (h : zf_X1_putGain g_gains v1 v2 v3 = some w_g_gains) : Cn l D cI yX1_putGain wsX1_putGain rm_X1_putGain [.ref (ad 0), .int v1, .int v2, .int v3] (zb_G cI ad g_now g_mind g_taken g_isTaken g_letters g_letterCount g_told g_toldCount g_refusals g_costs g_gains g_seed) none (zb_G cI ad g_now g_mind g_taken g_isTaken g_letters g_letterCount g_told g_toldCount g_refusals g_costs w_g_gains g_seed) := by
  refine zb_ofW (cc := cX1_putGain) (maxL := 5) (ret := none) (by decide) rfl (Nat.le_of_ble_eq_true rfl) ?_
  intro p e s m args below meth c A ls hx hb hr hml hts hown hlk hK hP hD hA hl
  have hS : va_S A s.heap s.heap [] := va_S.rf
  have hl : lv_has ls 5 [(0, .ref (ad 0)), (1, .int v1), (2, .int v2), (3, .int v3)] := hl
  unfold zf_X1_putGain at h
  refine lv_iconst (v := (2 : Int32)) hx hb dX1_putGain_0 (by decide) ?_
  refine lv_iload_n hx hb dX1_putGain_1 rfl (lv_at hl 1 rfl) ?_
  refine lv_imul hx hb dX1_putGain_2 ?_
  refine lv_iload_n hx hb dX1_putGain_3 rfl (lv_at hl 2 rfl) ?_
  refine lv_iadd hx hb dX1_putGain_4 ?_
  refine lv_istore (lv' := [(4, .int (((2 : Int32) * v1) + v2)), (0, .ref (ad 0)), (1, .int v1), (2, .int v2), (3, .int v3)]) hx hb dX1_putGain_5 hl (by decide) rfl (fun ls hl => ?_)
  refine lv_iload hx hb dX1_putGain_7 (lv_at hl 0 rfl) ?_
  refine lv_if_lt (tgt := 30) hx hb dX1_putGain_9 (by decide) (fun c1 => ?_) (fun c1 => ?_)
  · replace h := it_t c1 h
    obtain rfl := re1 h
    exact zb_vret hx hb hr hlk hP hS dX1_putGain_30
  · replace h := it_f c1 h
    refine lv_iload hx hb dX1_putGain_12 (lv_at hl 0 rfl) ?_
    refine lv_aload_n hx hb dX1_putGain_14 rfl (lv_at hl 1 rfl) ?_
    refine va_get (D := D) (ci := 1) (v := .ref (ad 26)) (C := RX1) (T := TX1) (N := 12) hx hb hts zi_X1_putGain_X1 hown hK.1 hP 0 rfl rfl 10 (by decide) (hts _ zk_X1_putGain_0) (fun _ h9 => h9) rfl dX1_putGain_15 ?_
    refine va_alen (v := (8 : Int32)) hx hb hK.1 hP 26 0 rfl rfl rfl dX1_putGain_18 ?_
    refine lv_icmp_ge (tgt := 30) hx hb dX1_putGain_19 (by decide) (fun c2 => ?_) (fun c2 => ?_)
    · replace h := it_t c2 h
      obtain rfl := re1 h
      exact zb_vret hx hb hr hlk hP hS dX1_putGain_30
    · replace h := it_f c2 h
      refine lv_aload_n hx hb dX1_putGain_22 rfl (lv_at hl 1 rfl) ?_
      refine va_get (D := D) (ci := 1) (v := .ref (ad 26)) (C := RX1) (T := TX1) (N := 12) hx hb hts zi_X1_putGain_X1 hown hK.1 hP 0 rfl rfl 10 (by decide) (hts _ zk_X1_putGain_0) (fun _ h9 => h9) rfl dX1_putGain_23 ?_
      refine lv_iload hx hb dX1_putGain_26 (lv_at hl 0 rfl) ?_
      refine lv_iload_n hx hb dX1_putGain_28 rfl (lv_at hl 4 rfl) ?_
      obtain ⟨h3, h⟩ := it_g h
      refine va_iast hx hb hK.1 hP hD hS 26 0 rfl rfl h3 dX1_putGain_29 (fun H locs hP hD hS => ?_)
      have hP : va_P D zb_cl (zb_G cI ad g_now g_mind g_taken g_isTaken g_letters g_letterCount g_told g_toldCount g_refusals g_costs (upd g_gains (((2 : Int32) * v1) + v2).toNatClampNeg v3) g_seed) H := hP
      have hD : va_D A (zb_G cI ad g_now g_mind g_taken g_isTaken g_letters g_letterCount g_told g_toldCount g_refusals g_costs (upd g_gains (((2 : Int32) * v1) + v2).toNatClampNeg v3) g_seed) := hD
      obtain rfl := re1 h
      exact zb_vret hx hb hr hlk hP hS dX1_putGain_30
abbrev rm_X1_reckonGains : Room := { frames := 3, cells := 0, slots := 0, locals := 72 }
theorem hd_X1_reckonGains : yX1_reckonGains.cls = RX1 ∧ yX1_reckonGains.cls ≠ "java/lang/invoke/MethodHandle" ∧ yX1_reckonGains.cls ≠ "java/lang/invoke/VarHandle" ∧ (parseMethodDescriptor yX1_reckonGains.desc).map (fun d => d.parameters.length) = some 4 := by decide +kernel
theorem zi_X1_reckonGains_X1 : ∀ w ∈ wsX10, w ∈ wsX1_reckonGains := fun _ h => List.mem_cons_of_mem _ (List.mem_append_left _ (List.mem_append_right _ h))
theorem zk_X1_reckonGains_0 : Cond.fieldLink RX1 16 "GroutingIsFollowed" "mind" "LGroutingIsFollowed$Bath;" ∈ wsX1_reckonGains := by decide +kernel
theorem zk_X1_reckonGains_1 : Cond.fieldLink RX1 10 "GroutingIsFollowed" "now" "LGroutingIsFollowed$Bath;" ∈ wsX1_reckonGains := by decide +kernel
set_option maxHeartbeats 4000000 in
set_option maxRecDepth 100000 in
theorem zc_X1_reckonGains (l : Launch) (D : va_G) (cI : ClassId) (ad : Nat → Nat) (g_now : BT) (g_mind : BT) (g_taken : BT) (g_isTaken : Int32) (g_letters : (Nat → Int32)) (g_letterCount : Int32) (g_told : (Nat → Int32)) (g_toldCount : Int32) (g_refusals : (Nat → Int32)) (g_costs : (Nat → Int32)) (g_gains : (Nat → Int32)) (g_seed : Int32) (v1 : Int32) (v2 : Int32) (v3 : Int32) (v4 : Int32) (w_g_mind : BT) (w_g_gains : (Nat → Int32)) (h : zf_X1_reckonGains g_now g_mind g_gains v1 v2 v3 v4 = some (w_g_mind, w_g_gains)) : Cn l D cI yX1_reckonGains wsX1_reckonGains rm_X1_reckonGains [.ref (ad 0), .int v1, .int v2, .int v3, .int v4] (zb_G cI ad g_now g_mind g_taken g_isTaken g_letters g_letterCount g_told g_toldCount g_refusals g_costs g_gains g_seed) none (zb_G cI ad g_now w_g_mind g_taken g_isTaken g_letters g_letterCount g_told g_toldCount g_refusals g_costs w_g_gains g_seed) := by
  refine zb_ofW (cc := cX1_reckonGains) (maxL := 10) (ret := none) (by decide) rfl (Nat.le_of_ble_eq_true rfl) ?_
  intro p e s m args below meth c A ls hx hb hr hml hts hown hlk hK hP hD hA hl
  have hS : va_S A s.heap s.heap [] := va_S.rf
  have hl : lv_has ls 10 [(0, .ref (ad 0)), (1, .int v1), (2, .int v2), (3, .int v3), (4, .int v4)] := hl
  unfold zf_X1_reckonGains at h
  have j132 : ∀ (x1 : Int32) (x2 : Int32) (x3 : Int32) (x4 : BT) (x5 : (Nat → Int32)) (H : Heap) (locs : List Loc) (hP : va_P D zb_cl (zb_G cI ad g_now x4 g_taken g_isTaken g_letters g_letterCount g_told g_toldCount g_refusals g_costs x5 g_seed) H) (hD : va_D A (zb_G cI ad g_now x4 g_taken g_isTaken g_letters g_letterCount g_told g_toldCount g_refusals g_costs x5 g_seed)) (hS : va_S A s.heap H locs) (ls : Array Slot) (hl : lv_has ls 10 [(0, .ref (ad 0)), (1, .int v1), (6, .int x1), (7, .int x2), (8, .int x3)]) (h : zf_X1_reckonGains_j132 v1 x1 x2 x3 x4 x5 = some (w_g_mind, w_g_gains)), W p l e rm_X1_reckonGains s m args below meth c H locs 0 0 (zb_Q below D none (zb_G cI ad g_now w_g_mind g_taken g_isTaken g_letters g_letterCount g_told g_toldCount g_refusals g_costs w_g_gains g_seed) A args s) (F0 m 132 ls []) := by
    intro x1 x2 x3 x4 x5 H locs hP hD hS ls hl h
    unfold zf_X1_reckonGains_j132 at h
    refine lv_aload_n hx hb dX1_reckonGains_132 rfl (lv_at hl 0 rfl) ?_
    refine lv_iload_n hx hb dX1_reckonGains_133 rfl (lv_at hl 1 rfl) ?_
    refine lv_iconst (v := (0 : Int32)) hx hb dX1_reckonGains_134 (by decide) ?_
    refine lv_iload hx hb dX1_reckonGains_135 (lv_at hl 2 rfl) ?_
    obtain ⟨r6, g7, h⟩ := bo1 h
    refine zb_callS (As := [.int x1]) (rest := [.int (0 : Int32), .int v1, .ref (ad 0)]) ⟨hx, hb, hml, hown, hts⟩ (zc_J6_bitCount_0f7a4 l D cI x1 r6 g7) (va_cwS 1 hts gX1_reckonGains_J6_bitCount_0f7a4 rfl rfl rfl hd_J6_bitCount_0f7a4.2 ⟨Nat.le_of_ble_eq_true rfl, Nat.le_of_ble_eq_true rfl⟩) hK hP hD hS hA (zb_none _) rfl hl.1 rfl (Nat.le_of_ble_eq_true rfl) dX1_reckonGains_137 ⟨Nat.le_refl _, Nat.le_refl _⟩ (fun H locs hP hD hS => ?_)
    refine lv_iload hx hb dX1_reckonGains_140 (lv_at hl 4 rfl) ?_
    refine lv_iadd hx hb dX1_reckonGains_142 ?_
    obtain ⟨n8, g9, h⟩ := bo1 h
    refine zb_callV (As := [.int v1, .int (0 : Int32), .int (r6 + x3)]) (rest := []) ⟨hx, hb, hml, hown, hts⟩ (zc_X1_putGain l D cI ad g_now x4 g_taken g_isTaken g_letters g_letterCount g_told g_toldCount g_refusals g_costs x5 g_seed v1 (0 : Int32) (r6 + x3) n8 g9) (cwV 3 hts gX1_reckonGains_X1_putGain rfl rfl rfl hd_X1_putGain ⟨Nat.le_of_ble_eq_true rfl, Nat.le_of_ble_eq_true rfl⟩) hK hP hD hS hA (zb_sG) (q0 := 0) rfl rfl rfl hl.1 rfl (Nat.le_of_ble_eq_true rfl) dX1_reckonGains_143 ⟨Nat.le_refl _, Nat.le_refl _⟩ (fun H locs hP hD hS => ?_)
    refine lv_aload_n hx hb dX1_reckonGains_146 rfl (lv_at hl 0 rfl) ?_
    refine lv_iload_n hx hb dX1_reckonGains_147 rfl (lv_at hl 1 rfl) ?_
    refine lv_iconst (v := (1 : Int32)) hx hb dX1_reckonGains_148 (by decide) ?_
    refine lv_iload hx hb dX1_reckonGains_149 (lv_at hl 3 rfl) ?_
    obtain ⟨r10, g11, h⟩ := bo1 h
    refine zb_callS (As := [.int x2]) (rest := [.int (1 : Int32), .int v1, .ref (ad 0)]) ⟨hx, hb, hml, hown, hts⟩ (zc_J6_bitCount_0f7a4 l D cI x2 r10 g11) (va_cwS 1 hts gX1_reckonGains_J6_bitCount_0f7a4 rfl rfl rfl hd_J6_bitCount_0f7a4.2 ⟨Nat.le_of_ble_eq_true rfl, Nat.le_of_ble_eq_true rfl⟩) hK hP hD hS hA (zb_none _) rfl hl.1 rfl (Nat.le_of_ble_eq_true rfl) dX1_reckonGains_151 ⟨Nat.le_refl _, Nat.le_refl _⟩ (fun H locs hP hD hS => ?_)
    refine lv_iload hx hb dX1_reckonGains_154 (lv_at hl 4 rfl) ?_
    refine lv_iadd hx hb dX1_reckonGains_156 ?_
    obtain ⟨n12, g13, h⟩ := bo1 h
    refine zb_callV (As := [.int v1, .int (1 : Int32), .int (r10 + x3)]) (rest := []) ⟨hx, hb, hml, hown, hts⟩ (zc_X1_putGain l D cI ad g_now x4 g_taken g_isTaken g_letters g_letterCount g_told g_toldCount g_refusals g_costs n8 g_seed v1 (1 : Int32) (r10 + x3) n12 g13) (cwV 3 hts gX1_reckonGains_X1_putGain rfl rfl rfl hd_X1_putGain ⟨Nat.le_of_ble_eq_true rfl, Nat.le_of_ble_eq_true rfl⟩) hK hP hD hS hA (zb_sG) (q0 := 0) rfl rfl rfl hl.1 rfl (Nat.le_of_ble_eq_true rfl) dX1_reckonGains_157 ⟨Nat.le_refl _, Nat.le_refl _⟩ (fun H locs hP hD hS => ?_)
    obtain ⟨rfl, rfl⟩ := re2 h
    exact zb_vret hx hb hr hlk hP hS dX1_reckonGains_160
  have j24 : ∀ (x14 : Int32) (x15 : BT) (x16 : (Nat → Int32)) (H : Heap) (locs : List Loc) (hP : va_P D zb_cl (zb_G cI ad g_now x15 g_taken g_isTaken g_letters g_letterCount g_told g_toldCount g_refusals g_costs x16 g_seed) H) (hD : va_D A (zb_G cI ad g_now x15 g_taken g_isTaken g_letters g_letterCount g_told g_toldCount g_refusals g_costs x16 g_seed)) (hS : va_S A s.heap H locs) (ls : Array Slot) (hl : lv_has ls 10 [(0, .ref (ad 0)), (1, .int v1), (2, .int v2), (3, .int v3), (4, .int v4)]) (h : zf_X1_reckonGains_j24 v1 v2 v3 v4 x14 x15 x16 = some (w_g_mind, w_g_gains)), W p l e rm_X1_reckonGains s m args below meth c H locs 0 0 (zb_Q below D none (zb_G cI ad g_now w_g_mind g_taken g_isTaken g_letters g_letterCount g_told g_toldCount g_refusals g_costs w_g_gains g_seed) A args s) (F0 m 24 ls [.int x14]) := by
    intro x14 x15 x16 H locs hP hD hS ls hl h
    unfold zf_X1_reckonGains_j24 at h
    refine lv_iload_n hx hb dX1_reckonGains_24 rfl (lv_at hl 1 rfl) ?_
    refine lv_iconst (v := (1 : Int32)) hx hb dX1_reckonGains_25 (by decide) ?_
    refine lv_iand hx hb dX1_reckonGains_26 ?_
    refine lv_if_ne (tgt := 36) hx hb dX1_reckonGains_27 (by decide) (fun c17 => ?_) (fun c17 => ?_)
    · replace h := it_f c17 h
      refine lv_iconst (v := (0 : Int32)) hx hb dX1_reckonGains_36 (by decide) ?_
      refine lv_ior hx hb dX1_reckonGains_37 ?_
      refine lv_istore (lv' := [(5, .int (x14 ||| (0 : Int32))), (0, .ref (ad 0)), (1, .int v1), (2, .int v2), (3, .int v3), (4, .int v4)]) hx hb dX1_reckonGains_38 hl (by decide) rfl (fun ls hl => ?_)
      refine lv_iconst (v := (0 : Int32)) hx hb dX1_reckonGains_40 (by decide) ?_
      refine lv_istore (lv' := [(6, .int (0 : Int32)), (5, .int (x14 ||| (0 : Int32))), (0, .ref (ad 0)), (1, .int v1), (2, .int v2), (3, .int v3), (4, .int v4)]) hx hb dX1_reckonGains_41 hl (by decide) rfl (fun ls hl => ?_)
      refine lv_iconst (v := (0 : Int32)) hx hb dX1_reckonGains_43 (by decide) ?_
      refine lv_istore (lv' := [(7, .int (0 : Int32)), (6, .int (0 : Int32)), (5, .int (x14 ||| (0 : Int32))), (0, .ref (ad 0)), (1, .int v1), (2, .int v2), (3, .int v3), (4, .int v4)]) hx hb dX1_reckonGains_44 hl (by decide) rfl (fun ls hl => ?_)
      refine lv_iconst (v := (0 : Int32)) hx hb dX1_reckonGains_46 (by decide) ?_
      refine lv_istore (lv' := [(8, .int (0 : Int32)), (7, .int (0 : Int32)), (6, .int (0 : Int32)), (5, .int (x14 ||| (0 : Int32))), (0, .ref (ad 0)), (1, .int v1), (2, .int v2), (3, .int v3), (4, .int v4)]) hx hb dX1_reckonGains_47 hl (by decide) rfl (fun ls hl => ?_)
      refine lv_iconst (v := (0 : Int32)) hx hb dX1_reckonGains_49 (by decide) ?_
      refine lv_istore (lv' := [(9, .int (0 : Int32)), (8, .int (0 : Int32)), (7, .int (0 : Int32)), (6, .int (0 : Int32)), (5, .int (x14 ||| (0 : Int32))), (0, .ref (ad 0)), (1, .int v1), (2, .int v2), (3, .int v3), (4, .int v4)]) hx hb dX1_reckonGains_50 hl (by decide) rfl (fun ls hl => ?_)
      have lp23 : ∀ (fu23 : Nat) (x18 : Int32) (x19 : Int32) (x20 : Int32) (x21 : Int32) (x22 : BT) (H : Heap) (locs : List Loc) (hP : va_P D zb_cl (zb_G cI ad g_now x22 g_taken g_isTaken g_letters g_letterCount g_told g_toldCount g_refusals g_costs x16 g_seed) H) (hD : va_D A (zb_G cI ad g_now x22 g_taken g_isTaken g_letters g_letterCount g_told g_toldCount g_refusals g_costs x16 g_seed)) (hS : va_S A s.heap H locs) (ls : Array Slot) (hl : lv_has ls 10 [(0, .ref (ad 0)), (1, .int v1), (2, .int v2), (3, .int v3), (4, .int v4), (5, .int (x14 ||| (0 : Int32))), (6, .int x18), (7, .int x19), (8, .int x20), (9, .int x21)]) (h : zl5 (zf_X1_reckonGains_b52 v1 v2 v3 v4 (x14 ||| (0 : Int32)) x16) fu23 x18 x19 x20 x21 x22 = some (w_g_mind, w_g_gains)), W p l e rm_X1_reckonGains s m args below meth c H locs 0 0 (zb_Q below D none (zb_G cI ad g_now w_g_mind g_taken g_isTaken g_letters g_letterCount g_told g_toldCount g_refusals g_costs w_g_gains g_seed) A args s) (F0 m 52 ls []) := by
        intro fu23
        induction fu23 with
        | zero => intro x18 x19 x20 x21 x22 H locs hP hD hS ls hl h; exact zb_no h
        | succ fu23 ih23 =>
          intro x18 x19 x20 x21 x22 H locs hP hD hS ls hl h
          replace h : zf_X1_reckonGains_b52 v1 v2 v3 v4 (x14 ||| (0 : Int32)) x16 (zl5 (zf_X1_reckonGains_b52 v1 v2 v3 v4 (x14 ||| (0 : Int32)) x16) fu23) x18 x19 x20 x21 x22 = some (w_g_mind, w_g_gains) := h
          unfold zf_X1_reckonGains_b52 at h
          have j74 : ∀ (x24 : Int32) (x25 : Int32) (x26 : Int32) (x27 : Int32) (x28 : BT) (H : Heap) (locs : List Loc) (hP : va_P D zb_cl (zb_G cI ad g_now x28 g_taken g_isTaken g_letters g_letterCount g_told g_toldCount g_refusals g_costs x16 g_seed) H) (hD : va_D A (zb_G cI ad g_now x28 g_taken g_isTaken g_letters g_letterCount g_told g_toldCount g_refusals g_costs x16 g_seed)) (hS : va_S A s.heap H locs) (ls : Array Slot) (hl : lv_has ls 10 [(0, .ref (ad 0)), (1, .int v1), (2, .int v2), (3, .int v3), (4, .int v4), (5, .int (x14 ||| (0 : Int32))), (6, .int x24), (7, .int x25), (8, .int x26), (9, .int x27)]) (h : zf_X1_reckonGains_j74 (zl5 (zf_X1_reckonGains_b52 v1 v2 v3 v4 (x14 ||| (0 : Int32)) x16) fu23) v2 v3 x24 x25 x26 x27 x28 = some (w_g_mind, w_g_gains)), W p l e rm_X1_reckonGains s m args below meth c H locs 0 0 (zb_Q below D none (zb_G cI ad g_now w_g_mind g_taken g_isTaken g_letters g_letterCount g_told g_toldCount g_refusals g_costs w_g_gains g_seed) A args s) (F0 m 74 ls []) := by
            intro x24 x25 x26 x27 x28 H locs hP hD hS ls hl h
            unfold zf_X1_reckonGains_j74 at h
            refine lv_iload hx hb dX1_reckonGains_74 (lv_at hl 6 rfl) ?_
            refine lv_iconst (v := (1 : Int32)) hx hb dX1_reckonGains_76 (by decide) ?_
            refine lv_aload_n hx hb dX1_reckonGains_77 rfl (lv_at hl 0 rfl) ?_
            refine va_get (D := D) (ci := 1) (v := .ref (ad 8)) (C := RX1) (T := TX1) (N := 12) hx hb hts zi_X1_reckonGains_X1 hown hK.1 hP 0 rfl rfl 1 (by decide) (hts _ zk_X1_reckonGains_0) (fun _ h9 => h9) rfl dX1_reckonGains_78 ?_
            refine lv_iload_n hx hb dX1_reckonGains_81 rfl (lv_at hl 2 rfl) ?_
            obtain ⟨r29, g30, h⟩ := bo1 h
            refine zb_callV (As := [.int v2]) (rest := [.int (1 : Int32), .int x24]) ⟨hx, hb, hml, hown, hts⟩ (zc_X0_placeOf l D cI (ad 8) (ad 9) (ad 10) (ad 11) (ad 12) (ad 13) (ad 14) x28 v2 r29 g30) (cwV 1 hts gX1_reckonGains_X0_placeOf rfl rfl rfl hd_X0_placeOf ⟨Nat.le_of_ble_eq_true rfl, Nat.le_of_ble_eq_true rfl⟩) hK hP hD hS hA (zb_cGm) (q0 := 0) rfl rfl rfl hl.1 rfl (Nat.le_of_ble_eq_true rfl) dX1_reckonGains_82 ⟨Nat.le_refl _, Nat.le_refl _⟩ (fun H locs hP hD hS => ?_)
            refine lv_ishl hx hb dX1_reckonGains_85 ?_
            refine lv_ior hx hb dX1_reckonGains_86 ?_
            refine lv_istore (lv' := [(6, .int (x24 ||| ((1 : Int32) <<< (r29 &&& 31)))), (0, .ref (ad 0)), (1, .int v1), (2, .int v2), (3, .int v3), (4, .int v4), (5, .int (x14 ||| (0 : Int32))), (7, .int x25), (8, .int x26), (9, .int x27)]) hx hb dX1_reckonGains_87 hl (by decide) rfl (fun ls hl => ?_)
            refine lv_iload hx hb dX1_reckonGains_89 (lv_at hl 7 rfl) ?_
            refine lv_iconst (v := (1 : Int32)) hx hb dX1_reckonGains_91 (by decide) ?_
            refine lv_aload_n hx hb dX1_reckonGains_92 rfl (lv_at hl 1 rfl) ?_
            refine va_get (D := D) (ci := 1) (v := .ref (ad 8)) (C := RX1) (T := TX1) (N := 12) hx hb hts zi_X1_reckonGains_X1 hown hK.1 hP 0 rfl rfl 1 (by decide) (hts _ zk_X1_reckonGains_0) (fun _ h9 => h9) rfl dX1_reckonGains_93 ?_
            refine lv_iload_n hx hb dX1_reckonGains_96 rfl (lv_at hl 4 rfl) ?_
            obtain ⟨r31, g32, h⟩ := bo1 h
            refine zb_callV (As := [.int v3]) (rest := [.int (1 : Int32), .int x25]) ⟨hx, hb, hml, hown, hts⟩ (zc_X0_placeOf l D cI (ad 8) (ad 9) (ad 10) (ad 11) (ad 12) (ad 13) (ad 14) x28 v3 r31 g32) (cwV 1 hts gX1_reckonGains_X0_placeOf rfl rfl rfl hd_X0_placeOf ⟨Nat.le_of_ble_eq_true rfl, Nat.le_of_ble_eq_true rfl⟩) hK hP hD hS hA (zb_cGm) (q0 := 0) rfl rfl rfl hl.1 rfl (Nat.le_of_ble_eq_true rfl) dX1_reckonGains_97 ⟨Nat.le_refl _, Nat.le_refl _⟩ (fun H locs hP hD hS => ?_)
            refine lv_ishl hx hb dX1_reckonGains_100 ?_
            refine lv_ior hx hb dX1_reckonGains_101 ?_
            refine lv_istore (lv' := [(7, .int (x25 ||| ((1 : Int32) <<< (r31 &&& 31)))), (6, .int (x24 ||| ((1 : Int32) <<< (r29 &&& 31)))), (0, .ref (ad 0)), (1, .int v1), (2, .int v2), (3, .int v3), (4, .int v4), (5, .int (x14 ||| (0 : Int32))), (8, .int x26), (9, .int x27)]) hx hb dX1_reckonGains_102 hl (by decide) rfl (fun ls hl => ?_)
            refine lv_aload_n hx hb dX1_reckonGains_104 rfl (lv_at hl 2 rfl) ?_
            refine va_get (D := D) (ci := 1) (v := .ref (ad 8)) (C := RX1) (T := TX1) (N := 12) hx hb hts zi_X1_reckonGains_X1 hown hK.1 hP 0 rfl rfl 1 (by decide) (hts _ zk_X1_reckonGains_0) (fun _ h9 => h9) rfl dX1_reckonGains_105 ?_
            refine lv_iload_n hx hb dX1_reckonGains_108 rfl (lv_at hl 4 rfl) ?_
            obtain ⟨r33, g34, h⟩ := bo1 h
            refine zb_callV (As := [.int v2]) (rest := []) ⟨hx, hb, hml, hown, hts⟩ (zc_X0_placeOf l D cI (ad 8) (ad 9) (ad 10) (ad 11) (ad 12) (ad 13) (ad 14) x28 v2 r33 g34) (cwV 1 hts gX1_reckonGains_X0_placeOf rfl rfl rfl hd_X0_placeOf ⟨Nat.le_of_ble_eq_true rfl, Nat.le_of_ble_eq_true rfl⟩) hK hP hD hS hA (zb_cGm) (q0 := 0) rfl rfl rfl hl.1 rfl (Nat.le_of_ble_eq_true rfl) dX1_reckonGains_109 ⟨Nat.le_refl _, Nat.le_refl _⟩ (fun H locs hP hD hS => ?_)
            refine lv_aload_n hx hb dX1_reckonGains_112 rfl (lv_at hl 2 rfl) ?_
            refine va_get (D := D) (ci := 1) (v := .ref (ad 8)) (C := RX1) (T := TX1) (N := 12) hx hb hts zi_X1_reckonGains_X1 hown hK.1 hP 0 rfl rfl 1 (by decide) (hts _ zk_X1_reckonGains_0) (fun _ h9 => h9) rfl dX1_reckonGains_113 ?_
            refine lv_iload_n hx hb dX1_reckonGains_116 rfl (lv_at hl 5 rfl) ?_
            obtain ⟨r35, g36, h⟩ := bo1 h
            refine zb_callV (As := [.int v3]) (rest := [.int r33]) ⟨hx, hb, hml, hown, hts⟩ (zc_X0_placeOf l D cI (ad 8) (ad 9) (ad 10) (ad 11) (ad 12) (ad 13) (ad 14) x28 v3 r35 g36) (cwV 1 hts gX1_reckonGains_X0_placeOf rfl rfl rfl hd_X0_placeOf ⟨Nat.le_of_ble_eq_true rfl, Nat.le_of_ble_eq_true rfl⟩) hK hP hD hS hA (zb_cGm) (q0 := 0) rfl rfl rfl hl.1 rfl (Nat.le_of_ble_eq_true rfl) dX1_reckonGains_117 ⟨Nat.le_refl _, Nat.le_refl _⟩ (fun H locs hP hD hS => ?_)
            refine lv_icmp_ne (tgt := 126) hx hb dX1_reckonGains_120 (by decide) (fun c37 => ?_) (fun c37 => ?_)
            · replace h := it_f c37 h
              refine lv_iinc (v := (x27 + (1 : Int32))) (lv' := [(9, .int (x27 + (1 : Int32))), (7, .int (x25 ||| ((1 : Int32) <<< (r31 &&& 31)))), (6, .int (x24 ||| ((1 : Int32) <<< (r29 &&& 31)))), (0, .ref (ad 0)), (1, .int v1), (2, .int v2), (3, .int v3), (4, .int v4), (5, .int (x14 ||| (0 : Int32))), (8, .int x26)]) hx hb dX1_reckonGains_126 hl (k := 9) rfl (by first | rfl | decide) (by decide) rfl (fun ls hl => ?_)
              refine lv_goto (tgt := 52) hx hb dX1_reckonGains_129 (by decide) ?_
              exact ih23 (x24 ||| ((1 : Int32) <<< (r29 &&& 31))) (x25 ||| ((1 : Int32) <<< (r31 &&& 31))) x26 (x27 + (1 : Int32)) x28 _ _ hP hD hS ls (lv_sub hl [3, 4, 5, 6, 7, 8, 2, 1, 9, 0] rfl) h
            · replace h := it_t c37 h
              refine lv_iconst (v := (2 : Int32)) hx hb dX1_reckonGains_123 (by decide) ?_
              refine lv_istore (lv' := [(8, .int (2 : Int32)), (7, .int (x25 ||| ((1 : Int32) <<< (r31 &&& 31)))), (6, .int (x24 ||| ((1 : Int32) <<< (r29 &&& 31)))), (0, .ref (ad 0)), (1, .int v1), (2, .int v2), (3, .int v3), (4, .int v4), (5, .int (x14 ||| (0 : Int32))), (9, .int x27)]) hx hb dX1_reckonGains_124 hl (by decide) rfl (fun ls hl => ?_)
              refine lv_iinc (v := (x27 + (1 : Int32))) (lv' := [(9, .int (x27 + (1 : Int32))), (8, .int (2 : Int32)), (7, .int (x25 ||| ((1 : Int32) <<< (r31 &&& 31)))), (6, .int (x24 ||| ((1 : Int32) <<< (r29 &&& 31)))), (0, .ref (ad 0)), (1, .int v1), (2, .int v2), (3, .int v3), (4, .int v4), (5, .int (x14 ||| (0 : Int32)))]) hx hb dX1_reckonGains_126 hl (k := 9) rfl (by first | rfl | decide) (by decide) rfl (fun ls hl => ?_)
              refine lv_goto (tgt := 52) hx hb dX1_reckonGains_129 (by decide) ?_
              exact ih23 (x24 ||| ((1 : Int32) <<< (r29 &&& 31))) (x25 ||| ((1 : Int32) <<< (r31 &&& 31))) (2 : Int32) (x27 + (1 : Int32)) x28 _ _ hP hD hS ls (lv_sub hl [4, 5, 6, 7, 8, 9, 3, 2, 1, 0] rfl) h
          refine lv_iload hx hb dX1_reckonGains_52 (lv_at hl 9 rfl) ?_
          refine lv_iload hx hb dX1_reckonGains_54 (lv_at hl 4 rfl) ?_
          refine lv_icmp_gt (tgt := 132) hx hb dX1_reckonGains_56 (by decide) (fun c38 => ?_) (fun c38 => ?_)
          · replace h := it_t c38 h
            exact j132 x18 x19 x20 x22 x16 _ _ hP hD hS ls (lv_sub hl [0, 1, 6, 7, 8] rfl) h
          · replace h := it_f c38 h
            refine lv_iload hx hb dX1_reckonGains_59 (lv_at hl 9 rfl) ?_
            refine lv_if_le (tgt := 74) hx hb dX1_reckonGains_61 (by decide) (fun c39 => ?_) (fun c39 => ?_)
            · replace h := it_t c39 h
              exact j74 x18 x19 x20 x21 x22 _ _ hP hD hS ls (lv_sub hl [0, 1, 2, 3, 4, 5, 6, 7, 8, 9] rfl) h
            · replace h := it_f c39 h
              refine lv_aload_n hx hb dX1_reckonGains_64 rfl (lv_at hl 0 rfl) ?_
              refine va_get (D := D) (ci := 1) (v := .ref (ad 8)) (C := RX1) (T := TX1) (N := 12) hx hb hts zi_X1_reckonGains_X1 hown hK.1 hP 0 rfl rfl 1 (by decide) (hts _ zk_X1_reckonGains_0) (fun _ h9 => h9) rfl dX1_reckonGains_65 ?_
              refine lv_iconst (v := (1 : Int32)) hx hb dX1_reckonGains_68 (by decide) ?_
              refine lv_iload hx hb dX1_reckonGains_69 (lv_at hl 5 rfl) ?_
              obtain ⟨n40, g41, h⟩ := bo1 h
              refine zb_callV (As := [.int (1 : Int32), .int (x14 ||| (0 : Int32))]) (rest := []) ⟨hx, hb, hml, hown, hts⟩ (zc_X0_goOn l D cI (ad 8) (ad 9) (ad 10) (ad 11) (ad 12) (ad 13) (ad 14) x22 (1 : Int32) (x14 ||| (0 : Int32)) n40 g41) (cwV 2 hts gX1_reckonGains_X0_goOn rfl rfl rfl hd_X0_goOn ⟨Nat.le_of_ble_eq_true rfl, Nat.le_of_ble_eq_true rfl⟩) hK hP hD hS hA (zb_cGm) (q0 := 0) rfl rfl rfl hl.1 rfl (Nat.le_of_ble_eq_true rfl) dX1_reckonGains_71 ⟨Nat.le_refl _, Nat.le_refl _⟩ (fun H locs hP hD hS => ?_)
              exact j74 x18 x19 x20 x21 n40 _ _ hP hD hS ls (lv_sub hl [0, 1, 2, 3, 4, 5, 6, 7, 8, 9] rfl) h
      exact lp23 zb_FU (0 : Int32) (0 : Int32) (0 : Int32) (0 : Int32) x15 _ _ hP hD hS ls (lv_sub hl [5, 6, 7, 8, 9, 4, 3, 2, 1, 0] rfl) h
    · replace h := it_t c17 h
      refine lv_iconst (v := (1 : Int32)) hx hb dX1_reckonGains_30 (by decide) ?_
      refine lv_iload_n hx hb dX1_reckonGains_31 rfl (lv_at hl 3 rfl) ?_
      refine lv_ishl hx hb dX1_reckonGains_32 ?_
      refine lv_goto (tgt := 37) hx hb dX1_reckonGains_33 (by decide) ?_
      refine lv_ior hx hb dX1_reckonGains_37 ?_
      refine lv_istore (lv' := [(5, .int (x14 ||| ((1 : Int32) <<< (v3 &&& 31)))), (0, .ref (ad 0)), (1, .int v1), (2, .int v2), (3, .int v3), (4, .int v4)]) hx hb dX1_reckonGains_38 hl (by decide) rfl (fun ls hl => ?_)
      refine lv_iconst (v := (0 : Int32)) hx hb dX1_reckonGains_40 (by decide) ?_
      refine lv_istore (lv' := [(6, .int (0 : Int32)), (5, .int (x14 ||| ((1 : Int32) <<< (v3 &&& 31)))), (0, .ref (ad 0)), (1, .int v1), (2, .int v2), (3, .int v3), (4, .int v4)]) hx hb dX1_reckonGains_41 hl (by decide) rfl (fun ls hl => ?_)
      refine lv_iconst (v := (0 : Int32)) hx hb dX1_reckonGains_43 (by decide) ?_
      refine lv_istore (lv' := [(7, .int (0 : Int32)), (6, .int (0 : Int32)), (5, .int (x14 ||| ((1 : Int32) <<< (v3 &&& 31)))), (0, .ref (ad 0)), (1, .int v1), (2, .int v2), (3, .int v3), (4, .int v4)]) hx hb dX1_reckonGains_44 hl (by decide) rfl (fun ls hl => ?_)
      refine lv_iconst (v := (0 : Int32)) hx hb dX1_reckonGains_46 (by decide) ?_
      refine lv_istore (lv' := [(8, .int (0 : Int32)), (7, .int (0 : Int32)), (6, .int (0 : Int32)), (5, .int (x14 ||| ((1 : Int32) <<< (v3 &&& 31)))), (0, .ref (ad 0)), (1, .int v1), (2, .int v2), (3, .int v3), (4, .int v4)]) hx hb dX1_reckonGains_47 hl (by decide) rfl (fun ls hl => ?_)
      refine lv_iconst (v := (0 : Int32)) hx hb dX1_reckonGains_49 (by decide) ?_
      refine lv_istore (lv' := [(9, .int (0 : Int32)), (8, .int (0 : Int32)), (7, .int (0 : Int32)), (6, .int (0 : Int32)), (5, .int (x14 ||| ((1 : Int32) <<< (v3 &&& 31)))), (0, .ref (ad 0)), (1, .int v1), (2, .int v2), (3, .int v3), (4, .int v4)]) hx hb dX1_reckonGains_50 hl (by decide) rfl (fun ls hl => ?_)
      have lp47 : ∀ (fu47 : Nat) (x42 : Int32) (x43 : Int32) (x44 : Int32) (x45 : Int32) (x46 : BT) (H : Heap) (locs : List Loc) (hP : va_P D zb_cl (zb_G cI ad g_now x46 g_taken g_isTaken g_letters g_letterCount g_told g_toldCount g_refusals g_costs x16 g_seed) H) (hD : va_D A (zb_G cI ad g_now x46 g_taken g_isTaken g_letters g_letterCount g_told g_toldCount g_refusals g_costs x16 g_seed)) (hS : va_S A s.heap H locs) (ls : Array Slot) (hl : lv_has ls 10 [(0, .ref (ad 0)), (1, .int v1), (2, .int v2), (3, .int v3), (4, .int v4), (5, .int (x14 ||| ((1 : Int32) <<< (v3 &&& 31)))), (6, .int x42), (7, .int x43), (8, .int x44), (9, .int x45)]) (h : zl5 (zf_X1_reckonGains_b52 v1 v2 v3 v4 (x14 ||| ((1 : Int32) <<< (v3 &&& 31))) x16) fu47 x42 x43 x44 x45 x46 = some (w_g_mind, w_g_gains)), W p l e rm_X1_reckonGains s m args below meth c H locs 0 0 (zb_Q below D none (zb_G cI ad g_now w_g_mind g_taken g_isTaken g_letters g_letterCount g_told g_toldCount g_refusals g_costs w_g_gains g_seed) A args s) (F0 m 52 ls []) := by
        intro fu47
        induction fu47 with
        | zero => intro x42 x43 x44 x45 x46 H locs hP hD hS ls hl h; exact zb_no h
        | succ fu47 ih47 =>
          intro x42 x43 x44 x45 x46 H locs hP hD hS ls hl h
          replace h : zf_X1_reckonGains_b52 v1 v2 v3 v4 (x14 ||| ((1 : Int32) <<< (v3 &&& 31))) x16 (zl5 (zf_X1_reckonGains_b52 v1 v2 v3 v4 (x14 ||| ((1 : Int32) <<< (v3 &&& 31))) x16) fu47) x42 x43 x44 x45 x46 = some (w_g_mind, w_g_gains) := h
          unfold zf_X1_reckonGains_b52 at h
          have j74 : ∀ (x48 : Int32) (x49 : Int32) (x50 : Int32) (x51 : Int32) (x52 : BT) (H : Heap) (locs : List Loc) (hP : va_P D zb_cl (zb_G cI ad g_now x52 g_taken g_isTaken g_letters g_letterCount g_told g_toldCount g_refusals g_costs x16 g_seed) H) (hD : va_D A (zb_G cI ad g_now x52 g_taken g_isTaken g_letters g_letterCount g_told g_toldCount g_refusals g_costs x16 g_seed)) (hS : va_S A s.heap H locs) (ls : Array Slot) (hl : lv_has ls 10 [(0, .ref (ad 0)), (1, .int v1), (2, .int v2), (3, .int v3), (4, .int v4), (5, .int (x14 ||| ((1 : Int32) <<< (v3 &&& 31)))), (6, .int x48), (7, .int x49), (8, .int x50), (9, .int x51)]) (h : zf_X1_reckonGains_j74 (zl5 (zf_X1_reckonGains_b52 v1 v2 v3 v4 (x14 ||| ((1 : Int32) <<< (v3 &&& 31))) x16) fu47) v2 v3 x48 x49 x50 x51 x52 = some (w_g_mind, w_g_gains)), W p l e rm_X1_reckonGains s m args below meth c H locs 0 0 (zb_Q below D none (zb_G cI ad g_now w_g_mind g_taken g_isTaken g_letters g_letterCount g_told g_toldCount g_refusals g_costs w_g_gains g_seed) A args s) (F0 m 74 ls []) := by
            intro x48 x49 x50 x51 x52 H locs hP hD hS ls hl h
            unfold zf_X1_reckonGains_j74 at h
            refine lv_iload hx hb dX1_reckonGains_74 (lv_at hl 6 rfl) ?_
            refine lv_iconst (v := (1 : Int32)) hx hb dX1_reckonGains_76 (by decide) ?_
            refine lv_aload_n hx hb dX1_reckonGains_77 rfl (lv_at hl 0 rfl) ?_
            refine va_get (D := D) (ci := 1) (v := .ref (ad 8)) (C := RX1) (T := TX1) (N := 12) hx hb hts zi_X1_reckonGains_X1 hown hK.1 hP 0 rfl rfl 1 (by decide) (hts _ zk_X1_reckonGains_0) (fun _ h9 => h9) rfl dX1_reckonGains_78 ?_
            refine lv_iload_n hx hb dX1_reckonGains_81 rfl (lv_at hl 2 rfl) ?_
            obtain ⟨r53, g54, h⟩ := bo1 h
            refine zb_callV (As := [.int v2]) (rest := [.int (1 : Int32), .int x48]) ⟨hx, hb, hml, hown, hts⟩ (zc_X0_placeOf l D cI (ad 8) (ad 9) (ad 10) (ad 11) (ad 12) (ad 13) (ad 14) x52 v2 r53 g54) (cwV 1 hts gX1_reckonGains_X0_placeOf rfl rfl rfl hd_X0_placeOf ⟨Nat.le_of_ble_eq_true rfl, Nat.le_of_ble_eq_true rfl⟩) hK hP hD hS hA (zb_cGm) (q0 := 0) rfl rfl rfl hl.1 rfl (Nat.le_of_ble_eq_true rfl) dX1_reckonGains_82 ⟨Nat.le_refl _, Nat.le_refl _⟩ (fun H locs hP hD hS => ?_)
            refine lv_ishl hx hb dX1_reckonGains_85 ?_
            refine lv_ior hx hb dX1_reckonGains_86 ?_
            refine lv_istore (lv' := [(6, .int (x48 ||| ((1 : Int32) <<< (r53 &&& 31)))), (0, .ref (ad 0)), (1, .int v1), (2, .int v2), (3, .int v3), (4, .int v4), (5, .int (x14 ||| ((1 : Int32) <<< (v3 &&& 31)))), (7, .int x49), (8, .int x50), (9, .int x51)]) hx hb dX1_reckonGains_87 hl (by decide) rfl (fun ls hl => ?_)
            refine lv_iload hx hb dX1_reckonGains_89 (lv_at hl 7 rfl) ?_
            refine lv_iconst (v := (1 : Int32)) hx hb dX1_reckonGains_91 (by decide) ?_
            refine lv_aload_n hx hb dX1_reckonGains_92 rfl (lv_at hl 1 rfl) ?_
            refine va_get (D := D) (ci := 1) (v := .ref (ad 8)) (C := RX1) (T := TX1) (N := 12) hx hb hts zi_X1_reckonGains_X1 hown hK.1 hP 0 rfl rfl 1 (by decide) (hts _ zk_X1_reckonGains_0) (fun _ h9 => h9) rfl dX1_reckonGains_93 ?_
            refine lv_iload_n hx hb dX1_reckonGains_96 rfl (lv_at hl 4 rfl) ?_
            obtain ⟨r55, g56, h⟩ := bo1 h
            refine zb_callV (As := [.int v3]) (rest := [.int (1 : Int32), .int x49]) ⟨hx, hb, hml, hown, hts⟩ (zc_X0_placeOf l D cI (ad 8) (ad 9) (ad 10) (ad 11) (ad 12) (ad 13) (ad 14) x52 v3 r55 g56) (cwV 1 hts gX1_reckonGains_X0_placeOf rfl rfl rfl hd_X0_placeOf ⟨Nat.le_of_ble_eq_true rfl, Nat.le_of_ble_eq_true rfl⟩) hK hP hD hS hA (zb_cGm) (q0 := 0) rfl rfl rfl hl.1 rfl (Nat.le_of_ble_eq_true rfl) dX1_reckonGains_97 ⟨Nat.le_refl _, Nat.le_refl _⟩ (fun H locs hP hD hS => ?_)
            refine lv_ishl hx hb dX1_reckonGains_100 ?_
            refine lv_ior hx hb dX1_reckonGains_101 ?_
            refine lv_istore (lv' := [(7, .int (x49 ||| ((1 : Int32) <<< (r55 &&& 31)))), (6, .int (x48 ||| ((1 : Int32) <<< (r53 &&& 31)))), (0, .ref (ad 0)), (1, .int v1), (2, .int v2), (3, .int v3), (4, .int v4), (5, .int (x14 ||| ((1 : Int32) <<< (v3 &&& 31)))), (8, .int x50), (9, .int x51)]) hx hb dX1_reckonGains_102 hl (by decide) rfl (fun ls hl => ?_)
            refine lv_aload_n hx hb dX1_reckonGains_104 rfl (lv_at hl 2 rfl) ?_
            refine va_get (D := D) (ci := 1) (v := .ref (ad 8)) (C := RX1) (T := TX1) (N := 12) hx hb hts zi_X1_reckonGains_X1 hown hK.1 hP 0 rfl rfl 1 (by decide) (hts _ zk_X1_reckonGains_0) (fun _ h9 => h9) rfl dX1_reckonGains_105 ?_
            refine lv_iload_n hx hb dX1_reckonGains_108 rfl (lv_at hl 4 rfl) ?_
            obtain ⟨r57, g58, h⟩ := bo1 h
            refine zb_callV (As := [.int v2]) (rest := []) ⟨hx, hb, hml, hown, hts⟩ (zc_X0_placeOf l D cI (ad 8) (ad 9) (ad 10) (ad 11) (ad 12) (ad 13) (ad 14) x52 v2 r57 g58) (cwV 1 hts gX1_reckonGains_X0_placeOf rfl rfl rfl hd_X0_placeOf ⟨Nat.le_of_ble_eq_true rfl, Nat.le_of_ble_eq_true rfl⟩) hK hP hD hS hA (zb_cGm) (q0 := 0) rfl rfl rfl hl.1 rfl (Nat.le_of_ble_eq_true rfl) dX1_reckonGains_109 ⟨Nat.le_refl _, Nat.le_refl _⟩ (fun H locs hP hD hS => ?_)
            refine lv_aload_n hx hb dX1_reckonGains_112 rfl (lv_at hl 2 rfl) ?_
            refine va_get (D := D) (ci := 1) (v := .ref (ad 8)) (C := RX1) (T := TX1) (N := 12) hx hb hts zi_X1_reckonGains_X1 hown hK.1 hP 0 rfl rfl 1 (by decide) (hts _ zk_X1_reckonGains_0) (fun _ h9 => h9) rfl dX1_reckonGains_113 ?_
            refine lv_iload_n hx hb dX1_reckonGains_116 rfl (lv_at hl 5 rfl) ?_
            obtain ⟨r59, g60, h⟩ := bo1 h
            refine zb_callV (As := [.int v3]) (rest := [.int r57]) ⟨hx, hb, hml, hown, hts⟩ (zc_X0_placeOf l D cI (ad 8) (ad 9) (ad 10) (ad 11) (ad 12) (ad 13) (ad 14) x52 v3 r59 g60) (cwV 1 hts gX1_reckonGains_X0_placeOf rfl rfl rfl hd_X0_placeOf ⟨Nat.le_of_ble_eq_true rfl, Nat.le_of_ble_eq_true rfl⟩) hK hP hD hS hA (zb_cGm) (q0 := 0) rfl rfl rfl hl.1 rfl (Nat.le_of_ble_eq_true rfl) dX1_reckonGains_117 ⟨Nat.le_refl _, Nat.le_refl _⟩ (fun H locs hP hD hS => ?_)
            refine lv_icmp_ne (tgt := 126) hx hb dX1_reckonGains_120 (by decide) (fun c61 => ?_) (fun c61 => ?_)
            · replace h := it_f c61 h
              refine lv_iinc (v := (x51 + (1 : Int32))) (lv' := [(9, .int (x51 + (1 : Int32))), (7, .int (x49 ||| ((1 : Int32) <<< (r55 &&& 31)))), (6, .int (x48 ||| ((1 : Int32) <<< (r53 &&& 31)))), (0, .ref (ad 0)), (1, .int v1), (2, .int v2), (3, .int v3), (4, .int v4), (5, .int (x14 ||| ((1 : Int32) <<< (v3 &&& 31)))), (8, .int x50)]) hx hb dX1_reckonGains_126 hl (k := 9) rfl (by first | rfl | decide) (by decide) rfl (fun ls hl => ?_)
              refine lv_goto (tgt := 52) hx hb dX1_reckonGains_129 (by decide) ?_
              exact ih47 (x48 ||| ((1 : Int32) <<< (r53 &&& 31))) (x49 ||| ((1 : Int32) <<< (r55 &&& 31))) x50 (x51 + (1 : Int32)) x52 _ _ hP hD hS ls (lv_sub hl [3, 4, 5, 6, 7, 8, 2, 1, 9, 0] rfl) h
            · replace h := it_t c61 h
              refine lv_iconst (v := (2 : Int32)) hx hb dX1_reckonGains_123 (by decide) ?_
              refine lv_istore (lv' := [(8, .int (2 : Int32)), (7, .int (x49 ||| ((1 : Int32) <<< (r55 &&& 31)))), (6, .int (x48 ||| ((1 : Int32) <<< (r53 &&& 31)))), (0, .ref (ad 0)), (1, .int v1), (2, .int v2), (3, .int v3), (4, .int v4), (5, .int (x14 ||| ((1 : Int32) <<< (v3 &&& 31)))), (9, .int x51)]) hx hb dX1_reckonGains_124 hl (by decide) rfl (fun ls hl => ?_)
              refine lv_iinc (v := (x51 + (1 : Int32))) (lv' := [(9, .int (x51 + (1 : Int32))), (8, .int (2 : Int32)), (7, .int (x49 ||| ((1 : Int32) <<< (r55 &&& 31)))), (6, .int (x48 ||| ((1 : Int32) <<< (r53 &&& 31)))), (0, .ref (ad 0)), (1, .int v1), (2, .int v2), (3, .int v3), (4, .int v4), (5, .int (x14 ||| ((1 : Int32) <<< (v3 &&& 31))))]) hx hb dX1_reckonGains_126 hl (k := 9) rfl (by first | rfl | decide) (by decide) rfl (fun ls hl => ?_)
              refine lv_goto (tgt := 52) hx hb dX1_reckonGains_129 (by decide) ?_
              exact ih47 (x48 ||| ((1 : Int32) <<< (r53 &&& 31))) (x49 ||| ((1 : Int32) <<< (r55 &&& 31))) (2 : Int32) (x51 + (1 : Int32)) x52 _ _ hP hD hS ls (lv_sub hl [4, 5, 6, 7, 8, 9, 3, 2, 1, 0] rfl) h
          refine lv_iload hx hb dX1_reckonGains_52 (lv_at hl 9 rfl) ?_
          refine lv_iload hx hb dX1_reckonGains_54 (lv_at hl 4 rfl) ?_
          refine lv_icmp_gt (tgt := 132) hx hb dX1_reckonGains_56 (by decide) (fun c62 => ?_) (fun c62 => ?_)
          · replace h := it_t c62 h
            exact j132 x42 x43 x44 x46 x16 _ _ hP hD hS ls (lv_sub hl [0, 1, 6, 7, 8] rfl) h
          · replace h := it_f c62 h
            refine lv_iload hx hb dX1_reckonGains_59 (lv_at hl 9 rfl) ?_
            refine lv_if_le (tgt := 74) hx hb dX1_reckonGains_61 (by decide) (fun c63 => ?_) (fun c63 => ?_)
            · replace h := it_t c63 h
              exact j74 x42 x43 x44 x45 x46 _ _ hP hD hS ls (lv_sub hl [0, 1, 2, 3, 4, 5, 6, 7, 8, 9] rfl) h
            · replace h := it_f c63 h
              refine lv_aload_n hx hb dX1_reckonGains_64 rfl (lv_at hl 0 rfl) ?_
              refine va_get (D := D) (ci := 1) (v := .ref (ad 8)) (C := RX1) (T := TX1) (N := 12) hx hb hts zi_X1_reckonGains_X1 hown hK.1 hP 0 rfl rfl 1 (by decide) (hts _ zk_X1_reckonGains_0) (fun _ h9 => h9) rfl dX1_reckonGains_65 ?_
              refine lv_iconst (v := (1 : Int32)) hx hb dX1_reckonGains_68 (by decide) ?_
              refine lv_iload hx hb dX1_reckonGains_69 (lv_at hl 5 rfl) ?_
              obtain ⟨n64, g65, h⟩ := bo1 h
              refine zb_callV (As := [.int (1 : Int32), .int (x14 ||| ((1 : Int32) <<< (v3 &&& 31)))]) (rest := []) ⟨hx, hb, hml, hown, hts⟩ (zc_X0_goOn l D cI (ad 8) (ad 9) (ad 10) (ad 11) (ad 12) (ad 13) (ad 14) x46 (1 : Int32) (x14 ||| ((1 : Int32) <<< (v3 &&& 31))) n64 g65) (cwV 2 hts gX1_reckonGains_X0_goOn rfl rfl rfl hd_X0_goOn ⟨Nat.le_of_ble_eq_true rfl, Nat.le_of_ble_eq_true rfl⟩) hK hP hD hS hA (zb_cGm) (q0 := 0) rfl rfl rfl hl.1 rfl (Nat.le_of_ble_eq_true rfl) dX1_reckonGains_71 ⟨Nat.le_refl _, Nat.le_refl _⟩ (fun H locs hP hD hS => ?_)
              exact j74 x42 x43 x44 x45 n64 _ _ hP hD hS ls (lv_sub hl [0, 1, 2, 3, 4, 5, 6, 7, 8, 9] rfl) h
      exact lp47 zb_FU (0 : Int32) (0 : Int32) (0 : Int32) (0 : Int32) x15 _ _ hP hD hS ls (lv_sub hl [5, 6, 7, 8, 9, 4, 3, 2, 1, 0] rfl) h
  refine lv_aload_n hx hb dX1_reckonGains_0 rfl (lv_at hl 0 rfl) ?_
  refine va_get (D := D) (ci := 1) (v := .ref (ad 8)) (C := RX1) (T := TX1) (N := 12) hx hb hts zi_X1_reckonGains_X1 hown hK.1 hP 0 rfl rfl 1 (by decide) (hts _ zk_X1_reckonGains_0) (fun _ h9 => h9) rfl dX1_reckonGains_1 ?_
  refine lv_aload_n hx hb dX1_reckonGains_4 rfl (lv_at hl 0 rfl) ?_
  refine va_get (D := D) (ci := 1) (v := .ref (ad 1)) (C := RX1) (T := TX1) (N := 12) hx hb hts zi_X1_reckonGains_X1 hown hK.1 hP 0 rfl rfl 0 (by decide) (hts _ zk_X1_reckonGains_1) (fun _ h9 => h9) rfl dX1_reckonGains_5 ?_
  obtain ⟨n66, g67, h⟩ := bo1 h
  refine zb_callV (As := [.ref (ad 1)]) (rest := []) ⟨hx, hb, hml, hown, hts⟩ (zc_X0_becomes l D cI (ad 8) (ad 9) (ad 10) (ad 11) (ad 12) (ad 13) (ad 14) (ad 1) (ad 2) (ad 3) (ad 4) (ad 5) (ad 6) (ad 7) g_mind g_now n66 g67) (cwV 1 hts gX1_reckonGains_X0_becomes rfl rfl rfl hd_X0_becomes ⟨Nat.le_of_ble_eq_true rfl, Nat.le_of_ble_eq_true rfl⟩) hK hP hD hS hA (zb_cGmn) (q0 := 0) rfl rfl rfl hl.1 rfl (Nat.le_of_ble_eq_true rfl) dX1_reckonGains_8 ⟨Nat.le_refl _, Nat.le_refl _⟩ (fun H locs hP hD hS => ?_)
  refine lv_iload_n hx hb dX1_reckonGains_11 rfl (lv_at hl 1 rfl) ?_
  refine lv_iconst (v := (2 : Int32)) hx hb dX1_reckonGains_12 (by decide) ?_
  refine lv_iand hx hb dX1_reckonGains_13 ?_
  refine lv_if_ne (tgt := 23) hx hb dX1_reckonGains_14 (by decide) (fun c68 => ?_) (fun c68 => ?_)
  · replace h := it_f c68 h
    refine lv_iconst (v := (0 : Int32)) hx hb dX1_reckonGains_23 (by decide) ?_
    exact j24 (0 : Int32) n66 g_gains _ _ hP hD hS ls (lv_sub hl [0, 1, 2, 3, 4] rfl) h
  · replace h := it_t c68 h
    refine lv_iconst (v := (1 : Int32)) hx hb dX1_reckonGains_17 (by decide) ?_
    refine lv_iload_n hx hb dX1_reckonGains_18 rfl (lv_at hl 2 rfl) ?_
    refine lv_ishl hx hb dX1_reckonGains_19 ?_
    refine lv_goto (tgt := 24) hx hb dX1_reckonGains_20 (by decide) ?_
    exact j24 ((1 : Int32) <<< (v2 &&& 31)) n66 g_gains _ _ hP hD hS ls (lv_sub hl [0, 1, 2, 3, 4] rfl) h
abbrev rm_X1_two : Room := { frames := 4, cells := 0, slots := 0, locals := 101 }
theorem hd_X1_two : yX1_two.cls = RX1 ∧ yX1_two.cls ≠ "java/lang/invoke/MethodHandle" ∧ yX1_two.cls ≠ "java/lang/invoke/VarHandle" ∧ (parseMethodDescriptor yX1_two.desc).map (fun d => d.parameters.length) = some 3 := by decide +kernel
set_option maxHeartbeats 4000000 in
set_option maxRecDepth 100000 in
theorem zc_X1_two (l : Launch) (D : va_G) (cI : ClassId) (ad : Nat → Nat) (g_now : BT) (g_mind : BT) (g_taken : BT) (g_isTaken : Int32) (g_letters : (Nat → Int32)) (g_letterCount : Int32) (g_told : (Nat → Int32)) (g_toldCount : Int32) (g_refusals : (Nat → Int32)) (g_costs : (Nat → Int32)) (g_gains : (Nat → Int32)) (g_seed : Int32) (v1 : Int32) (v2 : Int32) (v3 : Int32) (r0 : Int32) (w_g_mind : BT) (w_g_refusals : (Nat → Int32)) (w_g_gains : (Nat → Int32)) (h : zf_X1_two g_now g_mind g_refusals g_gains v1 v2 v3 = some (r0, w_g_mind, w_g_refusals, w_g_gains)) : Cn l D cI yX1_two wsX1_two rm_X1_two [.ref (ad 0), .int v1, .int v2, .int v3] (zb_G cI ad g_now g_mind g_taken g_isTaken g_letters g_letterCount g_told g_toldCount g_refusals g_costs g_gains g_seed) (some (.int r0)) (zb_G cI ad g_now w_g_mind g_taken g_isTaken g_letters g_letterCount g_told g_toldCount w_g_refusals g_costs w_g_gains g_seed) := by
  refine zb_ofW (cc := cX1_two) (maxL := 8) (ret := (some .int)) (by decide) rfl (Nat.le_of_ble_eq_true rfl) ?_
  intro p e s m args below meth c A ls hx hb hr hml hts hown hlk hK hP hD hA hl
  have hS : va_S A s.heap s.heap [] := va_S.rf
  have hl : lv_has ls 8 [(0, .ref (ad 0)), (1, .int v1), (2, .int v2), (3, .int v3)] := hl
  unfold zf_X1_two at h
  have j131 : ∀ (x1 : Int32) (x2 : BT) (x3 : (Nat → Int32)) (x4 : (Nat → Int32)) (H : Heap) (locs : List Loc) (hP : va_P D zb_cl (zb_G cI ad g_now x2 g_taken g_isTaken g_letters g_letterCount g_told g_toldCount x3 g_costs x4 g_seed) H) (hD : va_D A (zb_G cI ad g_now x2 g_taken g_isTaken g_letters g_letterCount g_told g_toldCount x3 g_costs x4 g_seed)) (hS : va_S A s.heap H locs) (ls : Array Slot) (hl : lv_has ls 8 [(5, .int x1)]) (h : zf_X1_two_j131 x1 x2 x3 x4 = some (r0, w_g_mind, w_g_refusals, w_g_gains)), W p l e rm_X1_two s m args below meth c H locs 0 0 (zb_Q below D (some (.int r0)) (zb_G cI ad g_now w_g_mind g_taken g_isTaken g_letters g_letterCount g_told g_toldCount w_g_refusals g_costs w_g_gains g_seed) A args s) (F0 m 131 ls []) := by
    intro x1 x2 x3 x4 H locs hP hD hS ls hl h
    unfold zf_X1_two_j131 at h
    refine lv_bipush (v := (10 : Int32)) hx hb dX1_two_131 (by decide) ?_
    refine lv_iload hx hb dX1_two_133 (lv_at hl 0 rfl) ?_
    refine lv_iconst (v := (1 : Int32)) hx hb dX1_two_135 (by decide) ?_
    refine lv_ishr hx hb dX1_two_136 ?_
    refine lv_imul hx hb dX1_two_137 ?_
    refine lv_iload hx hb dX1_two_138 (lv_at hl 0 rfl) ?_
    refine lv_iconst (v := (1 : Int32)) hx hb dX1_two_140 (by decide) ?_
    refine lv_iand hx hb dX1_two_141 ?_
    refine lv_iadd hx hb dX1_two_142 ?_
    obtain ⟨rfl, rfl, rfl, rfl⟩ := re4 h
    exact zb_iret hx hb hr hlk hP hS dX1_two_143
  refine lv_aload_n hx hb dX1_two_0 rfl (lv_at hl 0 rfl) ?_
  refine lv_iload_n hx hb dX1_two_1 rfl (lv_at hl 1 rfl) ?_
  refine lv_iload_n hx hb dX1_two_2 rfl (lv_at hl 2 rfl) ?_
  obtain ⟨r5, g6, h⟩ := bo1 h
  refine zb_callV (As := [.int v1, .int v2]) (rest := []) ⟨hx, hb, hml, hown, hts⟩ (zc_X1_areTwo l D cI ad g_now g_mind g_taken g_isTaken g_letters g_letterCount g_told g_toldCount g_refusals g_costs g_gains g_seed v1 v2 r5 g6) (cwV 2 hts gX1_two_X1_areTwo rfl rfl rfl hd_X1_areTwo ⟨Nat.le_of_ble_eq_true rfl, Nat.le_of_ble_eq_true rfl⟩) hK hP hD hS hA (zb_sG) (q0 := 0) rfl rfl rfl hl.1 rfl (Nat.le_of_ble_eq_true rfl) dX1_two_3 ⟨Nat.le_refl _, Nat.le_refl _⟩ (fun H locs hP hD hS => ?_)
  refine lv_if_ne (tgt := 15) hx hb dX1_two_6 (by decide) (fun c7 => ?_) (fun c7 => ?_)
  · replace h := it_f c7 h
    refine lv_iload_n hx hb dX1_two_15 rfl (lv_at hl 3 rfl) ?_
    refine lv_iconst (v := (0 : Int32)) hx hb dX1_two_16 (by decide) ?_
    refine lv_bipush (v := (30 : Int32)) hx hb dX1_two_17 (by decide) ?_
    obtain ⟨r8, g9, h⟩ := bo1 h
    refine zb_callS (As := [.int v3, .int (0 : Int32), .int (30 : Int32)]) (rest := []) ⟨hx, hb, hml, hown, hts⟩ (zc_X1_outside l D cI v3 (0 : Int32) (30 : Int32) r8 g9) (va_cwS 3 hts gX1_two_X1_outside rfl rfl rfl hd_X1_outside.2 ⟨Nat.le_of_ble_eq_true rfl, Nat.le_of_ble_eq_true rfl⟩) hK hP hD hS hA (zb_none _) rfl hl.1 rfl (Nat.le_of_ble_eq_true rfl) dX1_two_19 ⟨Nat.le_refl _, Nat.le_refl _⟩ (fun H locs hP hD hS => ?_)
    refine lv_istore (lv' := [(4, .int r8), (0, .ref (ad 0)), (1, .int v1), (2, .int v2), (3, .int v3)]) hx hb dX1_two_22 hl (by decide) rfl (fun ls hl => ?_)
    refine lv_iload hx hb dX1_two_24 (lv_at hl 0 rfl) ?_
    refine lv_if_eq (tgt := 36) hx hb dX1_two_26 (by decide) (fun c10 => ?_) (fun c10 => ?_)
    · replace h := it_t c10 h
      refine lv_iconst (v := (0 : Int32)) hx hb dX1_two_36 (by decide) ?_
      refine lv_istore (lv' := [(5, .int (0 : Int32)), (4, .int r8), (0, .ref (ad 0)), (1, .int v1), (2, .int v2), (3, .int v3)]) hx hb dX1_two_37 hl (by decide) rfl (fun ls hl => ?_)
      have lp14 : ∀ (fu14 : Nat) (x11 : Int32) (x12 : BT) (x13 : (Nat → Int32)) (H : Heap) (locs : List Loc) (hP : va_P D zb_cl (zb_G cI ad g_now x12 g_taken g_isTaken g_letters g_letterCount g_told g_toldCount g_refusals g_costs x13 g_seed) H) (hD : va_D A (zb_G cI ad g_now x12 g_taken g_isTaken g_letters g_letterCount g_told g_toldCount g_refusals g_costs x13 g_seed)) (hS : va_S A s.heap H locs) (ls : Array Slot) (hl : lv_has ls 8 [(0, .ref (ad 0)), (1, .int v1), (2, .int v2), (3, .int v3), (5, .int x11)]) (h : zl3 (zf_X1_two_b39 v1 v2 v3 g_now g_refusals) fu14 x11 x12 x13 = some (r0, w_g_mind, w_g_refusals, w_g_gains)), W p l e rm_X1_two s m args below meth c H locs 0 0 (zb_Q below D (some (.int r0)) (zb_G cI ad g_now w_g_mind g_taken g_isTaken g_letters g_letterCount g_told g_toldCount w_g_refusals g_costs w_g_gains g_seed) A args s) (F0 m 39 ls []) := by
        intro fu14
        induction fu14 with
        | zero => intro x11 x12 x13 H locs hP hD hS ls hl h; exact zb_no h
        | succ fu14 ih14 =>
          intro x11 x12 x13 H locs hP hD hS ls hl h
          replace h : zf_X1_two_b39 v1 v2 v3 g_now g_refusals (zl3 (zf_X1_two_b39 v1 v2 v3 g_now g_refusals) fu14) x11 x12 x13 = some (r0, w_g_mind, w_g_refusals, w_g_gains) := h
          unfold zf_X1_two_b39 at h
          refine lv_iload hx hb dX1_two_39 (lv_at hl 4 rfl) ?_
          refine lv_iconst (v := (4 : Int32)) hx hb dX1_two_41 (by decide) ?_
          refine lv_icmp_ge (tgt := 60) hx hb dX1_two_42 (by decide) (fun c15 => ?_) (fun c15 => ?_)
          · replace h := it_t c15 h
            refine lv_iconst (v := (0 : Int32)) hx hb dX1_two_60 (by decide) ?_
            refine lv_istore (lv' := [(5, .int (0 : Int32)), (0, .ref (ad 0)), (1, .int v1), (2, .int v2), (3, .int v3)]) hx hb dX1_two_61 hl (by decide) rfl (fun ls hl => ?_)
            have lp17 : ∀ (fu17 : Nat) (x16 : Int32) (H : Heap) (locs : List Loc) (hP : va_P D zb_cl (zb_G cI ad g_now x12 g_taken g_isTaken g_letters g_letterCount g_told g_toldCount g_refusals g_costs x13 g_seed) H) (hD : va_D A (zb_G cI ad g_now x12 g_taken g_isTaken g_letters g_letterCount g_told g_toldCount g_refusals g_costs x13 g_seed)) (hS : va_S A s.heap H locs) (ls : Array Slot) (hl : lv_has ls 8 [(0, .ref (ad 0)), (5, .int x16)]) (h : zl1 (zf_X1_two_b63 x12 g_refusals x13) fu17 x16 = some (r0, w_g_mind, w_g_refusals, w_g_gains)), W p l e rm_X1_two s m args below meth c H locs 0 0 (zb_Q below D (some (.int r0)) (zb_G cI ad g_now w_g_mind g_taken g_isTaken g_letters g_letterCount g_told g_toldCount w_g_refusals g_costs w_g_gains g_seed) A args s) (F0 m 63 ls []) := by
              intro fu17
              induction fu17 with
              | zero => intro x16 H locs hP hD hS ls hl h; exact zb_no h
              | succ fu17 ih17 =>
                intro x16 H locs hP hD hS ls hl h
                replace h : zf_X1_two_b63 x12 g_refusals x13 (zl1 (zf_X1_two_b63 x12 g_refusals x13) fu17) x16 = some (r0, w_g_mind, w_g_refusals, w_g_gains) := h
                unfold zf_X1_two_b63 at h
                have j93 : ∀ (x18 : Int32) (x19 : Int32) (H : Heap) (locs : List Loc) (hP : va_P D zb_cl (zb_G cI ad g_now x12 g_taken g_isTaken g_letters g_letterCount g_told g_toldCount g_refusals g_costs x13 g_seed) H) (hD : va_D A (zb_G cI ad g_now x12 g_taken g_isTaken g_letters g_letterCount g_told g_toldCount g_refusals g_costs x13 g_seed)) (hS : va_S A s.heap H locs) (ls : Array Slot) (hl : lv_has ls 8 [(0, .ref (ad 0)), (5, .int x18)]) (h : zf_X1_two_j93 (zl1 (zf_X1_two_b63 x12 g_refusals x13) fu17) x18 x19 x12 g_refusals x13 = some (r0, w_g_mind, w_g_refusals, w_g_gains)), W p l e rm_X1_two s m args below meth c H locs 0 0 (zb_Q below D (some (.int r0)) (zb_G cI ad g_now w_g_mind g_taken g_isTaken g_letters g_letterCount g_told g_toldCount w_g_refusals g_costs w_g_gains g_seed) A args s) (F0 m 93 ls [.int x19]) := by
                  intro x18 x19 H locs hP hD hS ls hl h
                  unfold zf_X1_two_j93 at h
                  refine lv_istore (lv' := [(6, .int x19), (0, .ref (ad 0)), (5, .int x18)]) hx hb dX1_two_93 hl (by decide) rfl (fun ls hl => ?_)
                  refine lv_aload_n hx hb dX1_two_95 rfl (lv_at hl 1 rfl) ?_
                  refine lv_iload hx hb dX1_two_96 (lv_at hl 2 rfl) ?_
                  refine lv_iconst (v := (1 : Int32)) hx hb dX1_two_98 (by decide) ?_
                  obtain ⟨r20, g21, h⟩ := bo1 h
                  refine zb_callV (As := [.int x18, .int (1 : Int32)]) (rest := []) ⟨hx, hb, hml, hown, hts⟩ (zc_X1_gainOf l D cI ad g_now x12 g_taken g_isTaken g_letters g_letterCount g_told g_toldCount g_refusals g_costs x13 g_seed x18 (1 : Int32) r20 g21) (cwV 2 hts gX1_two_X1_gainOf rfl rfl rfl hd_X1_gainOf ⟨Nat.le_of_ble_eq_true rfl, Nat.le_of_ble_eq_true rfl⟩) hK hP hD hS hA (zb_sG) (q0 := 0) rfl rfl rfl hl.1 rfl (Nat.le_of_ble_eq_true rfl) dX1_two_99 ⟨Nat.le_refl _, Nat.le_refl _⟩ (fun H locs hP hD hS => ?_)
                  refine lv_aload_n hx hb dX1_two_102 rfl (lv_at hl 1 rfl) ?_
                  refine lv_iload hx hb dX1_two_103 (lv_at hl 2 rfl) ?_
                  refine lv_iconst (v := (1 : Int32)) hx hb dX1_two_105 (by decide) ?_
                  refine lv_ixor hx hb dX1_two_106 ?_
                  refine lv_iconst (v := (1 : Int32)) hx hb dX1_two_107 (by decide) ?_
                  obtain ⟨r22, g23, h⟩ := bo1 h
                  refine zb_callV (As := [.int (x18 ^^^ (1 : Int32)), .int (1 : Int32)]) (rest := [.int r20]) ⟨hx, hb, hml, hown, hts⟩ (zc_X1_gainOf l D cI ad g_now x12 g_taken g_isTaken g_letters g_letterCount g_told g_toldCount g_refusals g_costs x13 g_seed (x18 ^^^ (1 : Int32)) (1 : Int32) r22 g23) (cwV 2 hts gX1_two_X1_gainOf rfl rfl rfl hd_X1_gainOf ⟨Nat.le_of_ble_eq_true rfl, Nat.le_of_ble_eq_true rfl⟩) hK hP hD hS hA (zb_sG) (q0 := 0) rfl rfl rfl hl.1 rfl (Nat.le_of_ble_eq_true rfl) dX1_two_108 ⟨Nat.le_refl _, Nat.le_refl _⟩ (fun H locs hP hD hS => ?_)
                  refine lv_icmp_lt (tgt := 118) hx hb dX1_two_111 (by decide) (fun c24 => ?_) (fun c24 => ?_)
                  · replace h := it_t c24 h
                    refine lv_iconst (v := (0 : Int32)) hx hb dX1_two_118 (by decide) ?_
                    refine lv_istore (lv' := [(7, .int (0 : Int32)), (6, .int x19), (0, .ref (ad 0)), (5, .int x18)]) hx hb dX1_two_119 hl (by decide) rfl (fun ls hl => ?_)
                    refine lv_iload hx hb dX1_two_121 (lv_at hl 1 rfl) ?_
                    refine lv_if_eq (tgt := 144) hx hb dX1_two_123 (by decide) (fun c25 => ?_) (fun c25 => ?_)
                    · replace h := it_t c25 h
                      refine lv_iinc (v := (x18 + (1 : Int32))) (lv' := [(5, .int (x18 + (1 : Int32))), (7, .int (0 : Int32)), (6, .int x19), (0, .ref (ad 0))]) hx hb dX1_two_144 hl (k := 3) rfl (by first | rfl | decide) (by decide) rfl (fun ls hl => ?_)
                      refine lv_goto (tgt := 63) hx hb dX1_two_147 (by decide) ?_
                      exact ih17 (x18 + (1 : Int32)) _ _ hP hD hS ls (lv_sub hl [3, 0] rfl) h
                    · replace h := it_f c25 h
                      refine lv_iload hx hb dX1_two_126 (lv_at hl 0 rfl) ?_
                      refine lv_if_eq (tgt := 144) hx hb dX1_two_128 (by decide) (fun _ => ?_) (fun c26 => absurd c26 (by decide))
                      refine lv_iinc (v := (x18 + (1 : Int32))) (lv' := [(5, .int (x18 + (1 : Int32))), (7, .int (0 : Int32)), (6, .int x19), (0, .ref (ad 0))]) hx hb dX1_two_144 hl (k := 3) rfl (by first | rfl | decide) (by decide) rfl (fun ls hl => ?_)
                      refine lv_goto (tgt := 63) hx hb dX1_two_147 (by decide) ?_
                      exact ih17 (x18 + (1 : Int32)) _ _ hP hD hS ls (lv_sub hl [3, 0] rfl) h
                  · replace h := it_f c24 h
                    refine lv_iconst (v := (1 : Int32)) hx hb dX1_two_114 (by decide) ?_
                    refine lv_goto (tgt := 119) hx hb dX1_two_115 (by decide) ?_
                    refine lv_istore (lv' := [(7, .int (1 : Int32)), (6, .int x19), (0, .ref (ad 0)), (5, .int x18)]) hx hb dX1_two_119 hl (by decide) rfl (fun ls hl => ?_)
                    refine lv_iload hx hb dX1_two_121 (lv_at hl 1 rfl) ?_
                    refine lv_if_eq (tgt := 144) hx hb dX1_two_123 (by decide) (fun c27 => ?_) (fun c27 => ?_)
                    · replace h := it_t c27 h
                      refine lv_iinc (v := (x18 + (1 : Int32))) (lv' := [(5, .int (x18 + (1 : Int32))), (7, .int (1 : Int32)), (6, .int x19), (0, .ref (ad 0))]) hx hb dX1_two_144 hl (k := 3) rfl (by first | rfl | decide) (by decide) rfl (fun ls hl => ?_)
                      refine lv_goto (tgt := 63) hx hb dX1_two_147 (by decide) ?_
                      exact ih17 (x18 + (1 : Int32)) _ _ hP hD hS ls (lv_sub hl [3, 0] rfl) h
                    · replace h := it_f c27 h
                      refine lv_iload hx hb dX1_two_126 (lv_at hl 0 rfl) ?_
                      refine lv_if_eq (tgt := 144) hx hb dX1_two_128 (by decide) (fun c28 => absurd c28 (by decide)) (fun _ => ?_)
                      exact j131 x18 x12 g_refusals x13 _ _ hP hD hS ls (lv_sub hl [3] rfl) h
                refine lv_iload hx hb dX1_two_63 (lv_at hl 1 rfl) ?_
                refine lv_iconst (v := (4 : Int32)) hx hb dX1_two_65 (by decide) ?_
                refine lv_icmp_ge (tgt := 150) hx hb dX1_two_66 (by decide) (fun c29 => ?_) (fun c29 => ?_)
                · replace h := it_t c29 h
                  refine lv_bipush (v := ((-9) : Int32)) hx hb dX1_two_150 (by decide) ?_
                  obtain ⟨rfl, rfl, rfl, rfl⟩ := re4 h
                  exact zb_iret hx hb hr hlk hP hS dX1_two_152
                · replace h := it_f c29 h
                  refine lv_aload_n hx hb dX1_two_69 rfl (lv_at hl 0 rfl) ?_
                  refine lv_iload hx hb dX1_two_70 (lv_at hl 1 rfl) ?_
                  refine lv_iconst (v := (0 : Int32)) hx hb dX1_two_72 (by decide) ?_
                  obtain ⟨r30, g31, h⟩ := bo1 h
                  refine zb_callV (As := [.int x16, .int (0 : Int32)]) (rest := []) ⟨hx, hb, hml, hown, hts⟩ (zc_X1_gainOf l D cI ad g_now x12 g_taken g_isTaken g_letters g_letterCount g_told g_toldCount g_refusals g_costs x13 g_seed x16 (0 : Int32) r30 g31) (cwV 2 hts gX1_two_X1_gainOf rfl rfl rfl hd_X1_gainOf ⟨Nat.le_of_ble_eq_true rfl, Nat.le_of_ble_eq_true rfl⟩) hK hP hD hS hA (zb_sG) (q0 := 0) rfl rfl rfl hl.1 rfl (Nat.le_of_ble_eq_true rfl) dX1_two_73 ⟨Nat.le_refl _, Nat.le_refl _⟩ (fun H locs hP hD hS => ?_)
                  refine lv_aload_n hx hb dX1_two_76 rfl (lv_at hl 0 rfl) ?_
                  refine lv_iload hx hb dX1_two_77 (lv_at hl 1 rfl) ?_
                  refine lv_iconst (v := (2 : Int32)) hx hb dX1_two_79 (by decide) ?_
                  refine lv_ixor hx hb dX1_two_80 ?_
                  refine lv_iconst (v := (0 : Int32)) hx hb dX1_two_81 (by decide) ?_
                  obtain ⟨r32, g33, h⟩ := bo1 h
                  refine zb_callV (As := [.int (x16 ^^^ (2 : Int32)), .int (0 : Int32)]) (rest := [.int r30]) ⟨hx, hb, hml, hown, hts⟩ (zc_X1_gainOf l D cI ad g_now x12 g_taken g_isTaken g_letters g_letterCount g_told g_toldCount g_refusals g_costs x13 g_seed (x16 ^^^ (2 : Int32)) (0 : Int32) r32 g33) (cwV 2 hts gX1_two_X1_gainOf rfl rfl rfl hd_X1_gainOf ⟨Nat.le_of_ble_eq_true rfl, Nat.le_of_ble_eq_true rfl⟩) hK hP hD hS hA (zb_sG) (q0 := 0) rfl rfl rfl hl.1 rfl (Nat.le_of_ble_eq_true rfl) dX1_two_82 ⟨Nat.le_refl _, Nat.le_refl _⟩ (fun H locs hP hD hS => ?_)
                  refine lv_icmp_lt (tgt := 92) hx hb dX1_two_85 (by decide) (fun c34 => ?_) (fun c34 => ?_)
                  · replace h := it_t c34 h
                    refine lv_iconst (v := (0 : Int32)) hx hb dX1_two_92 (by decide) ?_
                    exact j93 x16 (0 : Int32) _ _ hP hD hS ls (lv_sub hl [0, 1] rfl) h
                  · replace h := it_f c34 h
                    refine lv_iconst (v := (1 : Int32)) hx hb dX1_two_88 (by decide) ?_
                    refine lv_goto (tgt := 93) hx hb dX1_two_89 (by decide) ?_
                    exact j93 x16 (1 : Int32) _ _ hP hD hS ls (lv_sub hl [0, 1] rfl) h
            exact lp17 zb_FU (0 : Int32) _ _ hP hD hS ls (lv_sub hl [1, 0] rfl) h
          · replace h := it_f c15 h
            refine lv_aload_n hx hb dX1_two_45 rfl (lv_at hl 0 rfl) ?_
            refine lv_iload hx hb dX1_two_46 (lv_at hl 4 rfl) ?_
            refine lv_iload_n hx hb dX1_two_48 rfl (lv_at hl 1 rfl) ?_
            refine lv_iload_n hx hb dX1_two_49 rfl (lv_at hl 2 rfl) ?_
            refine lv_iload_n hx hb dX1_two_50 rfl (lv_at hl 3 rfl) ?_
            obtain ⟨n35, n36, g37, h⟩ := bo2 h
            refine zb_callV (As := [.int x11, .int v1, .int v2, .int v3]) (rest := []) ⟨hx, hb, hml, hown, hts⟩ (zc_X1_reckonGains l D cI ad g_now x12 g_taken g_isTaken g_letters g_letterCount g_told g_toldCount g_refusals g_costs x13 g_seed x11 v1 v2 v3 n35 n36 g37) (cwV 4 hts gX1_two_X1_reckonGains rfl rfl rfl hd_X1_reckonGains ⟨Nat.le_of_ble_eq_true rfl, Nat.le_of_ble_eq_true rfl⟩) hK hP hD hS hA (zb_sG) (q0 := 0) rfl rfl rfl hl.1 rfl (Nat.le_of_ble_eq_true rfl) dX1_two_51 ⟨Nat.le_refl _, Nat.le_refl _⟩ (fun H locs hP hD hS => ?_)
            refine lv_iinc (v := (x11 + (1 : Int32))) (lv' := [(5, .int (x11 + (1 : Int32))), (0, .ref (ad 0)), (1, .int v1), (2, .int v2), (3, .int v3)]) hx hb dX1_two_54 hl (k := 4) rfl (by first | rfl | decide) (by decide) rfl (fun ls hl => ?_)
            refine lv_goto (tgt := 39) hx hb dX1_two_57 (by decide) ?_
            exact ih14 (x11 + (1 : Int32)) n35 n36 _ _ hP hD hS ls (lv_sub hl [1, 2, 3, 4, 0] rfl) h
      exact lp14 zb_FU (0 : Int32) g_mind g_gains _ _ hP hD hS ls (lv_sub hl [2, 3, 4, 5, 0] rfl) h
    · replace h := it_f c10 h
      refine lv_aload_n hx hb dX1_two_29 rfl (lv_at hl 1 rfl) ?_
      refine lv_iload hx hb dX1_two_30 (lv_at hl 0 rfl) ?_
      obtain ⟨r38, n39, g40, h⟩ := bo2 h
      refine zb_callV (As := [.int r8]) (rest := []) ⟨hx, hb, hml, hown, hts⟩ (zc_X1_refuse l D cI ad g_now g_mind g_taken g_isTaken g_letters g_letterCount g_told g_toldCount g_refusals g_costs g_gains g_seed r8 r38 n39 g40) (cwV 1 hts gX1_two_X1_refuse rfl rfl rfl hd_X1_refuse ⟨Nat.le_of_ble_eq_true rfl, Nat.le_of_ble_eq_true rfl⟩) hK hP hD hS hA (zb_sG) (q0 := 0) rfl rfl rfl hl.1 rfl (Nat.le_of_ble_eq_true rfl) dX1_two_32 ⟨Nat.le_refl _, Nat.le_refl _⟩ (fun H locs hP hD hS => ?_)
      obtain ⟨rfl, rfl, rfl, rfl⟩ := re4 h
      exact zb_iret hx hb hr hlk hP hS dX1_two_35
  · replace h := it_t c7 h
    refine lv_aload_n hx hb dX1_two_9 rfl (lv_at hl 0 rfl) ?_
    refine lv_iconst (v := ((-1) : Int32)) hx hb dX1_two_10 (by decide) ?_
    obtain ⟨r41, n42, g43, h⟩ := bo2 h
    refine zb_callV (As := [.int ((-1) : Int32)]) (rest := []) ⟨hx, hb, hml, hown, hts⟩ (zc_X1_refuse l D cI ad g_now g_mind g_taken g_isTaken g_letters g_letterCount g_told g_toldCount g_refusals g_costs g_gains g_seed ((-1) : Int32) r41 n42 g43) (cwV 1 hts gX1_two_X1_refuse rfl rfl rfl hd_X1_refuse ⟨Nat.le_of_ble_eq_true rfl, Nat.le_of_ble_eq_true rfl⟩) hK hP hD hS hA (zb_sG) (q0 := 0) rfl rfl rfl hl.1 rfl (Nat.le_of_ble_eq_true rfl) dX1_two_11 ⟨Nat.le_refl _, Nat.le_refl _⟩ (fun H locs hP hD hS => ?_)
    obtain ⟨rfl, rfl, rfl, rfl⟩ := re4 h
    exact zb_iret hx hb hr hlk hP hS dX1_two_14
abbrev rm_X1_commonDivisor : Room := { frames := 0, cells := 0, slots := 0, locals := 0 }
theorem hd_X1_commonDivisor : yX1_commonDivisor.cls = RX1 ∧ yX1_commonDivisor.cls ≠ "java/lang/invoke/MethodHandle" ∧ yX1_commonDivisor.cls ≠ "java/lang/invoke/VarHandle" ∧ (parseMethodDescriptor yX1_commonDivisor.desc).map (fun d => d.parameters.length) = some 2 := by decide +kernel
set_option maxHeartbeats 4000000 in
set_option maxRecDepth 100000 in
theorem zc_X1_commonDivisor (l : Launch) (D : va_G) (cI : ClassId)  (v0 : Int64) (v2 : Int64) (r0 : Int64) (h : zf_X1_commonDivisor v0 v2 = some r0) : Cn l D cI yX1_commonDivisor wsX1_commonDivisor rm_X1_commonDivisor [.long v0, .long v2] ([]) (some (.long r0)) ([]) := by
  refine zb_ofW (cc := cX1_commonDivisor) (maxL := 11) (ret := (some .long)) (by decide) rfl (Nat.le_of_ble_eq_true rfl) ?_
  intro p e s m args below meth c A ls hx hb hr hml hts hown hlk hK hP hD hA hl
  have hS : va_S A s.heap s.heap [] := va_S.rf
  have hl : lv_has ls 11 [(0, .long v0), (2, .long v2)] := hl
  unfold zf_X1_commonDivisor at h
  refine lv_lload_n hx hb dX1_commonDivisor_0 rfl (lv_at hl 0 rfl) ?_
  refine lv_lstore (lv' := [(4, .long v0), (0, .long v0), (2, .long v2)]) hx hb dX1_commonDivisor_1 hl (by decide) rfl (fun ls hl => ?_)
  refine lv_lload_n hx hb dX1_commonDivisor_3 rfl (lv_at hl 2 rfl) ?_
  refine lv_lstore (lv' := [(6, .long v2), (4, .long v0), (0, .long v0), (2, .long v2)]) hx hb dX1_commonDivisor_4 hl (by decide) rfl (fun ls hl => ?_)
  refine lv_iconst (v := (0 : Int32)) hx hb dX1_commonDivisor_6 (by decide) ?_
  refine lv_istore (lv' := [(8, .int (0 : Int32)), (6, .long v2), (4, .long v0), (0, .long v0), (2, .long v2)]) hx hb dX1_commonDivisor_7 hl (by decide) rfl (fun ls hl => ?_)
  have lp4 : ∀ (fu4 : Nat) (x1 : Int64) (x2 : Int64) (x3 : Int32) (H : Heap) (locs : List Loc) (hP : va_P D zb_cl ([]) H) (hD : va_D A ([])) (hS : va_S A s.heap H locs) (ls : Array Slot) (hl : lv_has ls 11 [(4, .long x1), (6, .long x2), (8, .int x3)]) (h : zl3 zf_X1_commonDivisor_b9 fu4 x1 x2 x3 = some r0), W p l e rm_X1_commonDivisor s m args below meth c H locs 0 0 (zb_Q below D (some (.long r0)) ([]) A args s) (F0 m 9 ls []) := by
    intro fu4
    induction fu4 with
    | zero => intro x1 x2 x3 H locs hP hD hS ls hl h; exact zb_no h
    | succ fu4 ih4 =>
      intro x1 x2 x3 H locs hP hD hS ls hl h
      replace h : zf_X1_commonDivisor_b9  (zl3 zf_X1_commonDivisor_b9 fu4) x1 x2 x3 = some r0 := h
      unfold zf_X1_commonDivisor_b9 at h
      refine lv_iload hx hb dX1_commonDivisor_9 (lv_at hl 2 rfl) ?_
      refine lv_sipush (v := (200 : Int32)) hx hb dX1_commonDivisor_11 (by decide) ?_
      refine lv_icmp_ge (tgt := 45) hx hb dX1_commonDivisor_14 (by decide) (fun c5 => ?_) (fun c5 => ?_)
      · replace h := it_t c5 h
        refine lv_lload hx hb dX1_commonDivisor_45 (lv_at hl 0 rfl) ?_
        obtain rfl := re1 h
        exact zb_lret hx hb hr hlk hP hS dX1_commonDivisor_47
      · replace h := it_f c5 h
        refine lv_lload hx hb dX1_commonDivisor_17 (lv_at hl 1 rfl) ?_
        refine lv_lconst (v := (0 : Int64)) hx hb dX1_commonDivisor_19 (by decide) ?_
        refine W.lcmp hx hb dX1_commonDivisor_20 ?_
        refine lv_if_eq (tgt := 45) hx hb dX1_commonDivisor_21 (by decide) (fun c6 => ?_) (fun c6 => ?_)
        · replace h := it_t c6 h
          refine lv_lload hx hb dX1_commonDivisor_45 (lv_at hl 0 rfl) ?_
          obtain rfl := re1 h
          exact zb_lret hx hb hr hlk hP hS dX1_commonDivisor_47
        · replace h := it_f c6 h
          refine lv_lload hx hb dX1_commonDivisor_24 (lv_at hl 0 rfl) ?_
          refine lv_lload hx hb dX1_commonDivisor_26 (lv_at hl 1 rfl) ?_
          obtain ⟨h7, h⟩ := it_n h
          refine lv_lrem hx hb dX1_commonDivisor_28 h7 ?_
          refine lv_lstore (lv' := [(9, .long (jrL x1 x2)), (4, .long x1), (6, .long x2), (8, .int x3)]) hx hb dX1_commonDivisor_29 hl (by decide) rfl (fun ls hl => ?_)
          refine lv_lload hx hb dX1_commonDivisor_31 (lv_at hl 2 rfl) ?_
          refine lv_lstore (lv' := [(4, .long x2), (9, .long (jrL x1 x2)), (6, .long x2), (8, .int x3)]) hx hb dX1_commonDivisor_33 hl (by decide) rfl (fun ls hl => ?_)
          refine lv_lload hx hb dX1_commonDivisor_35 (lv_at hl 1 rfl) ?_
          refine lv_lstore (lv' := [(6, .long (jrL x1 x2)), (4, .long x2), (9, .long (jrL x1 x2)), (8, .int x3)]) hx hb dX1_commonDivisor_37 hl (by decide) rfl (fun ls hl => ?_)
          refine lv_iinc (v := (x3 + (1 : Int32))) (lv' := [(8, .int (x3 + (1 : Int32))), (6, .long (jrL x1 x2)), (4, .long x2), (9, .long (jrL x1 x2))]) hx hb dX1_commonDivisor_39 hl (k := 3) rfl (by first | rfl | decide) (by decide) rfl (fun ls hl => ?_)
          refine lv_goto (tgt := 9) hx hb dX1_commonDivisor_42 (by decide) ?_
          exact ih4 x2 (jrL x1 x2) (x3 + (1 : Int32)) _ _ hP hD hS ls (lv_sub hl [2, 1, 0] rfl) h
  exact lp4 zb_FU v0 v2 (0 : Int32) _ _ hP hD hS ls (lv_sub hl [2, 1, 0] rfl) h
abbrev rm_X1_partOf : Room := { frames := 1, cells := 0, slots := 0, locals := 30 }
theorem hd_X1_partOf : yX1_partOf.cls = RX1 ∧ yX1_partOf.cls ≠ "java/lang/invoke/MethodHandle" ∧ yX1_partOf.cls ≠ "java/lang/invoke/VarHandle" ∧ (parseMethodDescriptor yX1_partOf.desc).map (fun d => d.parameters.length) = some 3 := by decide +kernel
set_option maxHeartbeats 4000000 in
set_option maxRecDepth 100000 in
theorem zc_X1_partOf (l : Launch) (D : va_G) (cI : ClassId)  (v0 : Int64) (v2 : Int64) (v4 : Int32) (r0 : Int64) (h : zf_X1_partOf v0 v2 v4 = some r0) : Cn l D cI yX1_partOf wsX1_partOf rm_X1_partOf [.long v0, .long v2, .int v4] ([]) (some (.long r0)) ([]) := by
  refine zb_ofW (cc := cX1_partOf) (maxL := 7) (ret := (some .long)) (by decide) rfl (Nat.le_of_ble_eq_true rfl) ?_
  intro p e s m args below meth c A ls hx hb hr hml hts hown hlk hK hP hD hA hl
  have hS : va_S A s.heap s.heap [] := va_S.rf
  have hl : lv_has ls 7 [(0, .long v0), (2, .long v2), (4, .int v4)] := hl
  unfold zf_X1_partOf at h
  refine lv_lload_n hx hb dX1_partOf_0 rfl (lv_at hl 0 rfl) ?_
  refine lv_lload_n hx hb dX1_partOf_1 rfl (lv_at hl 1 rfl) ?_
  obtain ⟨r1, g2, h⟩ := bo1 h
  refine zb_callS (As := [.long v0, .long v2]) (rest := []) ⟨hx, hb, hml, hown, hts⟩ (zc_X1_commonDivisor l D cI v0 v2 r1 g2) (va_cwS 2 hts gX1_partOf_X1_commonDivisor rfl rfl rfl hd_X1_commonDivisor.2 ⟨Nat.le_of_ble_eq_true rfl, Nat.le_of_ble_eq_true rfl⟩) hK hP hD hS hA (zb_none _) rfl hl.1 rfl (Nat.le_of_ble_eq_true rfl) dX1_partOf_2 ⟨Nat.le_refl _, Nat.le_refl _⟩ (fun H locs hP hD hS => ?_)
  refine lv_lstore (lv' := [(5, .long r1), (0, .long v0), (2, .long v2), (4, .int v4)]) hx hb dX1_partOf_5 hl (by decide) rfl (fun ls hl => ?_)
  refine lv_lload hx hb dX1_partOf_7 (lv_at hl 0 rfl) ?_
  refine lv_lconst (v := (0 : Int64)) hx hb dX1_partOf_9 (by decide) ?_
  refine W.lcmp hx hb dX1_partOf_10 ?_
  refine lv_if_ne (tgt := 16) hx hb dX1_partOf_11 (by decide) (fun c3 => ?_) (fun c3 => ?_)
  · replace h := it_f c3 h
    refine lv_iload hx hb dX1_partOf_16 (lv_at hl 3 rfl) ?_
    refine lv_if_ne (tgt := 28) hx hb dX1_partOf_18 (by decide) (fun c4 => ?_) (fun c4 => ?_)
    · replace h := it_f c4 h
      refine lv_lload_n hx hb dX1_partOf_28 rfl (lv_at hl 2 rfl) ?_
      refine lv_lload hx hb dX1_partOf_29 (lv_at hl 0 rfl) ?_
      obtain ⟨h5, h⟩ := it_n h
      refine lv_ldiv hx hb dX1_partOf_31 h5 ?_
      obtain rfl := re1 h
      exact zb_lret hx hb hr hlk hP hS dX1_partOf_32
    · replace h := it_t c4 h
      refine lv_lload_n hx hb dX1_partOf_21 rfl (lv_at hl 1 rfl) ?_
      refine lv_lload hx hb dX1_partOf_22 (lv_at hl 0 rfl) ?_
      obtain ⟨h6, h⟩ := it_n h
      refine lv_ldiv hx hb dX1_partOf_24 h6 ?_
      refine lv_goto (tgt := 32) hx hb dX1_partOf_25 (by decide) ?_
      obtain rfl := re1 h
      exact zb_lret hx hb hr hlk hP hS dX1_partOf_32
  · replace h := it_t c3 h
    refine lv_lconst (v := (0 : Int64)) hx hb dX1_partOf_14 (by decide) ?_
    obtain rfl := re1 h
    exact zb_lret hx hb hr hlk hP hS dX1_partOf_15
abbrev rm_X1_refuseLong : Room := { frames := 1, cells := 0, slots := 0, locals := 22 }
theorem hd_X1_refuseLong : yX1_refuseLong.cls = RX1 ∧ yX1_refuseLong.cls ≠ "java/lang/invoke/MethodHandle" ∧ yX1_refuseLong.cls ≠ "java/lang/invoke/VarHandle" ∧ (parseMethodDescriptor yX1_refuseLong.desc).map (fun d => d.parameters.length) = some 1 := by decide +kernel
theorem zk_X1_refuseLong_0 : Cond.constantLong RX1 223 (4000000000000000000) ∈ wsX1_refuseLong := by decide +kernel
set_option maxHeartbeats 4000000 in
set_option maxRecDepth 100000 in
theorem zc_X1_refuseLong (l : Launch) (D : va_G) (cI : ClassId) (ad : Nat → Nat) (g_now : BT) (g_mind : BT) (g_taken : BT) (g_isTaken : Int32) (g_letters : (Nat → Int32)) (g_letterCount : Int32) (g_told : (Nat → Int32)) (g_toldCount : Int32) (g_refusals : (Nat → Int32)) (g_costs : (Nat → Int32)) (g_gains : (Nat → Int32)) (g_seed : Int32) (v1 : Int32) (r0 : Int64) (w_g_refusals : (Nat → Int32)) (h : zf_X1_refuseLong g_refusals v1 = some (r0, w_g_refusals)) : Cn l D cI yX1_refuseLong wsX1_refuseLong rm_X1_refuseLong [.ref (ad 0), .int v1] (zb_G cI ad g_now g_mind g_taken g_isTaken g_letters g_letterCount g_told g_toldCount g_refusals g_costs g_gains g_seed) (some (.long r0)) (zb_G cI ad g_now g_mind g_taken g_isTaken g_letters g_letterCount g_told g_toldCount w_g_refusals g_costs g_gains g_seed) := by
  refine zb_ofW (cc := cX1_refuseLong) (maxL := 2) (ret := (some .long)) (by decide) rfl (Nat.le_of_ble_eq_true rfl) ?_
  intro p e s m args below meth c A ls hx hb hr hml hts hown hlk hK hP hD hA hl
  have hS : va_S A s.heap s.heap [] := va_S.rf
  have hl : lv_has ls 2 [(0, .ref (ad 0)), (1, .int v1)] := hl
  unfold zf_X1_refuseLong at h
  refine lv_ldc2 (v := (4000000000000000000 : Int64)) hx hb hown (hts _ zk_X1_refuseLong_0) dX1_refuseLong_0 ?_
  refine lv_aload_n hx hb dX1_refuseLong_3 rfl (lv_at hl 0 rfl) ?_
  refine lv_iload_n hx hb dX1_refuseLong_4 rfl (lv_at hl 1 rfl) ?_
  obtain ⟨r1, n2, g3, h⟩ := bo2 h
  refine zb_callV (As := [.int v1]) (rest := [.long (4000000000000000000 : Int64)]) ⟨hx, hb, hml, hown, hts⟩ (zc_X1_refuse l D cI ad g_now g_mind g_taken g_isTaken g_letters g_letterCount g_told g_toldCount g_refusals g_costs g_gains g_seed v1 r1 n2 g3) (cwV 1 hts gX1_refuseLong_X1_refuse rfl rfl rfl hd_X1_refuse ⟨Nat.le_of_ble_eq_true rfl, Nat.le_of_ble_eq_true rfl⟩) hK hP hD hS hA (zb_sG) (q0 := 0) rfl rfl rfl hl.1 rfl (Nat.le_of_ble_eq_true rfl) dX1_refuseLong_5 ⟨Nat.le_refl _, Nat.le_refl _⟩ (fun H locs hP hD hS => ?_)
  refine lv_i2l (v := r1.toInt64) hx hb dX1_refuseLong_8 rfl ?_
  refine lv_lsub hx hb dX1_refuseLong_9 ?_
  obtain ⟨rfl, rfl⟩ := re2 h
  exact zb_lret hx hb hr hlk hP hS dX1_refuseLong_10
abbrev rm_X1_weightInSteam : Room := { frames := 3, cells := 0, slots := 0, locals := 72 }
theorem hd_X1_weightInSteam : yX1_weightInSteam.cls = RX1 ∧ yX1_weightInSteam.cls ≠ "java/lang/invoke/MethodHandle" ∧ yX1_weightInSteam.cls ≠ "java/lang/invoke/VarHandle" ∧ (parseMethodDescriptor yX1_weightInSteam.desc).map (fun d => d.parameters.length) = some 3 := by decide +kernel
theorem zi_X1_weightInSteam_X1 : ∀ w ∈ wsX10, w ∈ wsX1_weightInSteam := fun _ h => List.mem_cons_of_mem _ (List.mem_append_left _ (List.mem_append_right _ h))
theorem zk_X1_weightInSteam_0 : Cond.fieldLink RX1 16 "GroutingIsFollowed" "mind" "LGroutingIsFollowed$Bath;" ∈ wsX1_weightInSteam := by decide +kernel
theorem zk_X1_weightInSteam_1 : Cond.fieldLink RX1 10 "GroutingIsFollowed" "now" "LGroutingIsFollowed$Bath;" ∈ wsX1_weightInSteam := by decide +kernel
set_option maxHeartbeats 4000000 in
set_option maxRecDepth 100000 in
theorem zc_X1_weightInSteam (l : Launch) (D : va_G) (cI : ClassId) (ad : Nat → Nat) (g_now : BT) (g_mind : BT) (g_taken : BT) (g_isTaken : Int32) (g_letters : (Nat → Int32)) (g_letterCount : Int32) (g_told : (Nat → Int32)) (g_toldCount : Int32) (g_refusals : (Nat → Int32)) (g_costs : (Nat → Int32)) (g_gains : (Nat → Int32)) (g_seed : Int32) (v1 : Int32) (v2 : Int32) (v3 : Int32) (r0 : Int64) (w_g_mind : BT) (h : zf_X1_weightInSteam g_now g_mind v1 v2 v3 = some (r0, w_g_mind)) : Cn l D cI yX1_weightInSteam wsX1_weightInSteam rm_X1_weightInSteam [.ref (ad 0), .int v1, .int v2, .int v3] (zb_G cI ad g_now g_mind g_taken g_isTaken g_letters g_letterCount g_told g_toldCount g_refusals g_costs g_gains g_seed) (some (.long r0)) (zb_G cI ad g_now w_g_mind g_taken g_isTaken g_letters g_letterCount g_told g_toldCount g_refusals g_costs g_gains g_seed) := by
  refine zb_ofW (cc := cX1_weightInSteam) (maxL := 8) (ret := (some .long)) (by decide) rfl (Nat.le_of_ble_eq_true rfl) ?_
  intro p e s m args below meth c A ls hx hb hr hml hts hown hlk hK hP hD hA hl
  have hS : va_S A s.heap s.heap [] := va_S.rf
  have hl : lv_has ls 8 [(0, .ref (ad 0)), (1, .int v1), (2, .int v2), (3, .int v3)] := hl
  unfold zf_X1_weightInSteam at h
  refine lv_aload_n hx hb dX1_weightInSteam_0 rfl (lv_at hl 0 rfl) ?_
  refine va_get (D := D) (ci := 1) (v := .ref (ad 8)) (C := RX1) (T := TX1) (N := 12) hx hb hts zi_X1_weightInSteam_X1 hown hK.1 hP 0 rfl rfl 1 (by decide) (hts _ zk_X1_weightInSteam_0) (fun _ h9 => h9) rfl dX1_weightInSteam_1 ?_
  refine lv_aload_n hx hb dX1_weightInSteam_4 rfl (lv_at hl 0 rfl) ?_
  refine va_get (D := D) (ci := 1) (v := .ref (ad 1)) (C := RX1) (T := TX1) (N := 12) hx hb hts zi_X1_weightInSteam_X1 hown hK.1 hP 0 rfl rfl 0 (by decide) (hts _ zk_X1_weightInSteam_1) (fun _ h9 => h9) rfl dX1_weightInSteam_5 ?_
  obtain ⟨n1, g2, h⟩ := bo1 h
  refine zb_callV (As := [.ref (ad 1)]) (rest := []) ⟨hx, hb, hml, hown, hts⟩ (zc_X0_becomes l D cI (ad 8) (ad 9) (ad 10) (ad 11) (ad 12) (ad 13) (ad 14) (ad 1) (ad 2) (ad 3) (ad 4) (ad 5) (ad 6) (ad 7) g_mind g_now n1 g2) (cwV 1 hts gX1_weightInSteam_X0_becomes rfl rfl rfl hd_X0_becomes ⟨Nat.le_of_ble_eq_true rfl, Nat.le_of_ble_eq_true rfl⟩) hK hP hD hS hA (zb_cGmn) (q0 := 0) rfl rfl rfl hl.1 rfl (Nat.le_of_ble_eq_true rfl) dX1_weightInSteam_8 ⟨Nat.le_refl _, Nat.le_refl _⟩ (fun H locs hP hD hS => ?_)
  refine lv_lconst (v := (1 : Int64)) hx hb dX1_weightInSteam_11 (by decide) ?_
  refine lv_lstore (lv' := [(4, .long (1 : Int64)), (0, .ref (ad 0)), (1, .int v1), (2, .int v2), (3, .int v3)]) hx hb dX1_weightInSteam_12 hl (by decide) rfl (fun ls hl => ?_)
  refine lv_iconst (v := (0 : Int32)) hx hb dX1_weightInSteam_14 (by decide) ?_
  refine lv_istore (lv' := [(6, .int (0 : Int32)), (4, .long (1 : Int64)), (0, .ref (ad 0)), (1, .int v1), (2, .int v2), (3, .int v3)]) hx hb dX1_weightInSteam_15 hl (by decide) rfl (fun ls hl => ?_)
  have lp6 : ∀ (fu6 : Nat) (x3 : Int64) (x4 : Int32) (x5 : BT) (H : Heap) (locs : List Loc) (hP : va_P D zb_cl (zb_G cI ad g_now x5 g_taken g_isTaken g_letters g_letterCount g_told g_toldCount g_refusals g_costs g_gains g_seed) H) (hD : va_D A (zb_G cI ad g_now x5 g_taken g_isTaken g_letters g_letterCount g_told g_toldCount g_refusals g_costs g_gains g_seed)) (hS : va_S A s.heap H locs) (ls : Array Slot) (hl : lv_has ls 8 [(0, .ref (ad 0)), (1, .int v1), (2, .int v2), (3, .int v3), (4, .long x3), (6, .int x4)]) (h : zl3 (zf_X1_weightInSteam_b17 v1 v2 v3) fu6 x3 x4 x5 = some (r0, w_g_mind)), W p l e rm_X1_weightInSteam s m args below meth c H locs 0 0 (zb_Q below D (some (.long r0)) (zb_G cI ad g_now w_g_mind g_taken g_isTaken g_letters g_letterCount g_told g_toldCount g_refusals g_costs g_gains g_seed) A args s) (F0 m 17 ls []) := by
    intro fu6
    induction fu6 with
    | zero => intro x3 x4 x5 H locs hP hD hS ls hl h; exact zb_no h
    | succ fu6 ih6 =>
      intro x3 x4 x5 H locs hP hD hS ls hl h
      replace h : zf_X1_weightInSteam_b17 v1 v2 v3 (zl3 (zf_X1_weightInSteam_b17 v1 v2 v3) fu6) x3 x4 x5 = some (r0, w_g_mind) := h
      unfold zf_X1_weightInSteam_b17 at h
      have j38 : ∀ (x7 : Int64) (x8 : Int32) (x9 : Int32) (x10 : BT) (H : Heap) (locs : List Loc) (hP : va_P D zb_cl (zb_G cI ad g_now x10 g_taken g_isTaken g_letters g_letterCount g_told g_toldCount g_refusals g_costs g_gains g_seed) H) (hD : va_D A (zb_G cI ad g_now x10 g_taken g_isTaken g_letters g_letterCount g_told g_toldCount g_refusals g_costs g_gains g_seed)) (hS : va_S A s.heap H locs) (ls : Array Slot) (hl : lv_has ls 8 [(0, .ref (ad 0)), (1, .int v1), (2, .int v2), (3, .int v3), (4, .long x7), (6, .int x8)]) (h : zf_X1_weightInSteam_j38 (zl3 (zf_X1_weightInSteam_b17 v1 v2 v3) fu6) v2 x7 x8 x9 x10 = some (r0, w_g_mind)), W p l e rm_X1_weightInSteam s m args below meth c H locs 0 0 (zb_Q below D (some (.long r0)) (zb_G cI ad g_now w_g_mind g_taken g_isTaken g_letters g_letterCount g_told g_toldCount g_refusals g_costs g_gains g_seed) A args s) (F0 m 38 ls [.int x9]) := by
        intro x7 x8 x9 x10 H locs hP hD hS ls hl h
        unfold zf_X1_weightInSteam_j38 at h
        refine lv_istore (lv' := [(7, .int x9), (0, .ref (ad 0)), (1, .int v1), (2, .int v2), (3, .int v3), (4, .long x7), (6, .int x8)]) hx hb dX1_weightInSteam_38 hl (by decide) rfl (fun ls hl => ?_)
        refine lv_aload_n hx hb dX1_weightInSteam_40 rfl (lv_at hl 1 rfl) ?_
        refine va_get (D := D) (ci := 1) (v := .ref (ad 8)) (C := RX1) (T := TX1) (N := 12) hx hb hts zi_X1_weightInSteam_X1 hown hK.1 hP 0 rfl rfl 1 (by decide) (hts _ zk_X1_weightInSteam_0) (fun _ h9 => h9) rfl dX1_weightInSteam_41 ?_
        refine lv_iconst (v := (1 : Int32)) hx hb dX1_weightInSteam_44 (by decide) ?_
        refine lv_iload hx hb dX1_weightInSteam_45 (lv_at hl 0 rfl) ?_
        refine lv_if_eq (tgt := 55) hx hb dX1_weightInSteam_47 (by decide) (fun c11 => ?_) (fun c11 => ?_)
        · replace h := it_t c11 h
          refine lv_iconst (v := (0 : Int32)) hx hb dX1_weightInSteam_55 (by decide) ?_
          obtain ⟨n12, g13, h⟩ := bo1 h
          refine zb_callV (As := [.int (1 : Int32), .int (0 : Int32)]) (rest := []) ⟨hx, hb, hml, hown, hts⟩ (zc_X0_goOn l D cI (ad 8) (ad 9) (ad 10) (ad 11) (ad 12) (ad 13) (ad 14) x10 (1 : Int32) (0 : Int32) n12 g13) (cwV 2 hts gX1_weightInSteam_X0_goOn rfl rfl rfl hd_X0_goOn ⟨Nat.le_of_ble_eq_true rfl, Nat.le_of_ble_eq_true rfl⟩) hK hP hD hS hA (zb_cGm) (q0 := 0) rfl rfl rfl hl.1 rfl (Nat.le_of_ble_eq_true rfl) dX1_weightInSteam_56 ⟨Nat.le_refl _, Nat.le_refl _⟩ (fun H locs hP hD hS => ?_)
          refine lv_iload hx hb dX1_weightInSteam_59 (lv_at hl 0 rfl) ?_
          refine lv_if_ne (tgt := 73) hx hb dX1_weightInSteam_61 (by decide) (fun c14 => ?_) (fun c14 => ?_)
          · replace h := it_f c14 h
            refine lv_iinc (v := (x8 + (1 : Int32))) (lv' := [(6, .int (x8 + (1 : Int32))), (7, .int x9), (0, .ref (ad 0)), (1, .int v1), (2, .int v2), (3, .int v3), (4, .long x7)]) hx hb dX1_weightInSteam_73 hl (k := 6) rfl (by first | rfl | decide) (by decide) rfl (fun ls hl => ?_)
            refine lv_goto (tgt := 17) hx hb dX1_weightInSteam_76 (by decide) ?_
            exact ih6 x7 (x8 + (1 : Int32)) n12 _ _ hP hD hS ls (lv_sub hl [2, 3, 4, 5, 6, 0] rfl) h
          · replace h := it_t c14 h
            refine lv_lload hx hb dX1_weightInSteam_64 (lv_at hl 5 rfl) ?_
            refine lv_iload_n hx hb dX1_weightInSteam_66 rfl (lv_at hl 3 rfl) ?_
            refine lv_iconst (v := (1 : Int32)) hx hb dX1_weightInSteam_67 (by decide) ?_
            refine lv_isub hx hb dX1_weightInSteam_68 ?_
            refine lv_i2l (v := (v2 - (1 : Int32)).toInt64) hx hb dX1_weightInSteam_69 rfl ?_
            refine lv_lmul hx hb dX1_weightInSteam_70 ?_
            refine lv_lstore (lv' := [(4, .long (x7 * (v2 - (1 : Int32)).toInt64)), (7, .int x9), (0, .ref (ad 0)), (1, .int v1), (2, .int v2), (3, .int v3), (6, .int x8)]) hx hb dX1_weightInSteam_71 hl (by decide) rfl (fun ls hl => ?_)
            refine lv_iinc (v := (x8 + (1 : Int32))) (lv' := [(6, .int (x8 + (1 : Int32))), (4, .long (x7 * (v2 - (1 : Int32)).toInt64)), (7, .int x9), (0, .ref (ad 0)), (1, .int v1), (2, .int v2), (3, .int v3)]) hx hb dX1_weightInSteam_73 hl (k := 6) rfl (by first | rfl | decide) (by decide) rfl (fun ls hl => ?_)
            refine lv_goto (tgt := 17) hx hb dX1_weightInSteam_76 (by decide) ?_
            exact ih6 (x7 * (v2 - (1 : Int32)).toInt64) (x8 + (1 : Int32)) n12 _ _ hP hD hS ls (lv_sub hl [3, 4, 5, 6, 1, 0] rfl) h
        · replace h := it_f c11 h
          refine lv_bipush (v := (15 : Int32)) hx hb dX1_weightInSteam_50 (by decide) ?_
          refine lv_goto (tgt := 56) hx hb dX1_weightInSteam_52 (by decide) ?_
          obtain ⟨n15, g16, h⟩ := bo1 h
          refine zb_callV (As := [.int (1 : Int32), .int (15 : Int32)]) (rest := []) ⟨hx, hb, hml, hown, hts⟩ (zc_X0_goOn l D cI (ad 8) (ad 9) (ad 10) (ad 11) (ad 12) (ad 13) (ad 14) x10 (1 : Int32) (15 : Int32) n15 g16) (cwV 2 hts gX1_weightInSteam_X0_goOn rfl rfl rfl hd_X0_goOn ⟨Nat.le_of_ble_eq_true rfl, Nat.le_of_ble_eq_true rfl⟩) hK hP hD hS hA (zb_cGm) (q0 := 0) rfl rfl rfl hl.1 rfl (Nat.le_of_ble_eq_true rfl) dX1_weightInSteam_56 ⟨Nat.le_refl _, Nat.le_refl _⟩ (fun H locs hP hD hS => ?_)
          refine lv_iload hx hb dX1_weightInSteam_59 (lv_at hl 0 rfl) ?_
          refine lv_if_ne (tgt := 73) hx hb dX1_weightInSteam_61 (by decide) (fun c17 => ?_) (fun c17 => ?_)
          · replace h := it_f c17 h
            refine lv_iinc (v := (x8 + (1 : Int32))) (lv' := [(6, .int (x8 + (1 : Int32))), (7, .int x9), (0, .ref (ad 0)), (1, .int v1), (2, .int v2), (3, .int v3), (4, .long x7)]) hx hb dX1_weightInSteam_73 hl (k := 6) rfl (by first | rfl | decide) (by decide) rfl (fun ls hl => ?_)
            refine lv_goto (tgt := 17) hx hb dX1_weightInSteam_76 (by decide) ?_
            exact ih6 x7 (x8 + (1 : Int32)) n15 _ _ hP hD hS ls (lv_sub hl [2, 3, 4, 5, 6, 0] rfl) h
          · replace h := it_t c17 h
            refine lv_lload hx hb dX1_weightInSteam_64 (lv_at hl 5 rfl) ?_
            refine lv_iload_n hx hb dX1_weightInSteam_66 rfl (lv_at hl 3 rfl) ?_
            refine lv_iconst (v := (1 : Int32)) hx hb dX1_weightInSteam_67 (by decide) ?_
            refine lv_isub hx hb dX1_weightInSteam_68 ?_
            refine lv_i2l (v := (v2 - (1 : Int32)).toInt64) hx hb dX1_weightInSteam_69 rfl ?_
            refine lv_lmul hx hb dX1_weightInSteam_70 ?_
            refine lv_lstore (lv' := [(4, .long (x7 * (v2 - (1 : Int32)).toInt64)), (7, .int x9), (0, .ref (ad 0)), (1, .int v1), (2, .int v2), (3, .int v3), (6, .int x8)]) hx hb dX1_weightInSteam_71 hl (by decide) rfl (fun ls hl => ?_)
            refine lv_iinc (v := (x8 + (1 : Int32))) (lv' := [(6, .int (x8 + (1 : Int32))), (4, .long (x7 * (v2 - (1 : Int32)).toInt64)), (7, .int x9), (0, .ref (ad 0)), (1, .int v1), (2, .int v2), (3, .int v3)]) hx hb dX1_weightInSteam_73 hl (k := 6) rfl (by first | rfl | decide) (by decide) rfl (fun ls hl => ?_)
            refine lv_goto (tgt := 17) hx hb dX1_weightInSteam_76 (by decide) ?_
            exact ih6 (x7 * (v2 - (1 : Int32)).toInt64) (x8 + (1 : Int32)) n15 _ _ hP hD hS ls (lv_sub hl [3, 4, 5, 6, 1, 0] rfl) h
      refine lv_iload hx hb dX1_weightInSteam_17 (lv_at hl 5 rfl) ?_
      refine lv_iload_n hx hb dX1_weightInSteam_19 rfl (lv_at hl 1 rfl) ?_
      refine lv_icmp_ge (tgt := 79) hx hb dX1_weightInSteam_20 (by decide) (fun c18 => ?_) (fun c18 => ?_)
      · replace h := it_t c18 h
        refine lv_lload hx hb dX1_weightInSteam_79 (lv_at hl 4 rfl) ?_
        obtain ⟨rfl, rfl⟩ := re2 h
        exact zb_lret hx hb hr hlk hP hS dX1_weightInSteam_81
      · replace h := it_f c18 h
        refine lv_iload_n hx hb dX1_weightInSteam_23 rfl (lv_at hl 3 rfl) ?_
        refine lv_iload hx hb dX1_weightInSteam_24 (lv_at hl 5 rfl) ?_
        refine lv_ishr hx hb dX1_weightInSteam_26 ?_
        refine lv_iconst (v := (1 : Int32)) hx hb dX1_weightInSteam_27 (by decide) ?_
        refine lv_iand hx hb dX1_weightInSteam_28 ?_
        refine lv_iconst (v := (1 : Int32)) hx hb dX1_weightInSteam_29 (by decide) ?_
        refine lv_icmp_ne (tgt := 37) hx hb dX1_weightInSteam_30 (by decide) (fun c19 => ?_) (fun c19 => ?_)
        · replace h := it_f c19 h
          refine lv_iconst (v := (0 : Int32)) hx hb dX1_weightInSteam_37 (by decide) ?_
          exact j38 x3 x4 (0 : Int32) x5 _ _ hP hD hS ls (lv_sub hl [0, 1, 2, 3, 4, 5] rfl) h
        · replace h := it_t c19 h
          refine lv_iconst (v := (1 : Int32)) hx hb dX1_weightInSteam_33 (by decide) ?_
          refine lv_goto (tgt := 38) hx hb dX1_weightInSteam_34 (by decide) ?_
          exact j38 x3 x4 (1 : Int32) x5 _ _ hP hD hS ls (lv_sub hl [0, 1, 2, 3, 4, 5] rfl) h
  exact lp6 zb_FU (1 : Int64) (0 : Int32) n1 _ _ hP hD hS ls (lv_sub hl [2, 3, 4, 5, 1, 0] rfl) h
abbrev rm_X1_steam : Room := { frames := 4, cells := 0, slots := 0, locals := 99 }
theorem hd_X1_steam : yX1_steam.cls = RX1 ∧ yX1_steam.cls ≠ "java/lang/invoke/MethodHandle" ∧ yX1_steam.cls ≠ "java/lang/invoke/VarHandle" ∧ (parseMethodDescriptor yX1_steam.desc).map (fun d => d.parameters.length) = some 5 := by decide +kernel
theorem zi_X1_steam_X1 : ∀ w ∈ wsX10, w ∈ wsX1_steam := fun _ h => List.mem_cons_of_mem _ (List.mem_append_left _ (List.mem_append_right _ h))
theorem zk_X1_steam_0 : Cond.fieldLink RX1 10 "GroutingIsFollowed" "now" "LGroutingIsFollowed$Bath;" ∈ wsX1_steam := by decide +kernel
theorem zk_X1_steam_1 : Cond.fieldLink RX1 16 "GroutingIsFollowed" "mind" "LGroutingIsFollowed$Bath;" ∈ wsX1_steam := by decide +kernel
set_option maxHeartbeats 4000000 in
set_option maxRecDepth 100000 in
theorem zc_X1_steam (l : Launch) (D : va_G) (cI : ClassId) (ad : Nat → Nat) (g_now : BT) (g_mind : BT) (g_taken : BT) (g_isTaken : Int32) (g_letters : (Nat → Int32)) (g_letterCount : Int32) (g_told : (Nat → Int32)) (g_toldCount : Int32) (g_refusals : (Nat → Int32)) (g_costs : (Nat → Int32)) (g_gains : (Nat → Int32)) (g_seed : Int32) (v1 : Int32) (v2 : Int32) (v3 : Int32) (v4 : Int32) (v5 : Int32) (r0 : Int64) (w_g_mind : BT) (w_g_refusals : (Nat → Int32)) (h : zf_X1_steam g_now g_mind g_refusals v1 v2 v3 v4 v5 = some (r0, w_g_mind, w_g_refusals)) : Cn l D cI yX1_steam wsX1_steam rm_X1_steam [.ref (ad 0), .int v1, .int v2, .int v3, .int v4, .int v5] (zb_G cI ad g_now g_mind g_taken g_isTaken g_letters g_letterCount g_told g_toldCount g_refusals g_costs g_gains g_seed) (some (.long r0)) (zb_G cI ad g_now w_g_mind g_taken g_isTaken g_letters g_letterCount g_told g_toldCount w_g_refusals g_costs g_gains g_seed) := by
  refine zb_ofW (cc := cX1_steam) (maxL := 11) (ret := (some .long)) (by decide) rfl (Nat.le_of_ble_eq_true rfl) ?_
  intro p e s m args below meth c A ls hx hb hr hml hts hown hlk hK hP hD hA hl
  have hS : va_S A s.heap s.heap [] := va_S.rf
  have hl : lv_has ls 11 [(0, .ref (ad 0)), (1, .int v1), (2, .int v2), (3, .int v3), (4, .int v4), (5, .int v5)] := hl
  unfold zf_X1_steam at h
  refine lv_aload_n hx hb dX1_steam_0 rfl (lv_at hl 0 rfl) ?_
  refine va_get (D := D) (ci := 1) (v := .ref (ad 1)) (C := RX1) (T := TX1) (N := 12) hx hb hts zi_X1_steam_X1 hown hK.1 hP 0 rfl rfl 0 (by decide) (hts _ zk_X1_steam_0) (fun _ h9 => h9) rfl dX1_steam_1 ?_
  refine lv_iload_n hx hb dX1_steam_4 rfl (lv_at hl 1 rfl) ?_
  obtain ⟨r1, g2, h⟩ := bo1 h
  refine zb_callV (As := [.int v1]) (rest := []) ⟨hx, hb, hml, hown, hts⟩ (zc_X0_has l D cI (ad 1) (ad 2) (ad 3) (ad 4) (ad 5) (ad 6) (ad 7) g_now v1 r1 g2) (cwV 1 hts gX1_steam_X0_has rfl rfl rfl hd_X0_has ⟨Nat.le_of_ble_eq_true rfl, Nat.le_of_ble_eq_true rfl⟩) hK hP hD hS hA (zb_cGn) (q0 := 0) rfl rfl rfl hl.1 rfl (Nat.le_of_ble_eq_true rfl) dX1_steam_5 ⟨Nat.le_refl _, Nat.le_refl _⟩ (fun H locs hP hD hS => ?_)
  refine lv_if_eq (tgt := 18) hx hb dX1_steam_8 (by decide) (fun c3 => ?_) (fun c3 => ?_)
  · replace h := it_t c3 h
    refine lv_aload_n hx hb dX1_steam_18 rfl (lv_at hl 0 rfl) ?_
    refine lv_iconst (v := ((-1) : Int32)) hx hb dX1_steam_19 (by decide) ?_
    obtain ⟨r4, n5, g6, h⟩ := bo2 h
    refine zb_callV (As := [.int ((-1) : Int32)]) (rest := []) ⟨hx, hb, hml, hown, hts⟩ (zc_X1_refuseLong l D cI ad g_now g_mind g_taken g_isTaken g_letters g_letterCount g_told g_toldCount g_refusals g_costs g_gains g_seed ((-1) : Int32) r4 n5 g6) (cwV 1 hts gX1_steam_X1_refuseLong rfl rfl rfl hd_X1_refuseLong ⟨Nat.le_of_ble_eq_true rfl, Nat.le_of_ble_eq_true rfl⟩) hK hP hD hS hA (zb_sG) (q0 := 0) rfl rfl rfl hl.1 rfl (Nat.le_of_ble_eq_true rfl) dX1_steam_20 ⟨Nat.le_refl _, Nat.le_refl _⟩ (fun H locs hP hD hS => ?_)
    obtain ⟨rfl, rfl, rfl⟩ := re3 h
    exact zb_lret hx hb hr hlk hP hS dX1_steam_23
  · replace h := it_f c3 h
    refine lv_iload_n hx hb dX1_steam_11 rfl (lv_at hl 2 rfl) ?_
    obtain ⟨r7, g8, h⟩ := bo1 h
    refine zb_callS (As := [.int v2]) (rest := []) ⟨hx, hb, hml, hown, hts⟩ (zc_X1_isNode l D cI v2 r7 g8) (va_cwS 1 hts gX1_steam_X1_isNode rfl rfl rfl hd_X1_isNode.2 ⟨Nat.le_of_ble_eq_true rfl, Nat.le_of_ble_eq_true rfl⟩) hK hP hD hS hA (zb_none _) rfl hl.1 rfl (Nat.le_of_ble_eq_true rfl) dX1_steam_12 ⟨Nat.le_refl _, Nat.le_refl _⟩ (fun H locs hP hD hS => ?_)
    refine lv_if_ne (tgt := 24) hx hb dX1_steam_15 (by decide) (fun c9 => ?_) (fun c9 => ?_)
    · replace h := it_f c9 h
      refine lv_iload_n hx hb dX1_steam_24 rfl (lv_at hl 3 rfl) ?_
      refine lv_if_lt (tgt := 34) hx hb dX1_steam_25 (by decide) (fun c10 => ?_) (fun c10 => ?_)
      · replace h := it_t c10 h
        refine lv_aload_n hx hb dX1_steam_34 rfl (lv_at hl 0 rfl) ?_
        refine lv_bipush (v := ((-4) : Int32)) hx hb dX1_steam_35 (by decide) ?_
        obtain ⟨r11, n12, g13, h⟩ := bo2 h
        refine zb_callV (As := [.int ((-4) : Int32)]) (rest := []) ⟨hx, hb, hml, hown, hts⟩ (zc_X1_refuseLong l D cI ad g_now g_mind g_taken g_isTaken g_letters g_letterCount g_told g_toldCount g_refusals g_costs g_gains g_seed ((-4) : Int32) r11 n12 g13) (cwV 1 hts gX1_steam_X1_refuseLong rfl rfl rfl hd_X1_refuseLong ⟨Nat.le_of_ble_eq_true rfl, Nat.le_of_ble_eq_true rfl⟩) hK hP hD hS hA (zb_sG) (q0 := 0) rfl rfl rfl hl.1 rfl (Nat.le_of_ble_eq_true rfl) dX1_steam_37 ⟨Nat.le_refl _, Nat.le_refl _⟩ (fun H locs hP hD hS => ?_)
        obtain ⟨rfl, rfl, rfl⟩ := re3 h
        exact zb_lret hx hb hr hlk hP hS dX1_steam_40
      · replace h := it_f c10 h
        refine lv_iload hx hb dX1_steam_28 (lv_at hl 4 rfl) ?_
        refine lv_iconst (v := (2 : Int32)) hx hb dX1_steam_30 (by decide) ?_
        refine lv_icmp_ge (tgt := 41) hx hb dX1_steam_31 (by decide) (fun c14 => ?_) (fun c14 => ?_)
        · replace h := it_t c14 h
          refine lv_iload_n hx hb dX1_steam_41 rfl (lv_at hl 3 rfl) ?_
          refine lv_bipush (v := (7 : Int32)) hx hb dX1_steam_42 (by decide) ?_
          refine lv_icmp_gt (tgt := 54) hx hb dX1_steam_44 (by decide) (fun c15 => ?_) (fun c15 => ?_)
          · replace h := it_t c15 h
            refine lv_aload_n hx hb dX1_steam_54 rfl (lv_at hl 0 rfl) ?_
            refine lv_bipush (v := ((-6) : Int32)) hx hb dX1_steam_55 (by decide) ?_
            obtain ⟨r16, n17, g18, h⟩ := bo2 h
            refine zb_callV (As := [.int ((-6) : Int32)]) (rest := []) ⟨hx, hb, hml, hown, hts⟩ (zc_X1_refuseLong l D cI ad g_now g_mind g_taken g_isTaken g_letters g_letterCount g_told g_toldCount g_refusals g_costs g_gains g_seed ((-6) : Int32) r16 n17 g18) (cwV 1 hts gX1_steam_X1_refuseLong rfl rfl rfl hd_X1_refuseLong ⟨Nat.le_of_ble_eq_true rfl, Nat.le_of_ble_eq_true rfl⟩) hK hP hD hS hA (zb_sG) (q0 := 0) rfl rfl rfl hl.1 rfl (Nat.le_of_ble_eq_true rfl) dX1_steam_57 ⟨Nat.le_refl _, Nat.le_refl _⟩ (fun H locs hP hD hS => ?_)
            obtain ⟨rfl, rfl, rfl⟩ := re3 h
            exact zb_lret hx hb hr hlk hP hS dX1_steam_60
          · replace h := it_f c15 h
            refine lv_iload hx hb dX1_steam_47 (lv_at hl 4 rfl) ?_
            refine lv_bipush (v := (20 : Int32)) hx hb dX1_steam_49 (by decide) ?_
            refine lv_icmp_le (tgt := 61) hx hb dX1_steam_51 (by decide) (fun c19 => ?_) (fun c19 => ?_)
            · replace h := it_t c19 h
              refine lv_iload hx hb dX1_steam_61 (lv_at hl 5 rfl) ?_
              refine lv_if_lt (tgt := 72) hx hb dX1_steam_63 (by decide) (fun c20 => ?_) (fun c20 => ?_)
              · replace h := it_t c20 h
                refine lv_aload_n hx hb dX1_steam_72 rfl (lv_at hl 0 rfl) ?_
                refine lv_bipush (v := ((-2) : Int32)) hx hb dX1_steam_73 (by decide) ?_
                obtain ⟨r21, n22, g23, h⟩ := bo2 h
                refine zb_callV (As := [.int ((-2) : Int32)]) (rest := []) ⟨hx, hb, hml, hown, hts⟩ (zc_X1_refuseLong l D cI ad g_now g_mind g_taken g_isTaken g_letters g_letterCount g_told g_toldCount g_refusals g_costs g_gains g_seed ((-2) : Int32) r21 n22 g23) (cwV 1 hts gX1_steam_X1_refuseLong rfl rfl rfl hd_X1_refuseLong ⟨Nat.le_of_ble_eq_true rfl, Nat.le_of_ble_eq_true rfl⟩) hK hP hD hS hA (zb_sG) (q0 := 0) rfl rfl rfl hl.1 rfl (Nat.le_of_ble_eq_true rfl) dX1_steam_75 ⟨Nat.le_refl _, Nat.le_refl _⟩ (fun H locs hP hD hS => ?_)
                obtain ⟨rfl, rfl, rfl⟩ := re3 h
                exact zb_lret hx hb hr hlk hP hS dX1_steam_78
              · replace h := it_f c20 h
                refine lv_iload hx hb dX1_steam_66 (lv_at hl 5 rfl) ?_
                refine lv_iconst (v := (1 : Int32)) hx hb dX1_steam_68 (by decide) ?_
                refine lv_icmp_le (tgt := 79) hx hb dX1_steam_69 (by decide) (fun c24 => ?_) (fun c24 => ?_)
                · replace h := it_t c24 h
                  refine lv_lconst (v := (0 : Int64)) hx hb dX1_steam_79 (by decide) ?_
                  refine lv_lstore (lv' := [(6, .long (0 : Int64)), (0, .ref (ad 0)), (1, .int v1), (2, .int v2), (3, .int v3), (4, .int v4), (5, .int v5)]) hx hb dX1_steam_80 hl (by decide) rfl (fun ls hl => ?_)
                  refine lv_iconst (v := (0 : Int32)) hx hb dX1_steam_82 (by decide) ?_
                  refine lv_istore (lv' := [(8, .int (0 : Int32)), (6, .long (0 : Int64)), (0, .ref (ad 0)), (1, .int v1), (2, .int v2), (3, .int v3), (4, .int v4), (5, .int v5)]) hx hb dX1_steam_83 hl (by decide) rfl (fun ls hl => ?_)
                  have lp28 : ∀ (fu28 : Nat) (x25 : Int64) (x26 : Int32) (x27 : BT) (H : Heap) (locs : List Loc) (hP : va_P D zb_cl (zb_G cI ad g_now x27 g_taken g_isTaken g_letters g_letterCount g_told g_toldCount g_refusals g_costs g_gains g_seed) H) (hD : va_D A (zb_G cI ad g_now x27 g_taken g_isTaken g_letters g_letterCount g_told g_toldCount g_refusals g_costs g_gains g_seed)) (hS : va_S A s.heap H locs) (ls : Array Slot) (hl : lv_has ls 11 [(0, .ref (ad 0)), (1, .int v1), (2, .int v2), (3, .int v3), (4, .int v4), (5, .int v5), (6, .long x25), (8, .int x26)]) (h : zl3 (zf_X1_steam_b85 v1 v2 v3 v4 v5 g_now g_refusals) fu28 x25 x26 x27 = some (r0, w_g_mind, w_g_refusals)), W p l e rm_X1_steam s m args below meth c H locs 0 0 (zb_Q below D (some (.long r0)) (zb_G cI ad g_now w_g_mind g_taken g_isTaken g_letters g_letterCount g_told g_toldCount w_g_refusals g_costs g_gains g_seed) A args s) (F0 m 85 ls []) := by
                    intro fu28
                    induction fu28 with
                    | zero => intro x25 x26 x27 H locs hP hD hS ls hl h; exact zb_no h
                    | succ fu28 ih28 =>
                      intro x25 x26 x27 H locs hP hD hS ls hl h
                      replace h : zf_X1_steam_b85 v1 v2 v3 v4 v5 g_now g_refusals (zl3 (zf_X1_steam_b85 v1 v2 v3 v4 v5 g_now g_refusals) fu28) x25 x26 x27 = some (r0, w_g_mind, w_g_refusals) := h
                      unfold zf_X1_steam_b85 at h
                      refine lv_iload hx hb dX1_steam_85 (lv_at hl 7 rfl) ?_
                      refine lv_iconst (v := (1 : Int32)) hx hb dX1_steam_87 (by decide) ?_
                      refine lv_iload_n hx hb dX1_steam_88 rfl (lv_at hl 3 rfl) ?_
                      refine lv_ishl hx hb dX1_steam_89 ?_
                      refine lv_icmp_ge (tgt := 129) hx hb dX1_steam_90 (by decide) (fun c29 => ?_) (fun c29 => ?_)
                      · replace h := it_t c29 h
                        refine lv_lconst (v := (1 : Int64)) hx hb dX1_steam_129 (by decide) ?_
                        refine lv_lstore (lv' := [(8, .long (1 : Int64)), (0, .ref (ad 0)), (1, .int v1), (2, .int v2), (3, .int v3), (4, .int v4), (5, .int v5), (6, .long x25)]) hx hb dX1_steam_130 hl (by decide) rfl (fun ls hl => ?_)
                        refine lv_iconst (v := (0 : Int32)) hx hb dX1_steam_132 (by decide) ?_
                        refine lv_istore (lv' := [(10, .int (0 : Int32)), (8, .long (1 : Int64)), (0, .ref (ad 0)), (1, .int v1), (2, .int v2), (3, .int v3), (4, .int v4), (5, .int v5), (6, .long x25)]) hx hb dX1_steam_133 hl (by decide) rfl (fun ls hl => ?_)
                        have lp32 : ∀ (fu32 : Nat) (x30 : Int64) (x31 : Int32) (H : Heap) (locs : List Loc) (hP : va_P D zb_cl (zb_G cI ad g_now x27 g_taken g_isTaken g_letters g_letterCount g_told g_toldCount g_refusals g_costs g_gains g_seed) H) (hD : va_D A (zb_G cI ad g_now x27 g_taken g_isTaken g_letters g_letterCount g_told g_toldCount g_refusals g_costs g_gains g_seed)) (hS : va_S A s.heap H locs) (ls : Array Slot) (hl : lv_has ls 11 [(3, .int v3), (4, .int v4), (5, .int v5), (6, .long x25), (8, .long x30), (10, .int x31)]) (h : zl2 (zf_X1_steam_b135 v3 v4 v5 x25 x27 g_refusals) fu32 x30 x31 = some (r0, w_g_mind, w_g_refusals)), W p l e rm_X1_steam s m args below meth c H locs 0 0 (zb_Q below D (some (.long r0)) (zb_G cI ad g_now w_g_mind g_taken g_isTaken g_letters g_letterCount g_told g_toldCount w_g_refusals g_costs g_gains g_seed) A args s) (F0 m 135 ls []) := by
                          intro fu32
                          induction fu32 with
                          | zero => intro x30 x31 H locs hP hD hS ls hl h; exact zb_no h
                          | succ fu32 ih32 =>
                            intro x30 x31 H locs hP hD hS ls hl h
                            replace h : zf_X1_steam_b135 v3 v4 v5 x25 x27 g_refusals (zl2 (zf_X1_steam_b135 v3 v4 v5 x25 x27 g_refusals) fu32) x30 x31 = some (r0, w_g_mind, w_g_refusals) := h
                            unfold zf_X1_steam_b135 at h
                            refine lv_iload hx hb dX1_steam_135 (lv_at hl 5 rfl) ?_
                            refine lv_iload_n hx hb dX1_steam_137 rfl (lv_at hl 0 rfl) ?_
                            refine lv_icmp_ge (tgt := 155) hx hb dX1_steam_138 (by decide) (fun c33 => ?_) (fun c33 => ?_)
                            · replace h := it_t c33 h
                              refine lv_lload hx hb dX1_steam_155 (lv_at hl 3 rfl) ?_
                              refine lv_lload hx hb dX1_steam_157 (lv_at hl 4 rfl) ?_
                              refine lv_iload hx hb dX1_steam_159 (lv_at hl 2 rfl) ?_
                              obtain ⟨r34, g35, h⟩ := bo1 h
                              refine zb_callS (As := [.long x25, .long x30, .int v5]) (rest := []) ⟨hx, hb, hml, hown, hts⟩ (zc_X1_partOf l D cI x25 x30 v5 r34 g35) (va_cwS 3 hts gX1_steam_X1_partOf rfl rfl rfl hd_X1_partOf.2 ⟨Nat.le_of_ble_eq_true rfl, Nat.le_of_ble_eq_true rfl⟩) hK hP hD hS hA (zb_none _) rfl hl.1 rfl (Nat.le_of_ble_eq_true rfl) dX1_steam_161 ⟨Nat.le_refl _, Nat.le_refl _⟩ (fun H locs hP hD hS => ?_)
                              obtain ⟨rfl, rfl, rfl⟩ := re3 h
                              exact zb_lret hx hb hr hlk hP hS dX1_steam_164
                            · replace h := it_f c33 h
                              refine lv_lload hx hb dX1_steam_141 (lv_at hl 4 rfl) ?_
                              refine lv_iload hx hb dX1_steam_143 (lv_at hl 1 rfl) ?_
                              refine lv_i2l (v := v4.toInt64) hx hb dX1_steam_145 rfl ?_
                              refine lv_lmul hx hb dX1_steam_146 ?_
                              refine lv_lstore (lv' := [(8, .long (x30 * v4.toInt64)), (3, .int v3), (4, .int v4), (5, .int v5), (6, .long x25), (10, .int x31)]) hx hb dX1_steam_147 hl (by decide) rfl (fun ls hl => ?_)
                              refine lv_iinc (v := (x31 + (1 : Int32))) (lv' := [(10, .int (x31 + (1 : Int32))), (8, .long (x30 * v4.toInt64)), (3, .int v3), (4, .int v4), (5, .int v5), (6, .long x25)]) hx hb dX1_steam_149 hl (k := 5) rfl (by first | rfl | decide) (by decide) rfl (fun ls hl => ?_)
                              refine lv_goto (tgt := 135) hx hb dX1_steam_152 (by decide) ?_
                              exact ih32 (x30 * v4.toInt64) (x31 + (1 : Int32)) _ _ hP hD hS ls (lv_sub hl [2, 3, 4, 5, 1, 0] rfl) h
                        exact lp32 zb_FU (1 : Int64) (0 : Int32) _ _ hP hD hS ls (lv_sub hl [5, 6, 7, 8, 1, 0] rfl) h
                      · replace h := it_f c29 h
                        refine lv_aload_n hx hb dX1_steam_93 rfl (lv_at hl 0 rfl) ?_
                        refine lv_iload_n hx hb dX1_steam_94 rfl (lv_at hl 3 rfl) ?_
                        refine lv_iload hx hb dX1_steam_95 (lv_at hl 4 rfl) ?_
                        refine lv_iload hx hb dX1_steam_97 (lv_at hl 7 rfl) ?_
                        obtain ⟨r36, n37, g38, h⟩ := bo2 h
                        refine zb_callV (As := [.int v3, .int v4, .int x26]) (rest := []) ⟨hx, hb, hml, hown, hts⟩ (zc_X1_weightInSteam l D cI ad g_now x27 g_taken g_isTaken g_letters g_letterCount g_told g_toldCount g_refusals g_costs g_gains g_seed v3 v4 x26 r36 n37 g38) (cwV 3 hts gX1_steam_X1_weightInSteam rfl rfl rfl hd_X1_weightInSteam ⟨Nat.le_of_ble_eq_true rfl, Nat.le_of_ble_eq_true rfl⟩) hK hP hD hS hA (zb_sG) (q0 := 0) rfl rfl rfl hl.1 rfl (Nat.le_of_ble_eq_true rfl) dX1_steam_99 ⟨Nat.le_refl _, Nat.le_refl _⟩ (fun H locs hP hD hS => ?_)
                        refine lv_lstore (lv' := [(9, .long r36), (0, .ref (ad 0)), (1, .int v1), (2, .int v2), (3, .int v3), (4, .int v4), (5, .int v5), (6, .long x25), (8, .int x26)]) hx hb dX1_steam_102 hl (by decide) rfl (fun ls hl => ?_)
                        refine lv_aload_n hx hb dX1_steam_104 rfl (lv_at hl 1 rfl) ?_
                        refine va_get (D := D) (ci := 1) (v := .ref (ad 8)) (C := RX1) (T := TX1) (N := 12) hx hb hts zi_X1_steam_X1 hown hK.1 hP 0 rfl rfl 1 (by decide) (hts _ zk_X1_steam_1) (fun _ h9 => h9) rfl dX1_steam_105 ?_
                        refine lv_iload_n hx hb dX1_steam_108 rfl (lv_at hl 2 rfl) ?_
                        obtain ⟨r39, g40, h⟩ := bo1 h
                        refine zb_callV (As := [.int v1]) (rest := []) ⟨hx, hb, hml, hown, hts⟩ (zc_X0_placeOf l D cI (ad 8) (ad 9) (ad 10) (ad 11) (ad 12) (ad 13) (ad 14) n37 v1 r39 g40) (cwV 1 hts gX1_steam_X0_placeOf rfl rfl rfl hd_X0_placeOf ⟨Nat.le_of_ble_eq_true rfl, Nat.le_of_ble_eq_true rfl⟩) hK hP hD hS hA (zb_cGm) (q0 := 0) rfl rfl rfl hl.1 rfl (Nat.le_of_ble_eq_true rfl) dX1_steam_109 ⟨Nat.le_refl _, Nat.le_refl _⟩ (fun H locs hP hD hS => ?_)
                        refine lv_iload_n hx hb dX1_steam_112 rfl (lv_at hl 3 rfl) ?_
                        refine lv_icmp_ne (tgt := 123) hx hb dX1_steam_113 (by decide) (fun c41 => ?_) (fun c41 => ?_)
                        · replace h := it_f c41 h
                          refine lv_iinc (v := (x26 + (1 : Int32))) (lv' := [(8, .int (x26 + (1 : Int32))), (9, .long r36), (0, .ref (ad 0)), (1, .int v1), (2, .int v2), (3, .int v3), (4, .int v4), (5, .int v5), (6, .long x25)]) hx hb dX1_steam_123 hl (k := 8) rfl (by first | rfl | decide) (by decide) rfl (fun ls hl => ?_)
                          refine lv_goto (tgt := 85) hx hb dX1_steam_126 (by decide) ?_
                          exact ih28 x25 (x26 + (1 : Int32)) n37 _ _ hP hD hS ls (lv_sub hl [2, 3, 4, 5, 6, 7, 8, 0] rfl) h
                        · replace h := it_t c41 h
                          refine lv_lload hx hb dX1_steam_116 (lv_at hl 7 rfl) ?_
                          refine lv_lload hx hb dX1_steam_118 (lv_at hl 0 rfl) ?_
                          refine lv_ladd hx hb dX1_steam_120 ?_
                          refine lv_lstore (lv' := [(6, .long (x25 + r36)), (9, .long r36), (0, .ref (ad 0)), (1, .int v1), (2, .int v2), (3, .int v3), (4, .int v4), (5, .int v5), (8, .int x26)]) hx hb dX1_steam_121 hl (by decide) rfl (fun ls hl => ?_)
                          refine lv_iinc (v := (x26 + (1 : Int32))) (lv' := [(8, .int (x26 + (1 : Int32))), (6, .long (x25 + r36)), (9, .long r36), (0, .ref (ad 0)), (1, .int v1), (2, .int v2), (3, .int v3), (4, .int v4), (5, .int v5)]) hx hb dX1_steam_123 hl (k := 8) rfl (by first | rfl | decide) (by decide) rfl (fun ls hl => ?_)
                          refine lv_goto (tgt := 85) hx hb dX1_steam_126 (by decide) ?_
                          exact ih28 (x25 + r36) (x26 + (1 : Int32)) n37 _ _ hP hD hS ls (lv_sub hl [3, 4, 5, 6, 7, 8, 1, 0] rfl) h
                  exact lp28 zb_FU (0 : Int64) (0 : Int32) g_mind _ _ hP hD hS ls (lv_sub hl [2, 3, 4, 5, 6, 7, 1, 0] rfl) h
                · replace h := it_f c24 h
                  refine lv_aload_n hx hb dX1_steam_72 rfl (lv_at hl 0 rfl) ?_
                  refine lv_bipush (v := ((-2) : Int32)) hx hb dX1_steam_73 (by decide) ?_
                  obtain ⟨r42, n43, g44, h⟩ := bo2 h
                  refine zb_callV (As := [.int ((-2) : Int32)]) (rest := []) ⟨hx, hb, hml, hown, hts⟩ (zc_X1_refuseLong l D cI ad g_now g_mind g_taken g_isTaken g_letters g_letterCount g_told g_toldCount g_refusals g_costs g_gains g_seed ((-2) : Int32) r42 n43 g44) (cwV 1 hts gX1_steam_X1_refuseLong rfl rfl rfl hd_X1_refuseLong ⟨Nat.le_of_ble_eq_true rfl, Nat.le_of_ble_eq_true rfl⟩) hK hP hD hS hA (zb_sG) (q0 := 0) rfl rfl rfl hl.1 rfl (Nat.le_of_ble_eq_true rfl) dX1_steam_75 ⟨Nat.le_refl _, Nat.le_refl _⟩ (fun H locs hP hD hS => ?_)
                  obtain ⟨rfl, rfl, rfl⟩ := re3 h
                  exact zb_lret hx hb hr hlk hP hS dX1_steam_78
            · replace h := it_f c19 h
              refine lv_aload_n hx hb dX1_steam_54 rfl (lv_at hl 0 rfl) ?_
              refine lv_bipush (v := ((-6) : Int32)) hx hb dX1_steam_55 (by decide) ?_
              obtain ⟨r45, n46, g47, h⟩ := bo2 h
              refine zb_callV (As := [.int ((-6) : Int32)]) (rest := []) ⟨hx, hb, hml, hown, hts⟩ (zc_X1_refuseLong l D cI ad g_now g_mind g_taken g_isTaken g_letters g_letterCount g_told g_toldCount g_refusals g_costs g_gains g_seed ((-6) : Int32) r45 n46 g47) (cwV 1 hts gX1_steam_X1_refuseLong rfl rfl rfl hd_X1_refuseLong ⟨Nat.le_of_ble_eq_true rfl, Nat.le_of_ble_eq_true rfl⟩) hK hP hD hS hA (zb_sG) (q0 := 0) rfl rfl rfl hl.1 rfl (Nat.le_of_ble_eq_true rfl) dX1_steam_57 ⟨Nat.le_refl _, Nat.le_refl _⟩ (fun H locs hP hD hS => ?_)
              obtain ⟨rfl, rfl, rfl⟩ := re3 h
              exact zb_lret hx hb hr hlk hP hS dX1_steam_60
        · replace h := it_f c14 h
          refine lv_aload_n hx hb dX1_steam_34 rfl (lv_at hl 0 rfl) ?_
          refine lv_bipush (v := ((-4) : Int32)) hx hb dX1_steam_35 (by decide) ?_
          obtain ⟨r48, n49, g50, h⟩ := bo2 h
          refine zb_callV (As := [.int ((-4) : Int32)]) (rest := []) ⟨hx, hb, hml, hown, hts⟩ (zc_X1_refuseLong l D cI ad g_now g_mind g_taken g_isTaken g_letters g_letterCount g_told g_toldCount g_refusals g_costs g_gains g_seed ((-4) : Int32) r48 n49 g50) (cwV 1 hts gX1_steam_X1_refuseLong rfl rfl rfl hd_X1_refuseLong ⟨Nat.le_of_ble_eq_true rfl, Nat.le_of_ble_eq_true rfl⟩) hK hP hD hS hA (zb_sG) (q0 := 0) rfl rfl rfl hl.1 rfl (Nat.le_of_ble_eq_true rfl) dX1_steam_37 ⟨Nat.le_refl _, Nat.le_refl _⟩ (fun H locs hP hD hS => ?_)
          obtain ⟨rfl, rfl, rfl⟩ := re3 h
          exact zb_lret hx hb hr hlk hP hS dX1_steam_40
    · replace h := it_t c9 h
      refine lv_aload_n hx hb dX1_steam_18 rfl (lv_at hl 0 rfl) ?_
      refine lv_iconst (v := ((-1) : Int32)) hx hb dX1_steam_19 (by decide) ?_
      obtain ⟨r51, n52, g53, h⟩ := bo2 h
      refine zb_callV (As := [.int ((-1) : Int32)]) (rest := []) ⟨hx, hb, hml, hown, hts⟩ (zc_X1_refuseLong l D cI ad g_now g_mind g_taken g_isTaken g_letters g_letterCount g_told g_toldCount g_refusals g_costs g_gains g_seed ((-1) : Int32) r51 n52 g53) (cwV 1 hts gX1_steam_X1_refuseLong rfl rfl rfl hd_X1_refuseLong ⟨Nat.le_of_ble_eq_true rfl, Nat.le_of_ble_eq_true rfl⟩) hK hP hD hS hA (zb_sG) (q0 := 0) rfl rfl rfl hl.1 rfl (Nat.le_of_ble_eq_true rfl) dX1_steam_20 ⟨Nat.le_refl _, Nat.le_refl _⟩ (fun H locs hP hD hS => ?_)
      obtain ⟨rfl, rfl, rfl⟩ := re3 h
      exact zb_lret hx hb hr hlk hP hS dX1_steam_23
abbrev rm_X1_mean : Room := { frames := 4, cells := 0, slots := 0, locals := 86 }
theorem hd_X1_mean : yX1_mean.cls = RX1 ∧ yX1_mean.cls ≠ "java/lang/invoke/MethodHandle" ∧ yX1_mean.cls ≠ "java/lang/invoke/VarHandle" ∧ (parseMethodDescriptor yX1_mean.desc).map (fun d => d.parameters.length) = some 1 := by decide +kernel
theorem zi_X1_mean_X1 : ∀ w ∈ wsX10, w ∈ wsX1_mean := fun _ h => List.mem_cons_of_mem _ (List.mem_append_left _ (List.mem_append_right _ h))
theorem zk_X1_mean_0 : Cond.fieldLink RX1 10 "GroutingIsFollowed" "now" "LGroutingIsFollowed$Bath;" ∈ wsX1_mean := by decide +kernel
theorem zk_X1_mean_1 : Cond.constantLong RX1 187 (30) ∈ wsX1_mean := by decide +kernel
set_option maxHeartbeats 4000000 in
set_option maxRecDepth 100000 in
theorem zc_X1_mean (l : Launch) (D : va_G) (cI : ClassId) (ad : Nat → Nat) (g_now : BT) (g_mind : BT) (g_taken : BT) (g_isTaken : Int32) (g_letters : (Nat → Int32)) (g_letterCount : Int32) (g_told : (Nat → Int32)) (g_toldCount : Int32) (g_refusals : (Nat → Int32)) (g_costs : (Nat → Int32)) (g_gains : (Nat → Int32)) (g_seed : Int32) (v1 : Int32) (r0 : Int64) (w_g_refusals : (Nat → Int32)) (h : zf_X1_mean g_now g_refusals v1 = some (r0, w_g_refusals)) : Cn l D cI yX1_mean wsX1_mean rm_X1_mean [.ref (ad 0), .int v1] (zb_G cI ad g_now g_mind g_taken g_isTaken g_letters g_letterCount g_told g_toldCount g_refusals g_costs g_gains g_seed) (some (.long r0)) (zb_G cI ad g_now g_mind g_taken g_isTaken g_letters g_letterCount g_told g_toldCount w_g_refusals g_costs g_gains g_seed) := by
  refine zb_ofW (cc := cX1_mean) (maxL := 2) (ret := (some .long)) (by decide) rfl (Nat.le_of_ble_eq_true rfl) ?_
  intro p e s m args below meth c A ls hx hb hr hml hts hown hlk hK hP hD hA hl
  have hS : va_S A s.heap s.heap [] := va_S.rf
  have hl : lv_has ls 2 [(0, .ref (ad 0)), (1, .int v1)] := hl
  unfold zf_X1_mean at h
  refine lv_iload_n hx hb dX1_mean_0 rfl (lv_at hl 1 rfl) ?_
  refine lv_if_lt (tgt := 9) hx hb dX1_mean_1 (by decide) (fun c1 => ?_) (fun c1 => ?_)
  · replace h := it_t c1 h
    refine lv_aload_n hx hb dX1_mean_9 rfl (lv_at hl 0 rfl) ?_
    refine lv_bipush (v := ((-2) : Int32)) hx hb dX1_mean_10 (by decide) ?_
    obtain ⟨r2, n3, g4, h⟩ := bo2 h
    refine zb_callV (As := [.int ((-2) : Int32)]) (rest := []) ⟨hx, hb, hml, hown, hts⟩ (zc_X1_refuseLong l D cI ad g_now g_mind g_taken g_isTaken g_letters g_letterCount g_told g_toldCount g_refusals g_costs g_gains g_seed ((-2) : Int32) r2 n3 g4) (cwV 1 hts gX1_mean_X1_refuseLong rfl rfl rfl hd_X1_refuseLong ⟨Nat.le_of_ble_eq_true rfl, Nat.le_of_ble_eq_true rfl⟩) hK hP hD hS hA (zb_sG) (q0 := 0) rfl rfl rfl hl.1 rfl (Nat.le_of_ble_eq_true rfl) dX1_mean_12 ⟨Nat.le_refl _, Nat.le_refl _⟩ (fun H locs hP hD hS => ?_)
    obtain ⟨rfl, rfl⟩ := re2 h
    exact zb_lret hx hb hr hlk hP hS dX1_mean_15
  · replace h := it_f c1 h
    refine lv_iload_n hx hb dX1_mean_4 rfl (lv_at hl 1 rfl) ?_
    refine lv_iconst (v := (1 : Int32)) hx hb dX1_mean_5 (by decide) ?_
    refine lv_icmp_le (tgt := 16) hx hb dX1_mean_6 (by decide) (fun c5 => ?_) (fun c5 => ?_)
    · replace h := it_t c5 h
      refine lv_aload_n hx hb dX1_mean_16 rfl (lv_at hl 0 rfl) ?_
      refine va_get (D := D) (ci := 1) (v := .ref (ad 1)) (C := RX1) (T := TX1) (N := 12) hx hb hts zi_X1_mean_X1 hown hK.1 hP 0 rfl rfl 0 (by decide) (hts _ zk_X1_mean_0) (fun _ h9 => h9) rfl dX1_mean_17 ?_
      obtain ⟨r6, g7, h⟩ := bo1 h
      refine zb_callV (As := []) (rest := []) ⟨hx, hb, hml, hown, hts⟩ (zc_X0_allWet l D cI (ad 1) (ad 2) (ad 3) (ad 4) (ad 5) (ad 6) (ad 7) g_now r6 g7) (cwV 0 hts gX1_mean_X0_allWet rfl rfl rfl hd_X0_allWet ⟨Nat.le_of_ble_eq_true rfl, Nat.le_of_ble_eq_true rfl⟩) hK hP hD hS hA (zb_cGn) (q0 := 0) rfl rfl rfl hl.1 rfl (Nat.le_of_ble_eq_true rfl) dX1_mean_20 ⟨Nat.le_refl _, Nat.le_refl _⟩ (fun H locs hP hD hS => ?_)
      refine lv_i2l (v := r6.toInt64) hx hb dX1_mean_23 rfl ?_
      refine lv_ldc2 (v := (30 : Int64)) hx hb hown (hts _ zk_X1_mean_1) dX1_mean_24 ?_
      refine lv_iload_n hx hb dX1_mean_27 rfl (lv_at hl 1 rfl) ?_
      obtain ⟨r8, g9, h⟩ := bo1 h
      refine zb_callS (As := [.long r6.toInt64, .long (30 : Int64), .int v1]) (rest := []) ⟨hx, hb, hml, hown, hts⟩ (zc_X1_partOf l D cI r6.toInt64 (30 : Int64) v1 r8 g9) (va_cwS 3 hts gX1_mean_X1_partOf rfl rfl rfl hd_X1_partOf.2 ⟨Nat.le_of_ble_eq_true rfl, Nat.le_of_ble_eq_true rfl⟩) hK hP hD hS hA (zb_none _) rfl hl.1 rfl (Nat.le_of_ble_eq_true rfl) dX1_mean_28 ⟨Nat.le_refl _, Nat.le_refl _⟩ (fun H locs hP hD hS => ?_)
      obtain ⟨rfl, rfl⟩ := re2 h
      exact zb_lret hx hb hr hlk hP hS dX1_mean_31
    · replace h := it_f c5 h
      refine lv_aload_n hx hb dX1_mean_9 rfl (lv_at hl 0 rfl) ?_
      refine lv_bipush (v := ((-2) : Int32)) hx hb dX1_mean_10 (by decide) ?_
      obtain ⟨r10, n11, g12, h⟩ := bo2 h
      refine zb_callV (As := [.int ((-2) : Int32)]) (rest := []) ⟨hx, hb, hml, hown, hts⟩ (zc_X1_refuseLong l D cI ad g_now g_mind g_taken g_isTaken g_letters g_letterCount g_told g_toldCount g_refusals g_costs g_gains g_seed ((-2) : Int32) r10 n11 g12) (cwV 1 hts gX1_mean_X1_refuseLong rfl rfl rfl hd_X1_refuseLong ⟨Nat.le_of_ble_eq_true rfl, Nat.le_of_ble_eq_true rfl⟩) hK hP hD hS hA (zb_sG) (q0 := 0) rfl rfl rfl hl.1 rfl (Nat.le_of_ble_eq_true rfl) dX1_mean_12 ⟨Nat.le_refl _, Nat.le_refl _⟩ (fun H locs hP hD hS => ?_)
      obtain ⟨rfl, rfl⟩ := re2 h
      exact zb_lret hx hb hr hlk hP hS dX1_mean_15
abbrev rm_X1_toldAt : Room := { frames := 0, cells := 0, slots := 0, locals := 0 }
theorem hd_X1_toldAt : yX1_toldAt.cls = RX1 ∧ yX1_toldAt.cls ≠ "java/lang/invoke/MethodHandle" ∧ yX1_toldAt.cls ≠ "java/lang/invoke/VarHandle" ∧ (parseMethodDescriptor yX1_toldAt.desc).map (fun d => d.parameters.length) = some 1 := by decide +kernel
theorem zi_X1_toldAt_X1 : ∀ w ∈ wsX10, w ∈ wsX1_toldAt := fun _ h => List.mem_cons_of_mem _ (List.mem_append_right _ h)
theorem zk_X1_toldAt_0 : Cond.fieldLink RX1 192 "GroutingIsFollowed" "toldCount" "I" ∈ wsX1_toldAt := by decide +kernel
theorem zk_X1_toldAt_1 : Cond.fieldLink RX1 26 "GroutingIsFollowed" "told" "[I" ∈ wsX1_toldAt := by decide +kernel
set_option maxHeartbeats 4000000 in
set_option maxRecDepth 100000 in
theorem zc_X1_toldAt (l : Launch) (D : va_G) (cI : ClassId) (ad : Nat → Nat) (g_now : BT) (g_mind : BT) (g_taken : BT) (g_isTaken : Int32) (g_letters : (Nat → Int32)) (g_letterCount : Int32) (g_told : (Nat → Int32)) (g_toldCount : Int32) (g_refusals : (Nat → Int32)) (g_costs : (Nat → Int32)) (g_gains : (Nat → Int32)) (g_seed : Int32) (v1 : Int32) (r0 : Int32) (h : zf_X1_toldAt g_told g_toldCount v1 = some r0) : Cn l D cI yX1_toldAt wsX1_toldAt rm_X1_toldAt [.ref (ad 0), .int v1] (zb_G cI ad g_now g_mind g_taken g_isTaken g_letters g_letterCount g_told g_toldCount g_refusals g_costs g_gains g_seed) (some (.int r0)) (zb_G cI ad g_now g_mind g_taken g_isTaken g_letters g_letterCount g_told g_toldCount g_refusals g_costs g_gains g_seed) := by
  refine zb_ofW (cc := cX1_toldAt) (maxL := 2) (ret := (some .int)) (by decide) rfl (Nat.le_of_ble_eq_true rfl) ?_
  intro p e s m args below meth c A ls hx hb hr hml hts hown hlk hK hP hD hA hl
  have hS : va_S A s.heap s.heap [] := va_S.rf
  have hl : lv_has ls 2 [(0, .ref (ad 0)), (1, .int v1)] := hl
  unfold zf_X1_toldAt at h
  refine lv_iload_n hx hb dX1_toldAt_0 rfl (lv_at hl 1 rfl) ?_
  refine lv_if_lt (tgt := 30) hx hb dX1_toldAt_1 (by decide) (fun c1 => ?_) (fun c1 => ?_)
  · replace h := it_t c1 h
    refine lv_bipush (v := ((-9) : Int32)) hx hb dX1_toldAt_30 (by decide) ?_
    obtain rfl := re1 h
    exact zb_iret hx hb hr hlk hP hS dX1_toldAt_32
  · replace h := it_f c1 h
    refine lv_iload_n hx hb dX1_toldAt_4 rfl (lv_at hl 1 rfl) ?_
    refine lv_aload_n hx hb dX1_toldAt_5 rfl (lv_at hl 0 rfl) ?_
    refine va_get (D := D) (ci := 1) (v := .int g_toldCount) (C := RX1) (T := TX1) (N := 12) hx hb hts zi_X1_toldAt_X1 hown hK.1 hP 0 rfl rfl 7 (by decide) (hts _ zk_X1_toldAt_0) (fun _ h9 => h9) rfl dX1_toldAt_6 ?_
    refine lv_icmp_ge (tgt := 30) hx hb dX1_toldAt_9 (by decide) (fun c2 => ?_) (fun c2 => ?_)
    · replace h := it_t c2 h
      refine lv_bipush (v := ((-9) : Int32)) hx hb dX1_toldAt_30 (by decide) ?_
      obtain rfl := re1 h
      exact zb_iret hx hb hr hlk hP hS dX1_toldAt_32
    · replace h := it_f c2 h
      refine lv_iload_n hx hb dX1_toldAt_12 rfl (lv_at hl 1 rfl) ?_
      refine lv_aload_n hx hb dX1_toldAt_13 rfl (lv_at hl 0 rfl) ?_
      refine va_get (D := D) (ci := 1) (v := .ref (ad 23)) (C := RX1) (T := TX1) (N := 12) hx hb hts zi_X1_toldAt_X1 hown hK.1 hP 0 rfl rfl 6 (by decide) (hts _ zk_X1_toldAt_1) (fun _ h9 => h9) rfl dX1_toldAt_14 ?_
      refine va_alen (v := (16 : Int32)) hx hb hK.1 hP 23 0 rfl rfl rfl dX1_toldAt_17 ?_
      refine lv_icmp_ge (tgt := 30) hx hb dX1_toldAt_18 (by decide) (fun c3 => ?_) (fun c3 => ?_)
      · replace h := it_t c3 h
        refine lv_bipush (v := ((-9) : Int32)) hx hb dX1_toldAt_30 (by decide) ?_
        obtain rfl := re1 h
        exact zb_iret hx hb hr hlk hP hS dX1_toldAt_32
      · replace h := it_f c3 h
        refine lv_aload_n hx hb dX1_toldAt_21 rfl (lv_at hl 0 rfl) ?_
        refine va_get (D := D) (ci := 1) (v := .ref (ad 23)) (C := RX1) (T := TX1) (N := 12) hx hb hts zi_X1_toldAt_X1 hown hK.1 hP 0 rfl rfl 6 (by decide) (hts _ zk_X1_toldAt_1) (fun _ h9 => h9) rfl dX1_toldAt_22 ?_
        refine lv_iload_n hx hb dX1_toldAt_25 rfl (lv_at hl 1 rfl) ?_
        obtain ⟨h4, h⟩ := it_g h
        refine va_iald hx hb hK.1 hP 23 0 rfl rfl h4 dX1_toldAt_26 ?_
        refine lv_goto (tgt := 32) hx hb dX1_toldAt_27 (by decide) ?_
        obtain rfl := re1 h
        exact zb_iret hx hb hr hlk hP hS dX1_toldAt_32
abbrev rm_X1_isAsTold : Room := { frames := 3, cells := 0, slots := 0, locals := 72 }
theorem hd_X1_isAsTold : yX1_isAsTold.cls = RX1 ∧ yX1_isAsTold.cls ≠ "java/lang/invoke/MethodHandle" ∧ yX1_isAsTold.cls ≠ "java/lang/invoke/VarHandle" ∧ (parseMethodDescriptor yX1_isAsTold.desc).map (fun d => d.parameters.length) = some 1 := by decide +kernel
theorem zi_X1_isAsTold_X1 : ∀ w ∈ wsX10, w ∈ wsX1_isAsTold := fun _ h => List.mem_cons_of_mem _ (List.mem_append_left _ (List.mem_append_right _ h))
theorem zk_X1_isAsTold_0 : Cond.fieldLink RX1 192 "GroutingIsFollowed" "toldCount" "I" ∈ wsX1_isAsTold := by decide +kernel
theorem zk_X1_isAsTold_1 : Cond.fieldLink RX1 16 "GroutingIsFollowed" "mind" "LGroutingIsFollowed$Bath;" ∈ wsX1_isAsTold := by decide +kernel
set_option maxHeartbeats 4000000 in
set_option maxRecDepth 100000 in
theorem zc_X1_isAsTold (l : Launch) (D : va_G) (cI : ClassId) (ad : Nat → Nat) (g_now : BT) (g_mind : BT) (g_taken : BT) (g_isTaken : Int32) (g_letters : (Nat → Int32)) (g_letterCount : Int32) (g_told : (Nat → Int32)) (g_toldCount : Int32) (g_refusals : (Nat → Int32)) (g_costs : (Nat → Int32)) (g_gains : (Nat → Int32)) (g_seed : Int32) (v1 : Int32) (r0 : Int32) (w_g_mind : BT) (h : zf_X1_isAsTold g_mind g_told g_toldCount v1 = some (r0, w_g_mind)) : Cn l D cI yX1_isAsTold wsX1_isAsTold rm_X1_isAsTold [.ref (ad 0), .int v1] (zb_G cI ad g_now g_mind g_taken g_isTaken g_letters g_letterCount g_told g_toldCount g_refusals g_costs g_gains g_seed) (some (.int r0)) (zb_G cI ad g_now w_g_mind g_taken g_isTaken g_letters g_letterCount g_told g_toldCount g_refusals g_costs g_gains g_seed) := by
  refine zb_ofW (cc := cX1_isAsTold) (maxL := 3) (ret := (some .boolean)) (by decide) rfl (Nat.le_of_ble_eq_true rfl) ?_
  intro p e s m args below meth c A ls hx hb hr hml hts hown hlk hK hP hD hA hl
  have hS : va_S A s.heap s.heap [] := va_S.rf
  have hl : lv_has ls 3 [(0, .ref (ad 0)), (1, .int v1)] := hl
  unfold zf_X1_isAsTold at h
  refine lv_iconst (v := (0 : Int32)) hx hb dX1_isAsTold_0 (by decide) ?_
  refine lv_istore_n (lv' := [(2, .int (0 : Int32)), (0, .ref (ad 0)), (1, .int v1)]) hx hb dX1_isAsTold_1 rfl hl (by decide) rfl (fun ls hl => ?_)
  have lp3 : ∀ (fu3 : Nat) (x1 : Int32) (x2 : BT) (H : Heap) (locs : List Loc) (hP : va_P D zb_cl (zb_G cI ad g_now x2 g_taken g_isTaken g_letters g_letterCount g_told g_toldCount g_refusals g_costs g_gains g_seed) H) (hD : va_D A (zb_G cI ad g_now x2 g_taken g_isTaken g_letters g_letterCount g_told g_toldCount g_refusals g_costs g_gains g_seed)) (hS : va_S A s.heap H locs) (ls : Array Slot) (hl : lv_has ls 3 [(0, .ref (ad 0)), (1, .int v1), (2, .int x1)]) (h : zl2 (zf_X1_isAsTold_b2 v1 g_told g_toldCount) fu3 x1 x2 = some (r0, w_g_mind)), W p l e rm_X1_isAsTold s m args below meth c H locs 0 0 (zb_Q below D (some (.int r0)) (zb_G cI ad g_now w_g_mind g_taken g_isTaken g_letters g_letterCount g_told g_toldCount g_refusals g_costs g_gains g_seed) A args s) (F0 m 2 ls []) := by
    intro fu3
    induction fu3 with
    | zero => intro x1 x2 H locs hP hD hS ls hl h; exact zb_no h
    | succ fu3 ih3 =>
      intro x1 x2 H locs hP hD hS ls hl h
      replace h : zf_X1_isAsTold_b2 v1 g_told g_toldCount (zl2 (zf_X1_isAsTold_b2 v1 g_told g_toldCount) fu3) x1 x2 = some (r0, w_g_mind) := h
      unfold zf_X1_isAsTold_b2 at h
      refine lv_iload_n hx hb dX1_isAsTold_2 rfl (lv_at hl 2 rfl) ?_
      refine lv_aload_n hx hb dX1_isAsTold_3 rfl (lv_at hl 0 rfl) ?_
      refine va_get (D := D) (ci := 1) (v := .int g_toldCount) (C := RX1) (T := TX1) (N := 12) hx hb hts zi_X1_isAsTold_X1 hown hK.1 hP 0 rfl rfl 7 (by decide) (hts _ zk_X1_isAsTold_0) (fun _ h9 => h9) rfl dX1_isAsTold_4 ?_
      refine lv_icmp_ge (tgt := 47) hx hb dX1_isAsTold_7 (by decide) (fun c4 => ?_) (fun c4 => ?_)
      · replace h := it_t c4 h
        refine lv_iconst (v := (1 : Int32)) hx hb dX1_isAsTold_47 (by decide) ?_
        obtain ⟨rfl, rfl⟩ := re2 h
        exact zb_zret hx hb hr hlk rfl hP hS dX1_isAsTold_48
      · replace h := it_f c4 h
        refine lv_iload_n hx hb dX1_isAsTold_10 rfl (lv_at hl 2 rfl) ?_
        refine lv_if_le (tgt := 23) hx hb dX1_isAsTold_11 (by decide) (fun c5 => ?_) (fun c5 => ?_)
        · replace h := it_t c5 h
          refine lv_aload_n hx hb dX1_isAsTold_23 rfl (lv_at hl 0 rfl) ?_
          refine va_get (D := D) (ci := 1) (v := .ref (ad 8)) (C := RX1) (T := TX1) (N := 12) hx hb hts zi_X1_isAsTold_X1 hown hK.1 hP 0 rfl rfl 1 (by decide) (hts _ zk_X1_isAsTold_1) (fun _ h9 => h9) rfl dX1_isAsTold_24 ?_
          refine lv_iload_n hx hb dX1_isAsTold_27 rfl (lv_at hl 1 rfl) ?_
          obtain ⟨r6, g7, h⟩ := bo1 h
          refine zb_callV (As := [.int v1]) (rest := []) ⟨hx, hb, hml, hown, hts⟩ (zc_X0_placeOf l D cI (ad 8) (ad 9) (ad 10) (ad 11) (ad 12) (ad 13) (ad 14) x2 v1 r6 g7) (cwV 1 hts gX1_isAsTold_X0_placeOf rfl rfl rfl hd_X0_placeOf ⟨Nat.le_of_ble_eq_true rfl, Nat.le_of_ble_eq_true rfl⟩) hK hP hD hS hA (zb_cGm) (q0 := 0) rfl rfl rfl hl.1 rfl (Nat.le_of_ble_eq_true rfl) dX1_isAsTold_28 ⟨Nat.le_refl _, Nat.le_refl _⟩ (fun H locs hP hD hS => ?_)
          refine lv_aload_n hx hb dX1_isAsTold_31 rfl (lv_at hl 0 rfl) ?_
          refine lv_iload_n hx hb dX1_isAsTold_32 rfl (lv_at hl 2 rfl) ?_
          obtain ⟨r8, g9, h⟩ := bo1 h
          refine zb_callV (As := [.int x1]) (rest := [.int r6]) ⟨hx, hb, hml, hown, hts⟩ (zc_X1_toldAt l D cI ad g_now x2 g_taken g_isTaken g_letters g_letterCount g_told g_toldCount g_refusals g_costs g_gains g_seed x1 r8 g9) (cwV 1 hts gX1_isAsTold_X1_toldAt rfl rfl rfl hd_X1_toldAt ⟨Nat.le_of_ble_eq_true rfl, Nat.le_of_ble_eq_true rfl⟩) hK hP hD hS hA (zb_sG) (q0 := 0) rfl rfl rfl hl.1 rfl (Nat.le_of_ble_eq_true rfl) dX1_isAsTold_33 ⟨Nat.le_refl _, Nat.le_refl _⟩ (fun H locs hP hD hS => ?_)
          refine lv_icmp_eq (tgt := 41) hx hb dX1_isAsTold_36 (by decide) (fun c10 => ?_) (fun c10 => ?_)
          · replace h := it_t c10 h
            refine lv_iinc (v := (x1 + (1 : Int32))) (lv' := [(2, .int (x1 + (1 : Int32))), (0, .ref (ad 0)), (1, .int v1)]) hx hb dX1_isAsTold_41 hl (k := 2) rfl (by first | rfl | decide) (by decide) rfl (fun ls hl => ?_)
            refine lv_goto (tgt := 2) hx hb dX1_isAsTold_44 (by decide) ?_
            exact ih3 (x1 + (1 : Int32)) x2 _ _ hP hD hS ls (lv_sub hl [1, 2, 0] rfl) h
          · replace h := it_f c10 h
            refine lv_iconst (v := (0 : Int32)) hx hb dX1_isAsTold_39 (by decide) ?_
            obtain ⟨rfl, rfl⟩ := re2 h
            exact zb_zret hx hb hr hlk rfl hP hS dX1_isAsTold_40
        · replace h := it_f c5 h
          refine lv_aload_n hx hb dX1_isAsTold_14 rfl (lv_at hl 0 rfl) ?_
          refine va_get (D := D) (ci := 1) (v := .ref (ad 8)) (C := RX1) (T := TX1) (N := 12) hx hb hts zi_X1_isAsTold_X1 hown hK.1 hP 0 rfl rfl 1 (by decide) (hts _ zk_X1_isAsTold_1) (fun _ h9 => h9) rfl dX1_isAsTold_15 ?_
          refine lv_iconst (v := (1 : Int32)) hx hb dX1_isAsTold_18 (by decide) ?_
          refine lv_iconst (v := (0 : Int32)) hx hb dX1_isAsTold_19 (by decide) ?_
          obtain ⟨n11, g12, h⟩ := bo1 h
          refine zb_callV (As := [.int (1 : Int32), .int (0 : Int32)]) (rest := []) ⟨hx, hb, hml, hown, hts⟩ (zc_X0_goOn l D cI (ad 8) (ad 9) (ad 10) (ad 11) (ad 12) (ad 13) (ad 14) x2 (1 : Int32) (0 : Int32) n11 g12) (cwV 2 hts gX1_isAsTold_X0_goOn rfl rfl rfl hd_X0_goOn ⟨Nat.le_of_ble_eq_true rfl, Nat.le_of_ble_eq_true rfl⟩) hK hP hD hS hA (zb_cGm) (q0 := 0) rfl rfl rfl hl.1 rfl (Nat.le_of_ble_eq_true rfl) dX1_isAsTold_20 ⟨Nat.le_refl _, Nat.le_refl _⟩ (fun H locs hP hD hS => ?_)
          refine lv_aload_n hx hb dX1_isAsTold_23 rfl (lv_at hl 0 rfl) ?_
          refine va_get (D := D) (ci := 1) (v := .ref (ad 8)) (C := RX1) (T := TX1) (N := 12) hx hb hts zi_X1_isAsTold_X1 hown hK.1 hP 0 rfl rfl 1 (by decide) (hts _ zk_X1_isAsTold_1) (fun _ h9 => h9) rfl dX1_isAsTold_24 ?_
          refine lv_iload_n hx hb dX1_isAsTold_27 rfl (lv_at hl 1 rfl) ?_
          obtain ⟨r13, g14, h⟩ := bo1 h
          refine zb_callV (As := [.int v1]) (rest := []) ⟨hx, hb, hml, hown, hts⟩ (zc_X0_placeOf l D cI (ad 8) (ad 9) (ad 10) (ad 11) (ad 12) (ad 13) (ad 14) n11 v1 r13 g14) (cwV 1 hts gX1_isAsTold_X0_placeOf rfl rfl rfl hd_X0_placeOf ⟨Nat.le_of_ble_eq_true rfl, Nat.le_of_ble_eq_true rfl⟩) hK hP hD hS hA (zb_cGm) (q0 := 0) rfl rfl rfl hl.1 rfl (Nat.le_of_ble_eq_true rfl) dX1_isAsTold_28 ⟨Nat.le_refl _, Nat.le_refl _⟩ (fun H locs hP hD hS => ?_)
          refine lv_aload_n hx hb dX1_isAsTold_31 rfl (lv_at hl 0 rfl) ?_
          refine lv_iload_n hx hb dX1_isAsTold_32 rfl (lv_at hl 2 rfl) ?_
          obtain ⟨r15, g16, h⟩ := bo1 h
          refine zb_callV (As := [.int x1]) (rest := [.int r13]) ⟨hx, hb, hml, hown, hts⟩ (zc_X1_toldAt l D cI ad g_now n11 g_taken g_isTaken g_letters g_letterCount g_told g_toldCount g_refusals g_costs g_gains g_seed x1 r15 g16) (cwV 1 hts gX1_isAsTold_X1_toldAt rfl rfl rfl hd_X1_toldAt ⟨Nat.le_of_ble_eq_true rfl, Nat.le_of_ble_eq_true rfl⟩) hK hP hD hS hA (zb_sG) (q0 := 0) rfl rfl rfl hl.1 rfl (Nat.le_of_ble_eq_true rfl) dX1_isAsTold_33 ⟨Nat.le_refl _, Nat.le_refl _⟩ (fun H locs hP hD hS => ?_)
          refine lv_icmp_eq (tgt := 41) hx hb dX1_isAsTold_36 (by decide) (fun c17 => ?_) (fun c17 => ?_)
          · replace h := it_t c17 h
            refine lv_iinc (v := (x1 + (1 : Int32))) (lv' := [(2, .int (x1 + (1 : Int32))), (0, .ref (ad 0)), (1, .int v1)]) hx hb dX1_isAsTold_41 hl (k := 2) rfl (by first | rfl | decide) (by decide) rfl (fun ls hl => ?_)
            refine lv_goto (tgt := 2) hx hb dX1_isAsTold_44 (by decide) ?_
            exact ih3 (x1 + (1 : Int32)) n11 _ _ hP hD hS ls (lv_sub hl [1, 2, 0] rfl) h
          · replace h := it_f c17 h
            refine lv_iconst (v := (0 : Int32)) hx hb dX1_isAsTold_39 (by decide) ?_
            obtain ⟨rfl, rfl⟩ := re2 h
            exact zb_zret hx hb hr hlk rfl hP hS dX1_isAsTold_40
  exact lp3 zb_FU (0 : Int32) g_mind _ _ hP hD hS ls (lv_sub hl [1, 2, 0] rfl) h
abbrev rm_X1_whatIs : Room := { frames := 4, cells := 0, slots := 0, locals := 94 }
theorem hd_X1_whatIs : yX1_whatIs.cls = RX1 ∧ yX1_whatIs.cls ≠ "java/lang/invoke/MethodHandle" ∧ yX1_whatIs.cls ≠ "java/lang/invoke/VarHandle" ∧ (parseMethodDescriptor yX1_whatIs.desc).map (fun d => d.parameters.length) = some 3 := by decide +kernel
theorem zi_X1_whatIs_X1 : ∀ w ∈ wsX10, w ∈ wsX1_whatIs := fun _ h => List.mem_cons_of_mem _ (List.mem_append_left _ (List.mem_append_right _ h))
theorem zk_X1_whatIs_0 : Cond.fieldLink RX1 10 "GroutingIsFollowed" "now" "LGroutingIsFollowed$Bath;" ∈ wsX1_whatIs := by decide +kernel
theorem zk_X1_whatIs_1 : Cond.fieldLink RX1 16 "GroutingIsFollowed" "mind" "LGroutingIsFollowed$Bath;" ∈ wsX1_whatIs := by decide +kernel
set_option maxHeartbeats 4000000 in
set_option maxRecDepth 100000 in
theorem zc_X1_whatIs (l : Launch) (D : va_G) (cI : ClassId) (ad : Nat → Nat) (g_now : BT) (g_mind : BT) (g_taken : BT) (g_isTaken : Int32) (g_letters : (Nat → Int32)) (g_letterCount : Int32) (g_told : (Nat → Int32)) (g_toldCount : Int32) (g_refusals : (Nat → Int32)) (g_costs : (Nat → Int32)) (g_gains : (Nat → Int32)) (g_seed : Int32) (v1 : Int32) (v2 : Int32) (v3 : Int32) (r0 : Int32) (w_g_mind : BT) (w_g_refusals : (Nat → Int32)) (h : zf_X1_whatIs g_now g_mind g_told g_toldCount g_refusals v1 v2 v3 = some (r0, w_g_mind, w_g_refusals)) : Cn l D cI yX1_whatIs wsX1_whatIs rm_X1_whatIs [.ref (ad 0), .int v1, .int v2, .int v3] (zb_G cI ad g_now g_mind g_taken g_isTaken g_letters g_letterCount g_told g_toldCount g_refusals g_costs g_gains g_seed) (some (.int r0)) (zb_G cI ad g_now w_g_mind g_taken g_isTaken g_letters g_letterCount g_told g_toldCount w_g_refusals g_costs g_gains g_seed) := by
  refine zb_ofW (cc := cX1_whatIs) (maxL := 7) (ret := (some .int)) (by decide) rfl (Nat.le_of_ble_eq_true rfl) ?_
  intro p e s m args below meth c A ls hx hb hr hml hts hown hlk hK hP hD hA hl
  have hS : va_S A s.heap s.heap [] := va_S.rf
  have hl : lv_has ls 7 [(0, .ref (ad 0)), (1, .int v1), (2, .int v2), (3, .int v3)] := hl
  unfold zf_X1_whatIs at h
  refine lv_iload_n hx hb dX1_whatIs_0 rfl (lv_at hl 1 rfl) ?_
  obtain ⟨r1, g2, h⟩ := bo1 h
  refine zb_callS (As := [.int v1]) (rest := []) ⟨hx, hb, hml, hown, hts⟩ (zc_X1_isNode l D cI v1 r1 g2) (va_cwS 1 hts gX1_whatIs_X1_isNode rfl rfl rfl hd_X1_isNode.2 ⟨Nat.le_of_ble_eq_true rfl, Nat.le_of_ble_eq_true rfl⟩) hK hP hD hS hA (zb_none _) rfl hl.1 rfl (Nat.le_of_ble_eq_true rfl) dX1_whatIs_1 ⟨Nat.le_refl _, Nat.le_refl _⟩ (fun H locs hP hD hS => ?_)
  refine lv_if_eq (tgt := 18) hx hb dX1_whatIs_4 (by decide) (fun c3 => ?_) (fun c3 => ?_)
  · replace h := it_t c3 h
    refine lv_aload_n hx hb dX1_whatIs_18 rfl (lv_at hl 0 rfl) ?_
    refine lv_iconst (v := ((-1) : Int32)) hx hb dX1_whatIs_19 (by decide) ?_
    obtain ⟨r4, n5, g6, h⟩ := bo2 h
    refine zb_callV (As := [.int ((-1) : Int32)]) (rest := []) ⟨hx, hb, hml, hown, hts⟩ (zc_X1_refuse l D cI ad g_now g_mind g_taken g_isTaken g_letters g_letterCount g_told g_toldCount g_refusals g_costs g_gains g_seed ((-1) : Int32) r4 n5 g6) (cwV 1 hts gX1_whatIs_X1_refuse rfl rfl rfl hd_X1_refuse ⟨Nat.le_of_ble_eq_true rfl, Nat.le_of_ble_eq_true rfl⟩) hK hP hD hS hA (zb_sG) (q0 := 0) rfl rfl rfl hl.1 rfl (Nat.le_of_ble_eq_true rfl) dX1_whatIs_20 ⟨Nat.le_refl _, Nat.le_refl _⟩ (fun H locs hP hD hS => ?_)
    obtain ⟨rfl, rfl, rfl⟩ := re3 h
    exact zb_iret hx hb hr hlk hP hS dX1_whatIs_23
  · replace h := it_f c3 h
    refine lv_aload_n hx hb dX1_whatIs_7 rfl (lv_at hl 0 rfl) ?_
    refine va_get (D := D) (ci := 1) (v := .ref (ad 1)) (C := RX1) (T := TX1) (N := 12) hx hb hts zi_X1_whatIs_X1 hown hK.1 hP 0 rfl rfl 0 (by decide) (hts _ zk_X1_whatIs_0) (fun _ h9 => h9) rfl dX1_whatIs_8 ?_
    refine lv_iload_n hx hb dX1_whatIs_11 rfl (lv_at hl 2 rfl) ?_
    obtain ⟨r7, g8, h⟩ := bo1 h
    refine zb_callV (As := [.int v2]) (rest := []) ⟨hx, hb, hml, hown, hts⟩ (zc_X0_has l D cI (ad 1) (ad 2) (ad 3) (ad 4) (ad 5) (ad 6) (ad 7) g_now v2 r7 g8) (cwV 1 hts gX1_whatIs_X0_has rfl rfl rfl hd_X0_has ⟨Nat.le_of_ble_eq_true rfl, Nat.le_of_ble_eq_true rfl⟩) hK hP hD hS hA (zb_cGn) (q0 := 0) rfl rfl rfl hl.1 rfl (Nat.le_of_ble_eq_true rfl) dX1_whatIs_12 ⟨Nat.le_refl _, Nat.le_refl _⟩ (fun H locs hP hD hS => ?_)
    refine lv_if_ne (tgt := 24) hx hb dX1_whatIs_15 (by decide) (fun c9 => ?_) (fun c9 => ?_)
    · replace h := it_f c9 h
      refine lv_iload_n hx hb dX1_whatIs_24 rfl (lv_at hl 3 rfl) ?_
      refine lv_if_lt (tgt := 33) hx hb dX1_whatIs_25 (by decide) (fun c10 => ?_) (fun c10 => ?_)
      · replace h := it_t c10 h
        refine lv_aload_n hx hb dX1_whatIs_33 rfl (lv_at hl 0 rfl) ?_
        refine lv_bipush (v := ((-2) : Int32)) hx hb dX1_whatIs_34 (by decide) ?_
        obtain ⟨r11, n12, g13, h⟩ := bo2 h
        refine zb_callV (As := [.int ((-2) : Int32)]) (rest := []) ⟨hx, hb, hml, hown, hts⟩ (zc_X1_refuse l D cI ad g_now g_mind g_taken g_isTaken g_letters g_letterCount g_told g_toldCount g_refusals g_costs g_gains g_seed ((-2) : Int32) r11 n12 g13) (cwV 1 hts gX1_whatIs_X1_refuse rfl rfl rfl hd_X1_refuse ⟨Nat.le_of_ble_eq_true rfl, Nat.le_of_ble_eq_true rfl⟩) hK hP hD hS hA (zb_sG) (q0 := 0) rfl rfl rfl hl.1 rfl (Nat.le_of_ble_eq_true rfl) dX1_whatIs_36 ⟨Nat.le_refl _, Nat.le_refl _⟩ (fun H locs hP hD hS => ?_)
        obtain ⟨rfl, rfl, rfl⟩ := re3 h
        exact zb_iret hx hb hr hlk hP hS dX1_whatIs_39
      · replace h := it_f c10 h
        refine lv_iload_n hx hb dX1_whatIs_28 rfl (lv_at hl 3 rfl) ?_
        refine lv_iconst (v := (1 : Int32)) hx hb dX1_whatIs_29 (by decide) ?_
        refine lv_icmp_le (tgt := 40) hx hb dX1_whatIs_30 (by decide) (fun c14 => ?_) (fun c14 => ?_)
        · replace h := it_t c14 h
          refine lv_iconst (v := (0 : Int32)) hx hb dX1_whatIs_40 (by decide) ?_
          refine lv_istore (lv' := [(4, .int (0 : Int32)), (0, .ref (ad 0)), (1, .int v1), (2, .int v2), (3, .int v3)]) hx hb dX1_whatIs_41 hl (by decide) rfl (fun ls hl => ?_)
          refine lv_iload_n hx hb dX1_whatIs_43 rfl (lv_at hl 4 rfl) ?_
          refine lv_if_ne (tgt := 51) hx hb dX1_whatIs_44 (by decide) (fun c15 => ?_) (fun c15 => ?_)
          · replace h := it_f c15 h
            refine lv_bipush (v := (9 : Int32)) hx hb dX1_whatIs_51 (by decide) ?_
            refine lv_istore (lv' := [(5, .int (9 : Int32)), (4, .int (0 : Int32)), (0, .ref (ad 0)), (1, .int v1), (2, .int v2), (3, .int v3)]) hx hb dX1_whatIs_53 hl (by decide) rfl (fun ls hl => ?_)
            refine lv_iconst (v := (0 : Int32)) hx hb dX1_whatIs_55 (by decide) ?_
            refine lv_istore (lv' := [(6, .int (0 : Int32)), (5, .int (9 : Int32)), (4, .int (0 : Int32)), (0, .ref (ad 0)), (1, .int v1), (2, .int v2), (3, .int v3)]) hx hb dX1_whatIs_56 hl (by decide) rfl (fun ls hl => ?_)
            have lp19 : ∀ (fu19 : Nat) (x16 : Int32) (x17 : Int32) (x18 : BT) (H : Heap) (locs : List Loc) (hP : va_P D zb_cl (zb_G cI ad g_now x18 g_taken g_isTaken g_letters g_letterCount g_told g_toldCount g_refusals g_costs g_gains g_seed) H) (hD : va_D A (zb_G cI ad g_now x18 g_taken g_isTaken g_letters g_letterCount g_told g_toldCount g_refusals g_costs g_gains g_seed)) (hS : va_S A s.heap H locs) (ls : Array Slot) (hl : lv_has ls 7 [(0, .ref (ad 0)), (1, .int v1), (2, .int v2), (3, .int v3), (4, .int x16), (5, .int (9 : Int32)), (6, .int x17)]) (h : zl3 (zf_X1_whatIs_b58 v1 v2 v3 (9 : Int32) g_now g_told g_toldCount g_refusals) fu19 x16 x17 x18 = some (r0, w_g_mind, w_g_refusals)), W p l e rm_X1_whatIs s m args below meth c H locs 0 0 (zb_Q below D (some (.int r0)) (zb_G cI ad g_now w_g_mind g_taken g_isTaken g_letters g_letterCount g_told g_toldCount w_g_refusals g_costs g_gains g_seed) A args s) (F0 m 58 ls []) := by
              intro fu19
              induction fu19 with
              | zero => intro x16 x17 x18 H locs hP hD hS ls hl h; exact zb_no h
              | succ fu19 ih19 =>
                intro x16 x17 x18 H locs hP hD hS ls hl h
                replace h : zf_X1_whatIs_b58 v1 v2 v3 (9 : Int32) g_now g_told g_toldCount g_refusals (zl3 (zf_X1_whatIs_b58 v1 v2 v3 (9 : Int32) g_now g_told g_toldCount g_refusals) fu19) x16 x17 x18 = some (r0, w_g_mind, w_g_refusals) := h
                unfold zf_X1_whatIs_b58 at h
                refine lv_iload hx hb dX1_whatIs_58 (lv_at hl 6 rfl) ?_
                refine lv_iload hx hb dX1_whatIs_60 (lv_at hl 5 rfl) ?_
                refine lv_icmp_gt (tgt := 126) hx hb dX1_whatIs_62 (by decide) (fun c20 => ?_) (fun c20 => ?_)
                · replace h := it_t c20 h
                  refine lv_iload hx hb dX1_whatIs_126 (lv_at hl 4 rfl) ?_
                  obtain ⟨rfl, rfl, rfl⟩ := re3 h
                  exact zb_iret hx hb hr hlk hP hS dX1_whatIs_128
                · replace h := it_f c20 h
                  refine lv_aload_n hx hb dX1_whatIs_65 rfl (lv_at hl 0 rfl) ?_
                  refine va_get (D := D) (ci := 1) (v := .ref (ad 8)) (C := RX1) (T := TX1) (N := 12) hx hb hts zi_X1_whatIs_X1 hown hK.1 hP 0 rfl rfl 1 (by decide) (hts _ zk_X1_whatIs_1) (fun _ h9 => h9) rfl dX1_whatIs_66 ?_
                  refine lv_aload_n hx hb dX1_whatIs_69 rfl (lv_at hl 0 rfl) ?_
                  refine va_get (D := D) (ci := 1) (v := .ref (ad 1)) (C := RX1) (T := TX1) (N := 12) hx hb hts zi_X1_whatIs_X1 hown hK.1 hP 0 rfl rfl 0 (by decide) (hts _ zk_X1_whatIs_0) (fun _ h9 => h9) rfl dX1_whatIs_70 ?_
                  obtain ⟨n21, g22, h⟩ := bo1 h
                  refine zb_callV (As := [.ref (ad 1)]) (rest := []) ⟨hx, hb, hml, hown, hts⟩ (zc_X0_becomes l D cI (ad 8) (ad 9) (ad 10) (ad 11) (ad 12) (ad 13) (ad 14) (ad 1) (ad 2) (ad 3) (ad 4) (ad 5) (ad 6) (ad 7) x18 g_now n21 g22) (cwV 1 hts gX1_whatIs_X0_becomes rfl rfl rfl hd_X0_becomes ⟨Nat.le_of_ble_eq_true rfl, Nat.le_of_ble_eq_true rfl⟩) hK hP hD hS hA (zb_cGmn) (q0 := 0) rfl rfl rfl hl.1 rfl (Nat.le_of_ble_eq_true rfl) dX1_whatIs_73 ⟨Nat.le_refl _, Nat.le_refl _⟩ (fun H locs hP hD hS => ?_)
                  refine lv_iload_n hx hb dX1_whatIs_76 rfl (lv_at hl 3 rfl) ?_
                  refine lv_if_ne (tgt := 93) hx hb dX1_whatIs_77 (by decide) (fun c23 => ?_) (fun c23 => ?_)
                  · replace h := it_f c23 h
                    refine lv_aload_n hx hb dX1_whatIs_93 rfl (lv_at hl 0 rfl) ?_
                    refine va_get (D := D) (ci := 1) (v := .ref (ad 8)) (C := RX1) (T := TX1) (N := 12) hx hb hts zi_X1_whatIs_X1 hown hK.1 hP 0 rfl rfl 1 (by decide) (hts _ zk_X1_whatIs_1) (fun _ h9 => h9) rfl dX1_whatIs_94 ?_
                    refine lv_iload_n hx hb dX1_whatIs_97 rfl (lv_at hl 1 rfl) ?_
                    refine lv_iload hx hb dX1_whatIs_98 (lv_at hl 6 rfl) ?_
                    obtain ⟨n24, g25, h⟩ := bo1 h
                    refine zb_callV (As := [.int v1, .int x17]) (rest := []) ⟨hx, hb, hml, hown, hts⟩ (zc_X0_putFigure l D cI (ad 8) (ad 9) (ad 10) (ad 11) (ad 12) (ad 13) (ad 14) n21 v1 x17 n24 g25) (cwV 2 hts gX1_whatIs_X0_putFigure rfl rfl rfl hd_X0_putFigure ⟨Nat.le_of_ble_eq_true rfl, Nat.le_of_ble_eq_true rfl⟩) hK hP hD hS hA (zb_cGm) (q0 := 0) rfl rfl rfl hl.1 rfl (Nat.le_of_ble_eq_true rfl) dX1_whatIs_100 ⟨Nat.le_refl _, Nat.le_refl _⟩ (fun H locs hP hD hS => ?_)
                    refine lv_aload_n hx hb dX1_whatIs_103 rfl (lv_at hl 0 rfl) ?_
                    refine lv_iload_n hx hb dX1_whatIs_104 rfl (lv_at hl 2 rfl) ?_
                    obtain ⟨r26, n27, g28, h⟩ := bo2 h
                    refine zb_callV (As := [.int v2]) (rest := []) ⟨hx, hb, hml, hown, hts⟩ (zc_X1_isAsTold l D cI ad g_now n24 g_taken g_isTaken g_letters g_letterCount g_told g_toldCount g_refusals g_costs g_gains g_seed v2 r26 n27 g28) (cwV 1 hts gX1_whatIs_X1_isAsTold rfl rfl rfl hd_X1_isAsTold ⟨Nat.le_of_ble_eq_true rfl, Nat.le_of_ble_eq_true rfl⟩) hK hP hD hS hA (zb_sG) (q0 := 0) rfl rfl rfl hl.1 rfl (Nat.le_of_ble_eq_true rfl) dX1_whatIs_105 ⟨Nat.le_refl _, Nat.le_refl _⟩ (fun H locs hP hD hS => ?_)
                    refine lv_if_eq (tgt := 120) hx hb dX1_whatIs_108 (by decide) (fun c29 => ?_) (fun c29 => ?_)
                    · replace h := it_t c29 h
                      refine lv_iinc (v := (x17 + (1 : Int32))) (lv' := [(6, .int (x17 + (1 : Int32))), (0, .ref (ad 0)), (1, .int v1), (2, .int v2), (3, .int v3), (4, .int x16), (5, .int (9 : Int32))]) hx hb dX1_whatIs_120 hl (k := 6) rfl (by first | rfl | decide) (by decide) rfl (fun ls hl => ?_)
                      refine lv_goto (tgt := 58) hx hb dX1_whatIs_123 (by decide) ?_
                      exact ih19 x16 (x17 + (1 : Int32)) n27 _ _ hP hD hS ls (lv_sub hl [1, 2, 3, 4, 5, 6, 0] rfl) h
                    · replace h := it_f c29 h
                      refine lv_iload hx hb dX1_whatIs_111 (lv_at hl 4 rfl) ?_
                      refine lv_iconst (v := (1 : Int32)) hx hb dX1_whatIs_113 (by decide) ?_
                      refine lv_iload hx hb dX1_whatIs_114 (lv_at hl 6 rfl) ?_
                      refine lv_ishl hx hb dX1_whatIs_116 ?_
                      refine lv_ior hx hb dX1_whatIs_117 ?_
                      refine lv_istore (lv' := [(4, .int (x16 ||| ((1 : Int32) <<< (x17 &&& 31)))), (0, .ref (ad 0)), (1, .int v1), (2, .int v2), (3, .int v3), (5, .int (9 : Int32)), (6, .int x17)]) hx hb dX1_whatIs_118 hl (by decide) rfl (fun ls hl => ?_)
                      refine lv_iinc (v := (x17 + (1 : Int32))) (lv' := [(6, .int (x17 + (1 : Int32))), (4, .int (x16 ||| ((1 : Int32) <<< (x17 &&& 31)))), (0, .ref (ad 0)), (1, .int v1), (2, .int v2), (3, .int v3), (5, .int (9 : Int32))]) hx hb dX1_whatIs_120 hl (k := 6) rfl (by first | rfl | decide) (by decide) rfl (fun ls hl => ?_)
                      refine lv_goto (tgt := 58) hx hb dX1_whatIs_123 (by decide) ?_
                      exact ih19 (x16 ||| ((1 : Int32) <<< (x17 &&& 31))) (x17 + (1 : Int32)) n27 _ _ hP hD hS ls (lv_sub hl [2, 3, 4, 5, 1, 6, 0] rfl) h
                  · replace h := it_t c23 h
                    refine lv_aload_n hx hb dX1_whatIs_80 rfl (lv_at hl 0 rfl) ?_
                    refine va_get (D := D) (ci := 1) (v := .ref (ad 8)) (C := RX1) (T := TX1) (N := 12) hx hb hts zi_X1_whatIs_X1 hown hK.1 hP 0 rfl rfl 1 (by decide) (hts _ zk_X1_whatIs_1) (fun _ h9 => h9) rfl dX1_whatIs_81 ?_
                    refine lv_iload_n hx hb dX1_whatIs_84 rfl (lv_at hl 1 rfl) ?_
                    refine lv_iload hx hb dX1_whatIs_85 (lv_at hl 6 rfl) ?_
                    obtain ⟨n30, g31, h⟩ := bo1 h
                    refine zb_callV (As := [.int v1, .int x17]) (rest := []) ⟨hx, hb, hml, hown, hts⟩ (zc_X0_putKind l D cI (ad 8) (ad 9) (ad 10) (ad 11) (ad 12) (ad 13) (ad 14) n21 v1 x17 n30 g31) (cwV 2 hts gX1_whatIs_X0_putKind rfl rfl rfl hd_X0_putKind ⟨Nat.le_of_ble_eq_true rfl, Nat.le_of_ble_eq_true rfl⟩) hK hP hD hS hA (zb_cGm) (q0 := 0) rfl rfl rfl hl.1 rfl (Nat.le_of_ble_eq_true rfl) dX1_whatIs_87 ⟨Nat.le_refl _, Nat.le_refl _⟩ (fun H locs hP hD hS => ?_)
                    refine lv_goto (tgt := 103) hx hb dX1_whatIs_90 (by decide) ?_
                    refine lv_aload_n hx hb dX1_whatIs_103 rfl (lv_at hl 0 rfl) ?_
                    refine lv_iload_n hx hb dX1_whatIs_104 rfl (lv_at hl 2 rfl) ?_
                    obtain ⟨r32, n33, g34, h⟩ := bo2 h
                    refine zb_callV (As := [.int v2]) (rest := []) ⟨hx, hb, hml, hown, hts⟩ (zc_X1_isAsTold l D cI ad g_now n30 g_taken g_isTaken g_letters g_letterCount g_told g_toldCount g_refusals g_costs g_gains g_seed v2 r32 n33 g34) (cwV 1 hts gX1_whatIs_X1_isAsTold rfl rfl rfl hd_X1_isAsTold ⟨Nat.le_of_ble_eq_true rfl, Nat.le_of_ble_eq_true rfl⟩) hK hP hD hS hA (zb_sG) (q0 := 0) rfl rfl rfl hl.1 rfl (Nat.le_of_ble_eq_true rfl) dX1_whatIs_105 ⟨Nat.le_refl _, Nat.le_refl _⟩ (fun H locs hP hD hS => ?_)
                    refine lv_if_eq (tgt := 120) hx hb dX1_whatIs_108 (by decide) (fun c35 => ?_) (fun c35 => ?_)
                    · replace h := it_t c35 h
                      refine lv_iinc (v := (x17 + (1 : Int32))) (lv' := [(6, .int (x17 + (1 : Int32))), (0, .ref (ad 0)), (1, .int v1), (2, .int v2), (3, .int v3), (4, .int x16), (5, .int (9 : Int32))]) hx hb dX1_whatIs_120 hl (k := 6) rfl (by first | rfl | decide) (by decide) rfl (fun ls hl => ?_)
                      refine lv_goto (tgt := 58) hx hb dX1_whatIs_123 (by decide) ?_
                      exact ih19 x16 (x17 + (1 : Int32)) n33 _ _ hP hD hS ls (lv_sub hl [1, 2, 3, 4, 5, 6, 0] rfl) h
                    · replace h := it_f c35 h
                      refine lv_iload hx hb dX1_whatIs_111 (lv_at hl 4 rfl) ?_
                      refine lv_iconst (v := (1 : Int32)) hx hb dX1_whatIs_113 (by decide) ?_
                      refine lv_iload hx hb dX1_whatIs_114 (lv_at hl 6 rfl) ?_
                      refine lv_ishl hx hb dX1_whatIs_116 ?_
                      refine lv_ior hx hb dX1_whatIs_117 ?_
                      refine lv_istore (lv' := [(4, .int (x16 ||| ((1 : Int32) <<< (x17 &&& 31)))), (0, .ref (ad 0)), (1, .int v1), (2, .int v2), (3, .int v3), (5, .int (9 : Int32)), (6, .int x17)]) hx hb dX1_whatIs_118 hl (by decide) rfl (fun ls hl => ?_)
                      refine lv_iinc (v := (x17 + (1 : Int32))) (lv' := [(6, .int (x17 + (1 : Int32))), (4, .int (x16 ||| ((1 : Int32) <<< (x17 &&& 31)))), (0, .ref (ad 0)), (1, .int v1), (2, .int v2), (3, .int v3), (5, .int (9 : Int32))]) hx hb dX1_whatIs_120 hl (k := 6) rfl (by first | rfl | decide) (by decide) rfl (fun ls hl => ?_)
                      refine lv_goto (tgt := 58) hx hb dX1_whatIs_123 (by decide) ?_
                      exact ih19 (x16 ||| ((1 : Int32) <<< (x17 &&& 31))) (x17 + (1 : Int32)) n33 _ _ hP hD hS ls (lv_sub hl [2, 3, 4, 5, 1, 6, 0] rfl) h
            exact lp19 zb_FU (0 : Int32) (0 : Int32) g_mind _ _ hP hD hS ls (lv_sub hl [3, 4, 5, 6, 2, 1, 0] rfl) h
          · replace h := it_t c15 h
            refine lv_iconst (v := (5 : Int32)) hx hb dX1_whatIs_47 (by decide) ?_
            refine lv_goto (tgt := 53) hx hb dX1_whatIs_48 (by decide) ?_
            refine lv_istore (lv' := [(5, .int (5 : Int32)), (4, .int (0 : Int32)), (0, .ref (ad 0)), (1, .int v1), (2, .int v2), (3, .int v3)]) hx hb dX1_whatIs_53 hl (by decide) rfl (fun ls hl => ?_)
            refine lv_iconst (v := (0 : Int32)) hx hb dX1_whatIs_55 (by decide) ?_
            refine lv_istore (lv' := [(6, .int (0 : Int32)), (5, .int (5 : Int32)), (4, .int (0 : Int32)), (0, .ref (ad 0)), (1, .int v1), (2, .int v2), (3, .int v3)]) hx hb dX1_whatIs_56 hl (by decide) rfl (fun ls hl => ?_)
            have lp39 : ∀ (fu39 : Nat) (x36 : Int32) (x37 : Int32) (x38 : BT) (H : Heap) (locs : List Loc) (hP : va_P D zb_cl (zb_G cI ad g_now x38 g_taken g_isTaken g_letters g_letterCount g_told g_toldCount g_refusals g_costs g_gains g_seed) H) (hD : va_D A (zb_G cI ad g_now x38 g_taken g_isTaken g_letters g_letterCount g_told g_toldCount g_refusals g_costs g_gains g_seed)) (hS : va_S A s.heap H locs) (ls : Array Slot) (hl : lv_has ls 7 [(0, .ref (ad 0)), (1, .int v1), (2, .int v2), (3, .int v3), (4, .int x36), (5, .int (5 : Int32)), (6, .int x37)]) (h : zl3 (zf_X1_whatIs_b58 v1 v2 v3 (5 : Int32) g_now g_told g_toldCount g_refusals) fu39 x36 x37 x38 = some (r0, w_g_mind, w_g_refusals)), W p l e rm_X1_whatIs s m args below meth c H locs 0 0 (zb_Q below D (some (.int r0)) (zb_G cI ad g_now w_g_mind g_taken g_isTaken g_letters g_letterCount g_told g_toldCount w_g_refusals g_costs g_gains g_seed) A args s) (F0 m 58 ls []) := by
              intro fu39
              induction fu39 with
              | zero => intro x36 x37 x38 H locs hP hD hS ls hl h; exact zb_no h
              | succ fu39 ih39 =>
                intro x36 x37 x38 H locs hP hD hS ls hl h
                replace h : zf_X1_whatIs_b58 v1 v2 v3 (5 : Int32) g_now g_told g_toldCount g_refusals (zl3 (zf_X1_whatIs_b58 v1 v2 v3 (5 : Int32) g_now g_told g_toldCount g_refusals) fu39) x36 x37 x38 = some (r0, w_g_mind, w_g_refusals) := h
                unfold zf_X1_whatIs_b58 at h
                refine lv_iload hx hb dX1_whatIs_58 (lv_at hl 6 rfl) ?_
                refine lv_iload hx hb dX1_whatIs_60 (lv_at hl 5 rfl) ?_
                refine lv_icmp_gt (tgt := 126) hx hb dX1_whatIs_62 (by decide) (fun c40 => ?_) (fun c40 => ?_)
                · replace h := it_t c40 h
                  refine lv_iload hx hb dX1_whatIs_126 (lv_at hl 4 rfl) ?_
                  obtain ⟨rfl, rfl, rfl⟩ := re3 h
                  exact zb_iret hx hb hr hlk hP hS dX1_whatIs_128
                · replace h := it_f c40 h
                  refine lv_aload_n hx hb dX1_whatIs_65 rfl (lv_at hl 0 rfl) ?_
                  refine va_get (D := D) (ci := 1) (v := .ref (ad 8)) (C := RX1) (T := TX1) (N := 12) hx hb hts zi_X1_whatIs_X1 hown hK.1 hP 0 rfl rfl 1 (by decide) (hts _ zk_X1_whatIs_1) (fun _ h9 => h9) rfl dX1_whatIs_66 ?_
                  refine lv_aload_n hx hb dX1_whatIs_69 rfl (lv_at hl 0 rfl) ?_
                  refine va_get (D := D) (ci := 1) (v := .ref (ad 1)) (C := RX1) (T := TX1) (N := 12) hx hb hts zi_X1_whatIs_X1 hown hK.1 hP 0 rfl rfl 0 (by decide) (hts _ zk_X1_whatIs_0) (fun _ h9 => h9) rfl dX1_whatIs_70 ?_
                  obtain ⟨n41, g42, h⟩ := bo1 h
                  refine zb_callV (As := [.ref (ad 1)]) (rest := []) ⟨hx, hb, hml, hown, hts⟩ (zc_X0_becomes l D cI (ad 8) (ad 9) (ad 10) (ad 11) (ad 12) (ad 13) (ad 14) (ad 1) (ad 2) (ad 3) (ad 4) (ad 5) (ad 6) (ad 7) x38 g_now n41 g42) (cwV 1 hts gX1_whatIs_X0_becomes rfl rfl rfl hd_X0_becomes ⟨Nat.le_of_ble_eq_true rfl, Nat.le_of_ble_eq_true rfl⟩) hK hP hD hS hA (zb_cGmn) (q0 := 0) rfl rfl rfl hl.1 rfl (Nat.le_of_ble_eq_true rfl) dX1_whatIs_73 ⟨Nat.le_refl _, Nat.le_refl _⟩ (fun H locs hP hD hS => ?_)
                  refine lv_iload_n hx hb dX1_whatIs_76 rfl (lv_at hl 3 rfl) ?_
                  refine lv_if_ne (tgt := 93) hx hb dX1_whatIs_77 (by decide) (fun c43 => ?_) (fun c43 => ?_)
                  · replace h := it_f c43 h
                    refine lv_aload_n hx hb dX1_whatIs_93 rfl (lv_at hl 0 rfl) ?_
                    refine va_get (D := D) (ci := 1) (v := .ref (ad 8)) (C := RX1) (T := TX1) (N := 12) hx hb hts zi_X1_whatIs_X1 hown hK.1 hP 0 rfl rfl 1 (by decide) (hts _ zk_X1_whatIs_1) (fun _ h9 => h9) rfl dX1_whatIs_94 ?_
                    refine lv_iload_n hx hb dX1_whatIs_97 rfl (lv_at hl 1 rfl) ?_
                    refine lv_iload hx hb dX1_whatIs_98 (lv_at hl 6 rfl) ?_
                    obtain ⟨n44, g45, h⟩ := bo1 h
                    refine zb_callV (As := [.int v1, .int x37]) (rest := []) ⟨hx, hb, hml, hown, hts⟩ (zc_X0_putFigure l D cI (ad 8) (ad 9) (ad 10) (ad 11) (ad 12) (ad 13) (ad 14) n41 v1 x37 n44 g45) (cwV 2 hts gX1_whatIs_X0_putFigure rfl rfl rfl hd_X0_putFigure ⟨Nat.le_of_ble_eq_true rfl, Nat.le_of_ble_eq_true rfl⟩) hK hP hD hS hA (zb_cGm) (q0 := 0) rfl rfl rfl hl.1 rfl (Nat.le_of_ble_eq_true rfl) dX1_whatIs_100 ⟨Nat.le_refl _, Nat.le_refl _⟩ (fun H locs hP hD hS => ?_)
                    refine lv_aload_n hx hb dX1_whatIs_103 rfl (lv_at hl 0 rfl) ?_
                    refine lv_iload_n hx hb dX1_whatIs_104 rfl (lv_at hl 2 rfl) ?_
                    obtain ⟨r46, n47, g48, h⟩ := bo2 h
                    refine zb_callV (As := [.int v2]) (rest := []) ⟨hx, hb, hml, hown, hts⟩ (zc_X1_isAsTold l D cI ad g_now n44 g_taken g_isTaken g_letters g_letterCount g_told g_toldCount g_refusals g_costs g_gains g_seed v2 r46 n47 g48) (cwV 1 hts gX1_whatIs_X1_isAsTold rfl rfl rfl hd_X1_isAsTold ⟨Nat.le_of_ble_eq_true rfl, Nat.le_of_ble_eq_true rfl⟩) hK hP hD hS hA (zb_sG) (q0 := 0) rfl rfl rfl hl.1 rfl (Nat.le_of_ble_eq_true rfl) dX1_whatIs_105 ⟨Nat.le_refl _, Nat.le_refl _⟩ (fun H locs hP hD hS => ?_)
                    refine lv_if_eq (tgt := 120) hx hb dX1_whatIs_108 (by decide) (fun c49 => ?_) (fun c49 => ?_)
                    · replace h := it_t c49 h
                      refine lv_iinc (v := (x37 + (1 : Int32))) (lv' := [(6, .int (x37 + (1 : Int32))), (0, .ref (ad 0)), (1, .int v1), (2, .int v2), (3, .int v3), (4, .int x36), (5, .int (5 : Int32))]) hx hb dX1_whatIs_120 hl (k := 6) rfl (by first | rfl | decide) (by decide) rfl (fun ls hl => ?_)
                      refine lv_goto (tgt := 58) hx hb dX1_whatIs_123 (by decide) ?_
                      exact ih39 x36 (x37 + (1 : Int32)) n47 _ _ hP hD hS ls (lv_sub hl [1, 2, 3, 4, 5, 6, 0] rfl) h
                    · replace h := it_f c49 h
                      refine lv_iload hx hb dX1_whatIs_111 (lv_at hl 4 rfl) ?_
                      refine lv_iconst (v := (1 : Int32)) hx hb dX1_whatIs_113 (by decide) ?_
                      refine lv_iload hx hb dX1_whatIs_114 (lv_at hl 6 rfl) ?_
                      refine lv_ishl hx hb dX1_whatIs_116 ?_
                      refine lv_ior hx hb dX1_whatIs_117 ?_
                      refine lv_istore (lv' := [(4, .int (x36 ||| ((1 : Int32) <<< (x37 &&& 31)))), (0, .ref (ad 0)), (1, .int v1), (2, .int v2), (3, .int v3), (5, .int (5 : Int32)), (6, .int x37)]) hx hb dX1_whatIs_118 hl (by decide) rfl (fun ls hl => ?_)
                      refine lv_iinc (v := (x37 + (1 : Int32))) (lv' := [(6, .int (x37 + (1 : Int32))), (4, .int (x36 ||| ((1 : Int32) <<< (x37 &&& 31)))), (0, .ref (ad 0)), (1, .int v1), (2, .int v2), (3, .int v3), (5, .int (5 : Int32))]) hx hb dX1_whatIs_120 hl (k := 6) rfl (by first | rfl | decide) (by decide) rfl (fun ls hl => ?_)
                      refine lv_goto (tgt := 58) hx hb dX1_whatIs_123 (by decide) ?_
                      exact ih39 (x36 ||| ((1 : Int32) <<< (x37 &&& 31))) (x37 + (1 : Int32)) n47 _ _ hP hD hS ls (lv_sub hl [2, 3, 4, 5, 1, 6, 0] rfl) h
                  · replace h := it_t c43 h
                    refine lv_aload_n hx hb dX1_whatIs_80 rfl (lv_at hl 0 rfl) ?_
                    refine va_get (D := D) (ci := 1) (v := .ref (ad 8)) (C := RX1) (T := TX1) (N := 12) hx hb hts zi_X1_whatIs_X1 hown hK.1 hP 0 rfl rfl 1 (by decide) (hts _ zk_X1_whatIs_1) (fun _ h9 => h9) rfl dX1_whatIs_81 ?_
                    refine lv_iload_n hx hb dX1_whatIs_84 rfl (lv_at hl 1 rfl) ?_
                    refine lv_iload hx hb dX1_whatIs_85 (lv_at hl 6 rfl) ?_
                    obtain ⟨n50, g51, h⟩ := bo1 h
                    refine zb_callV (As := [.int v1, .int x37]) (rest := []) ⟨hx, hb, hml, hown, hts⟩ (zc_X0_putKind l D cI (ad 8) (ad 9) (ad 10) (ad 11) (ad 12) (ad 13) (ad 14) n41 v1 x37 n50 g51) (cwV 2 hts gX1_whatIs_X0_putKind rfl rfl rfl hd_X0_putKind ⟨Nat.le_of_ble_eq_true rfl, Nat.le_of_ble_eq_true rfl⟩) hK hP hD hS hA (zb_cGm) (q0 := 0) rfl rfl rfl hl.1 rfl (Nat.le_of_ble_eq_true rfl) dX1_whatIs_87 ⟨Nat.le_refl _, Nat.le_refl _⟩ (fun H locs hP hD hS => ?_)
                    refine lv_goto (tgt := 103) hx hb dX1_whatIs_90 (by decide) ?_
                    refine lv_aload_n hx hb dX1_whatIs_103 rfl (lv_at hl 0 rfl) ?_
                    refine lv_iload_n hx hb dX1_whatIs_104 rfl (lv_at hl 2 rfl) ?_
                    obtain ⟨r52, n53, g54, h⟩ := bo2 h
                    refine zb_callV (As := [.int v2]) (rest := []) ⟨hx, hb, hml, hown, hts⟩ (zc_X1_isAsTold l D cI ad g_now n50 g_taken g_isTaken g_letters g_letterCount g_told g_toldCount g_refusals g_costs g_gains g_seed v2 r52 n53 g54) (cwV 1 hts gX1_whatIs_X1_isAsTold rfl rfl rfl hd_X1_isAsTold ⟨Nat.le_of_ble_eq_true rfl, Nat.le_of_ble_eq_true rfl⟩) hK hP hD hS hA (zb_sG) (q0 := 0) rfl rfl rfl hl.1 rfl (Nat.le_of_ble_eq_true rfl) dX1_whatIs_105 ⟨Nat.le_refl _, Nat.le_refl _⟩ (fun H locs hP hD hS => ?_)
                    refine lv_if_eq (tgt := 120) hx hb dX1_whatIs_108 (by decide) (fun c55 => ?_) (fun c55 => ?_)
                    · replace h := it_t c55 h
                      refine lv_iinc (v := (x37 + (1 : Int32))) (lv' := [(6, .int (x37 + (1 : Int32))), (0, .ref (ad 0)), (1, .int v1), (2, .int v2), (3, .int v3), (4, .int x36), (5, .int (5 : Int32))]) hx hb dX1_whatIs_120 hl (k := 6) rfl (by first | rfl | decide) (by decide) rfl (fun ls hl => ?_)
                      refine lv_goto (tgt := 58) hx hb dX1_whatIs_123 (by decide) ?_
                      exact ih39 x36 (x37 + (1 : Int32)) n53 _ _ hP hD hS ls (lv_sub hl [1, 2, 3, 4, 5, 6, 0] rfl) h
                    · replace h := it_f c55 h
                      refine lv_iload hx hb dX1_whatIs_111 (lv_at hl 4 rfl) ?_
                      refine lv_iconst (v := (1 : Int32)) hx hb dX1_whatIs_113 (by decide) ?_
                      refine lv_iload hx hb dX1_whatIs_114 (lv_at hl 6 rfl) ?_
                      refine lv_ishl hx hb dX1_whatIs_116 ?_
                      refine lv_ior hx hb dX1_whatIs_117 ?_
                      refine lv_istore (lv' := [(4, .int (x36 ||| ((1 : Int32) <<< (x37 &&& 31)))), (0, .ref (ad 0)), (1, .int v1), (2, .int v2), (3, .int v3), (5, .int (5 : Int32)), (6, .int x37)]) hx hb dX1_whatIs_118 hl (by decide) rfl (fun ls hl => ?_)
                      refine lv_iinc (v := (x37 + (1 : Int32))) (lv' := [(6, .int (x37 + (1 : Int32))), (4, .int (x36 ||| ((1 : Int32) <<< (x37 &&& 31)))), (0, .ref (ad 0)), (1, .int v1), (2, .int v2), (3, .int v3), (5, .int (5 : Int32))]) hx hb dX1_whatIs_120 hl (k := 6) rfl (by first | rfl | decide) (by decide) rfl (fun ls hl => ?_)
                      refine lv_goto (tgt := 58) hx hb dX1_whatIs_123 (by decide) ?_
                      exact ih39 (x36 ||| ((1 : Int32) <<< (x37 &&& 31))) (x37 + (1 : Int32)) n53 _ _ hP hD hS ls (lv_sub hl [2, 3, 4, 5, 1, 6, 0] rfl) h
            exact lp39 zb_FU (0 : Int32) (0 : Int32) g_mind _ _ hP hD hS ls (lv_sub hl [3, 4, 5, 6, 2, 1, 0] rfl) h
        · replace h := it_f c14 h
          refine lv_aload_n hx hb dX1_whatIs_33 rfl (lv_at hl 0 rfl) ?_
          refine lv_bipush (v := ((-2) : Int32)) hx hb dX1_whatIs_34 (by decide) ?_
          obtain ⟨r56, n57, g58, h⟩ := bo2 h
          refine zb_callV (As := [.int ((-2) : Int32)]) (rest := []) ⟨hx, hb, hml, hown, hts⟩ (zc_X1_refuse l D cI ad g_now g_mind g_taken g_isTaken g_letters g_letterCount g_told g_toldCount g_refusals g_costs g_gains g_seed ((-2) : Int32) r56 n57 g58) (cwV 1 hts gX1_whatIs_X1_refuse rfl rfl rfl hd_X1_refuse ⟨Nat.le_of_ble_eq_true rfl, Nat.le_of_ble_eq_true rfl⟩) hK hP hD hS hA (zb_sG) (q0 := 0) rfl rfl rfl hl.1 rfl (Nat.le_of_ble_eq_true rfl) dX1_whatIs_36 ⟨Nat.le_refl _, Nat.le_refl _⟩ (fun H locs hP hD hS => ?_)
          obtain ⟨rfl, rfl, rfl⟩ := re3 h
          exact zb_iret hx hb hr hlk hP hS dX1_whatIs_39
    · replace h := it_t c9 h
      refine lv_aload_n hx hb dX1_whatIs_18 rfl (lv_at hl 0 rfl) ?_
      refine lv_iconst (v := ((-1) : Int32)) hx hb dX1_whatIs_19 (by decide) ?_
      obtain ⟨r59, n60, g61, h⟩ := bo2 h
      refine zb_callV (As := [.int ((-1) : Int32)]) (rest := []) ⟨hx, hb, hml, hown, hts⟩ (zc_X1_refuse l D cI ad g_now g_mind g_taken g_isTaken g_letters g_letterCount g_told g_toldCount g_refusals g_costs g_gains g_seed ((-1) : Int32) r59 n60 g61) (cwV 1 hts gX1_whatIs_X1_refuse rfl rfl rfl hd_X1_refuse ⟨Nat.le_of_ble_eq_true rfl, Nat.le_of_ble_eq_true rfl⟩) hK hP hD hS hA (zb_sG) (q0 := 0) rfl rfl rfl hl.1 rfl (Nat.le_of_ble_eq_true rfl) dX1_whatIs_20 ⟨Nat.le_refl _, Nat.le_refl _⟩ (fun H locs hP hD hS => ?_)
      obtain ⟨rfl, rfl, rfl⟩ := re3 h
      exact zb_iret hx hb hr hlk hP hS dX1_whatIs_23
