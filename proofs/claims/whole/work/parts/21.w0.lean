abbrev rm_X0_dryNodes : Room := { frames := 2, cells := 0, slots := 0, locals := 41 }
theorem hd_X0_dryNodes : yX0_dryNodes.cls = RX0 ∧ yX0_dryNodes.cls ≠ "java/lang/invoke/MethodHandle" ∧ yX0_dryNodes.cls ≠ "java/lang/invoke/VarHandle" ∧ (parseMethodDescriptor yX0_dryNodes.desc).map (fun d => d.parameters.length) = some 0 := by decide +kernel
set_option maxHeartbeats 4000000 in
set_option maxRecDepth 100000 in
theorem zc_X0_dryNodes (l : Launch) (D : va_G) (cI : ClassId) (b0 b1 b2 b3 b4 b5 b6 : Nat) (B : BT) (r0 : Int32) (h : zf_X0_dryNodes B = some r0) : Cn l D cI yX0_dryNodes wsX0_dryNodes rm_X0_dryNodes [.ref b0] (zb_B cI b0 b1 b2 b3 b4 b5 b6 B) (some (.int r0)) (zb_B cI b0 b1 b2 b3 b4 b5 b6 B) := by
  refine zb_ofW (cc := cX0_dryNodes) (maxL := 3) (ret := (some .int)) (by decide) rfl (Nat.le_of_ble_eq_true rfl) ?_
  intro p e s m args below meth c A ls hx hb hr hml hts hown hlk hK hP hD hA hl
  have hS : va_S A s.heap s.heap [] := va_S.rf
  have hl : lv_has ls 3 [(0, .ref b0)] := hl
  unfold zf_X0_dryNodes at h
  refine lv_iconst (v := (0 : Int32)) hx hb dX0_dryNodes_0 (by decide) ?_
  refine lv_istore_n (lv' := [(1, .int (0 : Int32)), (0, .ref b0)]) hx hb dX0_dryNodes_1 rfl hl (by decide) rfl (fun ls hl => ?_)
  refine lv_iconst (v := (0 : Int32)) hx hb dX0_dryNodes_2 (by decide) ?_
  refine lv_istore_n (lv' := [(2, .int (0 : Int32)), (1, .int (0 : Int32)), (0, .ref b0)]) hx hb dX0_dryNodes_3 rfl hl (by decide) rfl (fun ls hl => ?_)
  have lp3 : ∀ (fu3 : Nat) (x1 : Int32) (x2 : Int32) (H : Heap) (locs : List Loc) (hP : va_P D zb_cl (zb_B cI b0 b1 b2 b3 b4 b5 b6 B) H) (hD : va_D A (zb_B cI b0 b1 b2 b3 b4 b5 b6 B)) (hS : va_S A s.heap H locs) (ls : Array Slot) (hl : lv_has ls 3 [(0, .ref b0), (1, .int x1), (2, .int x2)]) (h : zl2 (zf_X0_dryNodes_b4 B) fu3 x1 x2 = some r0), W p l e rm_X0_dryNodes s m args below meth c H locs 0 0 (zb_Q below D (some (.int r0)) (zb_B cI b0 b1 b2 b3 b4 b5 b6 B) A args s) (F0 m 4 ls []) := by
    intro fu3
    induction fu3 with
    | zero => intro x1 x2 H locs hP hD hS ls hl h; exact zb_no h
    | succ fu3 ih3 =>
      intro x1 x2 H locs hP hD hS ls hl h
      replace h : zf_X0_dryNodes_b4 B (zl2 (zf_X0_dryNodes_b4 B) fu3) x1 x2 = some r0 := h
      unfold zf_X0_dryNodes_b4 at h
      refine lv_iload_n hx hb dX0_dryNodes_4 rfl (lv_at hl 2 rfl) ?_
      refine lv_bipush (v := (30 : Int32)) hx hb dX0_dryNodes_5 (by decide) ?_
      refine lv_icmp_ge (tgt := 30) hx hb dX0_dryNodes_7 (by decide) (fun c4 => ?_) (fun c4 => ?_)
      · replace h := it_t c4 h
        refine lv_iload_n hx hb dX0_dryNodes_30 rfl (lv_at hl 1 rfl) ?_
        obtain rfl := re1 h
        exact zb_iret hx hb hr hlk hP hS dX0_dryNodes_31
      · replace h := it_f c4 h
        refine lv_aload_n hx hb dX0_dryNodes_10 rfl (lv_at hl 0 rfl) ?_
        refine lv_iload_n hx hb dX0_dryNodes_11 rfl (lv_at hl 2 rfl) ?_
        obtain ⟨r5, g6, h⟩ := bo1 h
        refine zb_callV (As := [.int x2]) (rest := []) ⟨hx, hb, hml, hown, hts⟩ (zc_X0_wetOf l D cI b0 b1 b2 b3 b4 b5 b6 B x2 r5 g6) (cwV 1 hts gX0_dryNodes_X0_wetOf rfl rfl rfl hd_X0_wetOf ⟨Nat.le_of_ble_eq_true rfl, Nat.le_of_ble_eq_true rfl⟩) hK hP hD hS hA (zb_sB) (q0 := 0) rfl rfl rfl hl.1 rfl (Nat.le_of_ble_eq_true rfl) dX0_dryNodes_12 ⟨Nat.le_refl _, Nat.le_refl _⟩ (fun H locs hP hD hS => ?_)
        refine lv_if_ne (tgt := 24) hx hb dX0_dryNodes_15 (by decide) (fun c7 => ?_) (fun c7 => ?_)
        · replace h := it_f c7 h
          refine lv_iinc (v := (x2 + (1 : Int32))) (lv' := [(2, .int (x2 + (1 : Int32))), (0, .ref b0), (1, .int x1)]) hx hb dX0_dryNodes_24 hl (k := 2) rfl (by first | rfl | decide) (by decide) rfl (fun ls hl => ?_)
          refine lv_goto (tgt := 4) hx hb dX0_dryNodes_27 (by decide) ?_
          exact ih3 x1 (x2 + (1 : Int32)) _ _ hP hD hS ls (lv_sub hl [1, 2, 0] rfl) h
        · replace h := it_t c7 h
          refine lv_iload_n hx hb dX0_dryNodes_18 rfl (lv_at hl 1 rfl) ?_
          refine lv_iconst (v := (1 : Int32)) hx hb dX0_dryNodes_19 (by decide) ?_
          refine lv_iload_n hx hb dX0_dryNodes_20 rfl (lv_at hl 2 rfl) ?_
          refine lv_ishl hx hb dX0_dryNodes_21 ?_
          refine lv_ior hx hb dX0_dryNodes_22 ?_
          refine lv_istore_n (lv' := [(1, .int (x1 ||| ((1 : Int32) <<< (x2 &&& 31)))), (0, .ref b0), (2, .int x2)]) hx hb dX0_dryNodes_23 rfl hl (by decide) rfl (fun ls hl => ?_)
          refine lv_iinc (v := (x2 + (1 : Int32))) (lv' := [(2, .int (x2 + (1 : Int32))), (1, .int (x1 ||| ((1 : Int32) <<< (x2 &&& 31)))), (0, .ref b0)]) hx hb dX0_dryNodes_24 hl (k := 2) rfl (by first | rfl | decide) (by decide) rfl (fun ls hl => ?_)
          refine lv_goto (tgt := 4) hx hb dX0_dryNodes_27 (by decide) ?_
          exact ih3 (x1 ||| ((1 : Int32) <<< (x2 &&& 31))) (x2 + (1 : Int32)) _ _ hP hD hS ls (lv_sub hl [2, 1, 0] rfl) h
  exact lp3 zb_FU (0 : Int32) (0 : Int32) _ _ hP hD hS ls (lv_sub hl [2, 1, 0] rfl) h
abbrev rm_X0_wettest : Room := { frames := 2, cells := 0, slots := 0, locals := 41 }
theorem hd_X0_wettest : yX0_wettest.cls = RX0 ∧ yX0_wettest.cls ≠ "java/lang/invoke/MethodHandle" ∧ yX0_wettest.cls ≠ "java/lang/invoke/VarHandle" ∧ (parseMethodDescriptor yX0_wettest.desc).map (fun d => d.parameters.length) = some 0 := by decide +kernel
set_option maxHeartbeats 4000000 in
set_option maxRecDepth 100000 in
theorem zc_X0_wettest (l : Launch) (D : va_G) (cI : ClassId) (b0 b1 b2 b3 b4 b5 b6 : Nat) (B : BT) (r0 : Int32) (h : zf_X0_wettest B = some r0) : Cn l D cI yX0_wettest wsX0_wettest rm_X0_wettest [.ref b0] (zb_B cI b0 b1 b2 b3 b4 b5 b6 B) (some (.int r0)) (zb_B cI b0 b1 b2 b3 b4 b5 b6 B) := by
  refine zb_ofW (cc := cX0_wettest) (maxL := 3) (ret := (some .int)) (by decide) rfl (Nat.le_of_ble_eq_true rfl) ?_
  intro p e s m args below meth c A ls hx hb hr hml hts hown hlk hK hP hD hA hl
  have hS : va_S A s.heap s.heap [] := va_S.rf
  have hl : lv_has ls 3 [(0, .ref b0)] := hl
  unfold zf_X0_wettest at h
  refine lv_iconst (v := (0 : Int32)) hx hb dX0_wettest_0 (by decide) ?_
  refine lv_istore_n (lv' := [(1, .int (0 : Int32)), (0, .ref b0)]) hx hb dX0_wettest_1 rfl hl (by decide) rfl (fun ls hl => ?_)
  refine lv_iconst (v := (1 : Int32)) hx hb dX0_wettest_2 (by decide) ?_
  refine lv_istore_n (lv' := [(2, .int (1 : Int32)), (1, .int (0 : Int32)), (0, .ref b0)]) hx hb dX0_wettest_3 rfl hl (by decide) rfl (fun ls hl => ?_)
  have lp3 : ∀ (fu3 : Nat) (x1 : Int32) (x2 : Int32) (H : Heap) (locs : List Loc) (hP : va_P D zb_cl (zb_B cI b0 b1 b2 b3 b4 b5 b6 B) H) (hD : va_D A (zb_B cI b0 b1 b2 b3 b4 b5 b6 B)) (hS : va_S A s.heap H locs) (ls : Array Slot) (hl : lv_has ls 3 [(0, .ref b0), (1, .int x1), (2, .int x2)]) (h : zl2 (zf_X0_wettest_b4 B) fu3 x1 x2 = some r0), W p l e rm_X0_wettest s m args below meth c H locs 0 0 (zb_Q below D (some (.int r0)) (zb_B cI b0 b1 b2 b3 b4 b5 b6 B) A args s) (F0 m 4 ls []) := by
    intro fu3
    induction fu3 with
    | zero => intro x1 x2 H locs hP hD hS ls hl h; exact zb_no h
    | succ fu3 ih3 =>
      intro x1 x2 H locs hP hD hS ls hl h
      replace h : zf_X0_wettest_b4 B (zl2 (zf_X0_wettest_b4 B) fu3) x1 x2 = some r0 := h
      unfold zf_X0_wettest_b4 at h
      refine lv_iload_n hx hb dX0_wettest_4 rfl (lv_at hl 2 rfl) ?_
      refine lv_bipush (v := (30 : Int32)) hx hb dX0_wettest_5 (by decide) ?_
      refine lv_icmp_ge (tgt := 31) hx hb dX0_wettest_7 (by decide) (fun c4 => ?_) (fun c4 => ?_)
      · replace h := it_t c4 h
        refine lv_iload_n hx hb dX0_wettest_31 rfl (lv_at hl 1 rfl) ?_
        obtain rfl := re1 h
        exact zb_iret hx hb hr hlk hP hS dX0_wettest_32
      · replace h := it_f c4 h
        refine lv_aload_n hx hb dX0_wettest_10 rfl (lv_at hl 0 rfl) ?_
        refine lv_iload_n hx hb dX0_wettest_11 rfl (lv_at hl 2 rfl) ?_
        obtain ⟨r5, g6, h⟩ := bo1 h
        refine zb_callV (As := [.int x2]) (rest := []) ⟨hx, hb, hml, hown, hts⟩ (zc_X0_wetOf l D cI b0 b1 b2 b3 b4 b5 b6 B x2 r5 g6) (cwV 1 hts gX0_wettest_X0_wetOf rfl rfl rfl hd_X0_wetOf ⟨Nat.le_of_ble_eq_true rfl, Nat.le_of_ble_eq_true rfl⟩) hK hP hD hS hA (zb_sB) (q0 := 0) rfl rfl rfl hl.1 rfl (Nat.le_of_ble_eq_true rfl) dX0_wettest_12 ⟨Nat.le_refl _, Nat.le_refl _⟩ (fun H locs hP hD hS => ?_)
        refine lv_aload_n hx hb dX0_wettest_15 rfl (lv_at hl 0 rfl) ?_
        refine lv_iload_n hx hb dX0_wettest_16 rfl (lv_at hl 1 rfl) ?_
        obtain ⟨r7, g8, h⟩ := bo1 h
        refine zb_callV (As := [.int x1]) (rest := [.int r5]) ⟨hx, hb, hml, hown, hts⟩ (zc_X0_wetOf l D cI b0 b1 b2 b3 b4 b5 b6 B x1 r7 g8) (cwV 1 hts gX0_wettest_X0_wetOf rfl rfl rfl hd_X0_wetOf ⟨Nat.le_of_ble_eq_true rfl, Nat.le_of_ble_eq_true rfl⟩) hK hP hD hS hA (zb_sB) (q0 := 0) rfl rfl rfl hl.1 rfl (Nat.le_of_ble_eq_true rfl) dX0_wettest_17 ⟨Nat.le_refl _, Nat.le_refl _⟩ (fun H locs hP hD hS => ?_)
        refine lv_icmp_le (tgt := 25) hx hb dX0_wettest_20 (by decide) (fun c9 => ?_) (fun c9 => ?_)
        · replace h := it_t c9 h
          refine lv_iinc (v := (x2 + (1 : Int32))) (lv' := [(2, .int (x2 + (1 : Int32))), (0, .ref b0), (1, .int x1)]) hx hb dX0_wettest_25 hl (k := 2) rfl (by first | rfl | decide) (by decide) rfl (fun ls hl => ?_)
          refine lv_goto (tgt := 4) hx hb dX0_wettest_28 (by decide) ?_
          exact ih3 x1 (x2 + (1 : Int32)) _ _ hP hD hS ls (lv_sub hl [1, 2, 0] rfl) h
        · replace h := it_f c9 h
          refine lv_iload_n hx hb dX0_wettest_23 rfl (lv_at hl 2 rfl) ?_
          refine lv_istore_n (lv' := [(1, .int x2), (0, .ref b0), (2, .int x2)]) hx hb dX0_wettest_24 rfl hl (by decide) rfl (fun ls hl => ?_)
          refine lv_iinc (v := (x2 + (1 : Int32))) (lv' := [(2, .int (x2 + (1 : Int32))), (1, .int x2), (0, .ref b0)]) hx hb dX0_wettest_25 hl (k := 2) rfl (by first | rfl | decide) (by decide) rfl (fun ls hl => ?_)
          refine lv_goto (tgt := 4) hx hb dX0_wettest_28 (by decide) ?_
          exact ih3 x2 (x2 + (1 : Int32)) _ _ hP hD hS ls (lv_sub hl [2, 1, 0] rfl) h
  exact lp3 zb_FU (0 : Int32) (1 : Int32) _ _ hP hD hS ls (lv_sub hl [2, 1, 0] rfl) h
abbrev rm_X0_wetInRow : Room := { frames := 2, cells := 0, slots := 0, locals := 41 }
theorem hd_X0_wetInRow : yX0_wetInRow.cls = RX0 ∧ yX0_wetInRow.cls ≠ "java/lang/invoke/MethodHandle" ∧ yX0_wetInRow.cls ≠ "java/lang/invoke/VarHandle" ∧ (parseMethodDescriptor yX0_wetInRow.desc).map (fun d => d.parameters.length) = some 1 := by decide +kernel
set_option maxHeartbeats 4000000 in
set_option maxRecDepth 100000 in
theorem zc_X0_wetInRow (l : Launch) (D : va_G) (cI : ClassId) (b0 b1 b2 b3 b4 b5 b6 : Nat) (B : BT) (v1 : Int32) (r0 : Int32) (h : zf_X0_wetInRow B v1 = some r0) : Cn l D cI yX0_wetInRow wsX0_wetInRow rm_X0_wetInRow [.ref b0, .int v1] (zb_B cI b0 b1 b2 b3 b4 b5 b6 B) (some (.int r0)) (zb_B cI b0 b1 b2 b3 b4 b5 b6 B) := by
  refine zb_ofW (cc := cX0_wetInRow) (maxL := 4) (ret := (some .int)) (by decide) rfl (Nat.le_of_ble_eq_true rfl) ?_
  intro p e s m args below meth c A ls hx hb hr hml hts hown hlk hK hP hD hA hl
  have hS : va_S A s.heap s.heap [] := va_S.rf
  have hl : lv_has ls 4 [(0, .ref b0), (1, .int v1)] := hl
  unfold zf_X0_wetInRow at h
  refine lv_iconst (v := (0 : Int32)) hx hb dX0_wetInRow_0 (by decide) ?_
  refine lv_istore_n (lv' := [(2, .int (0 : Int32)), (0, .ref b0), (1, .int v1)]) hx hb dX0_wetInRow_1 rfl hl (by decide) rfl (fun ls hl => ?_)
  refine lv_iconst (v := (0 : Int32)) hx hb dX0_wetInRow_2 (by decide) ?_
  refine lv_istore_n (lv' := [(3, .int (0 : Int32)), (2, .int (0 : Int32)), (0, .ref b0), (1, .int v1)]) hx hb dX0_wetInRow_3 rfl hl (by decide) rfl (fun ls hl => ?_)
  have lp3 : ∀ (fu3 : Nat) (x1 : Int32) (x2 : Int32) (H : Heap) (locs : List Loc) (hP : va_P D zb_cl (zb_B cI b0 b1 b2 b3 b4 b5 b6 B) H) (hD : va_D A (zb_B cI b0 b1 b2 b3 b4 b5 b6 B)) (hS : va_S A s.heap H locs) (ls : Array Slot) (hl : lv_has ls 4 [(0, .ref b0), (1, .int v1), (2, .int x1), (3, .int x2)]) (h : zl2 (zf_X0_wetInRow_b4 v1 B) fu3 x1 x2 = some r0), W p l e rm_X0_wetInRow s m args below meth c H locs 0 0 (zb_Q below D (some (.int r0)) (zb_B cI b0 b1 b2 b3 b4 b5 b6 B) A args s) (F0 m 4 ls []) := by
    intro fu3
    induction fu3 with
    | zero => intro x1 x2 H locs hP hD hS ls hl h; exact zb_no h
    | succ fu3 ih3 =>
      intro x1 x2 H locs hP hD hS ls hl h
      replace h : zf_X0_wetInRow_b4 v1 B (zl2 (zf_X0_wetInRow_b4 v1 B) fu3) x1 x2 = some r0 := h
      unfold zf_X0_wetInRow_b4 at h
      refine lv_iload_n hx hb dX0_wetInRow_4 rfl (lv_at hl 3 rfl) ?_
      refine lv_bipush (v := (6 : Int32)) hx hb dX0_wetInRow_5 (by decide) ?_
      refine lv_icmp_ge (tgt := 29) hx hb dX0_wetInRow_7 (by decide) (fun c4 => ?_) (fun c4 => ?_)
      · replace h := it_t c4 h
        refine lv_iload_n hx hb dX0_wetInRow_29 rfl (lv_at hl 2 rfl) ?_
        obtain rfl := re1 h
        exact zb_iret hx hb hr hlk hP hS dX0_wetInRow_30
      · replace h := it_f c4 h
        refine lv_iload_n hx hb dX0_wetInRow_10 rfl (lv_at hl 2 rfl) ?_
        refine lv_aload_n hx hb dX0_wetInRow_11 rfl (lv_at hl 0 rfl) ?_
        refine lv_iload_n hx hb dX0_wetInRow_12 rfl (lv_at hl 1 rfl) ?_
        refine lv_bipush (v := (6 : Int32)) hx hb dX0_wetInRow_13 (by decide) ?_
        refine lv_imul hx hb dX0_wetInRow_15 ?_
        refine lv_iload_n hx hb dX0_wetInRow_16 rfl (lv_at hl 3 rfl) ?_
        refine lv_iadd hx hb dX0_wetInRow_17 ?_
        obtain ⟨r5, g6, h⟩ := bo1 h
        refine zb_callV (As := [.int ((v1 * (6 : Int32)) + x2)]) (rest := [.int x1]) ⟨hx, hb, hml, hown, hts⟩ (zc_X0_wetOf l D cI b0 b1 b2 b3 b4 b5 b6 B ((v1 * (6 : Int32)) + x2) r5 g6) (cwV 1 hts gX0_wetInRow_X0_wetOf rfl rfl rfl hd_X0_wetOf ⟨Nat.le_of_ble_eq_true rfl, Nat.le_of_ble_eq_true rfl⟩) hK hP hD hS hA (zb_sB) (q0 := 0) rfl rfl rfl hl.1 rfl (Nat.le_of_ble_eq_true rfl) dX0_wetInRow_18 ⟨Nat.le_refl _, Nat.le_refl _⟩ (fun H locs hP hD hS => ?_)
        refine lv_iadd hx hb dX0_wetInRow_21 ?_
        refine lv_istore_n (lv' := [(2, .int (x1 + r5)), (0, .ref b0), (1, .int v1), (3, .int x2)]) hx hb dX0_wetInRow_22 rfl hl (by decide) rfl (fun ls hl => ?_)
        refine lv_iinc (v := (x2 + (1 : Int32))) (lv' := [(3, .int (x2 + (1 : Int32))), (2, .int (x1 + r5)), (0, .ref b0), (1, .int v1)]) hx hb dX0_wetInRow_23 hl (k := 3) rfl (by first | rfl | decide) (by decide) rfl (fun ls hl => ?_)
        refine lv_goto (tgt := 4) hx hb dX0_wetInRow_26 (by decide) ?_
        exact ih3 (x1 + r5) (x2 + (1 : Int32)) _ _ hP hD hS ls (lv_sub hl [2, 3, 1, 0] rfl) h
  exact lp3 zb_FU (0 : Int32) (0 : Int32) _ _ hP hD hS ls (lv_sub hl [2, 3, 1, 0] rfl) h
abbrev rm_X0_wettestRow : Room := { frames := 3, cells := 0, slots := 0, locals := 64 }
theorem hd_X0_wettestRow : yX0_wettestRow.cls = RX0 ∧ yX0_wettestRow.cls ≠ "java/lang/invoke/MethodHandle" ∧ yX0_wettestRow.cls ≠ "java/lang/invoke/VarHandle" ∧ (parseMethodDescriptor yX0_wettestRow.desc).map (fun d => d.parameters.length) = some 0 := by decide +kernel
set_option maxHeartbeats 4000000 in
set_option maxRecDepth 100000 in
theorem zc_X0_wettestRow (l : Launch) (D : va_G) (cI : ClassId) (b0 b1 b2 b3 b4 b5 b6 : Nat) (B : BT) (r0 : Int32) (h : zf_X0_wettestRow B = some r0) : Cn l D cI yX0_wettestRow wsX0_wettestRow rm_X0_wettestRow [.ref b0] (zb_B cI b0 b1 b2 b3 b4 b5 b6 B) (some (.int r0)) (zb_B cI b0 b1 b2 b3 b4 b5 b6 B) := by
  refine zb_ofW (cc := cX0_wettestRow) (maxL := 3) (ret := (some .int)) (by decide) rfl (Nat.le_of_ble_eq_true rfl) ?_
  intro p e s m args below meth c A ls hx hb hr hml hts hown hlk hK hP hD hA hl
  have hS : va_S A s.heap s.heap [] := va_S.rf
  have hl : lv_has ls 3 [(0, .ref b0)] := hl
  unfold zf_X0_wettestRow at h
  refine lv_iconst (v := (0 : Int32)) hx hb dX0_wettestRow_0 (by decide) ?_
  refine lv_istore_n (lv' := [(1, .int (0 : Int32)), (0, .ref b0)]) hx hb dX0_wettestRow_1 rfl hl (by decide) rfl (fun ls hl => ?_)
  refine lv_iconst (v := (1 : Int32)) hx hb dX0_wettestRow_2 (by decide) ?_
  refine lv_istore_n (lv' := [(2, .int (1 : Int32)), (1, .int (0 : Int32)), (0, .ref b0)]) hx hb dX0_wettestRow_3 rfl hl (by decide) rfl (fun ls hl => ?_)
  have lp3 : ∀ (fu3 : Nat) (x1 : Int32) (x2 : Int32) (H : Heap) (locs : List Loc) (hP : va_P D zb_cl (zb_B cI b0 b1 b2 b3 b4 b5 b6 B) H) (hD : va_D A (zb_B cI b0 b1 b2 b3 b4 b5 b6 B)) (hS : va_S A s.heap H locs) (ls : Array Slot) (hl : lv_has ls 3 [(0, .ref b0), (1, .int x1), (2, .int x2)]) (h : zl2 (zf_X0_wettestRow_b4 B) fu3 x1 x2 = some r0), W p l e rm_X0_wettestRow s m args below meth c H locs 0 0 (zb_Q below D (some (.int r0)) (zb_B cI b0 b1 b2 b3 b4 b5 b6 B) A args s) (F0 m 4 ls []) := by
    intro fu3
    induction fu3 with
    | zero => intro x1 x2 H locs hP hD hS ls hl h; exact zb_no h
    | succ fu3 ih3 =>
      intro x1 x2 H locs hP hD hS ls hl h
      replace h : zf_X0_wettestRow_b4 B (zl2 (zf_X0_wettestRow_b4 B) fu3) x1 x2 = some r0 := h
      unfold zf_X0_wettestRow_b4 at h
      refine lv_iload_n hx hb dX0_wettestRow_4 rfl (lv_at hl 2 rfl) ?_
      refine lv_iconst (v := (5 : Int32)) hx hb dX0_wettestRow_5 (by decide) ?_
      refine lv_icmp_ge (tgt := 30) hx hb dX0_wettestRow_6 (by decide) (fun c4 => ?_) (fun c4 => ?_)
      · replace h := it_t c4 h
        refine lv_iload_n hx hb dX0_wettestRow_30 rfl (lv_at hl 1 rfl) ?_
        obtain rfl := re1 h
        exact zb_iret hx hb hr hlk hP hS dX0_wettestRow_31
      · replace h := it_f c4 h
        refine lv_aload_n hx hb dX0_wettestRow_9 rfl (lv_at hl 0 rfl) ?_
        refine lv_iload_n hx hb dX0_wettestRow_10 rfl (lv_at hl 2 rfl) ?_
        obtain ⟨r5, g6, h⟩ := bo1 h
        refine zb_callV (As := [.int x2]) (rest := []) ⟨hx, hb, hml, hown, hts⟩ (zc_X0_wetInRow l D cI b0 b1 b2 b3 b4 b5 b6 B x2 r5 g6) (cwV 1 hts gX0_wettestRow_X0_wetInRow rfl rfl rfl hd_X0_wetInRow ⟨Nat.le_of_ble_eq_true rfl, Nat.le_of_ble_eq_true rfl⟩) hK hP hD hS hA (zb_sB) (q0 := 0) rfl rfl rfl hl.1 rfl (Nat.le_of_ble_eq_true rfl) dX0_wettestRow_11 ⟨Nat.le_refl _, Nat.le_refl _⟩ (fun H locs hP hD hS => ?_)
        refine lv_aload_n hx hb dX0_wettestRow_14 rfl (lv_at hl 0 rfl) ?_
        refine lv_iload_n hx hb dX0_wettestRow_15 rfl (lv_at hl 1 rfl) ?_
        obtain ⟨r7, g8, h⟩ := bo1 h
        refine zb_callV (As := [.int x1]) (rest := [.int r5]) ⟨hx, hb, hml, hown, hts⟩ (zc_X0_wetInRow l D cI b0 b1 b2 b3 b4 b5 b6 B x1 r7 g8) (cwV 1 hts gX0_wettestRow_X0_wetInRow rfl rfl rfl hd_X0_wetInRow ⟨Nat.le_of_ble_eq_true rfl, Nat.le_of_ble_eq_true rfl⟩) hK hP hD hS hA (zb_sB) (q0 := 0) rfl rfl rfl hl.1 rfl (Nat.le_of_ble_eq_true rfl) dX0_wettestRow_16 ⟨Nat.le_refl _, Nat.le_refl _⟩ (fun H locs hP hD hS => ?_)
        refine lv_icmp_le (tgt := 24) hx hb dX0_wettestRow_19 (by decide) (fun c9 => ?_) (fun c9 => ?_)
        · replace h := it_t c9 h
          refine lv_iinc (v := (x2 + (1 : Int32))) (lv' := [(2, .int (x2 + (1 : Int32))), (0, .ref b0), (1, .int x1)]) hx hb dX0_wettestRow_24 hl (k := 2) rfl (by first | rfl | decide) (by decide) rfl (fun ls hl => ?_)
          refine lv_goto (tgt := 4) hx hb dX0_wettestRow_27 (by decide) ?_
          exact ih3 x1 (x2 + (1 : Int32)) _ _ hP hD hS ls (lv_sub hl [1, 2, 0] rfl) h
        · replace h := it_f c9 h
          refine lv_iload_n hx hb dX0_wettestRow_22 rfl (lv_at hl 2 rfl) ?_
          refine lv_istore_n (lv' := [(1, .int x2), (0, .ref b0), (2, .int x2)]) hx hb dX0_wettestRow_23 rfl hl (by decide) rfl (fun ls hl => ?_)
          refine lv_iinc (v := (x2 + (1 : Int32))) (lv' := [(2, .int (x2 + (1 : Int32))), (1, .int x2), (0, .ref b0)]) hx hb dX0_wettestRow_24 hl (k := 2) rfl (by first | rfl | decide) (by decide) rfl (fun ls hl => ?_)
          refine lv_goto (tgt := 4) hx hb dX0_wettestRow_27 (by decide) ?_
          exact ih3 x2 (x2 + (1 : Int32)) _ _ hP hD hS ls (lv_sub hl [2, 1, 0] rfl) h
  exact lp3 zb_FU (0 : Int32) (1 : Int32) _ _ hP hD hS ls (lv_sub hl [2, 1, 0] rfl) h
abbrev rm_X0_allWet : Room := { frames := 3, cells := 0, slots := 0, locals := 64 }
theorem hd_X0_allWet : yX0_allWet.cls = RX0 ∧ yX0_allWet.cls ≠ "java/lang/invoke/MethodHandle" ∧ yX0_allWet.cls ≠ "java/lang/invoke/VarHandle" ∧ (parseMethodDescriptor yX0_allWet.desc).map (fun d => d.parameters.length) = some 0 := by decide +kernel
set_option maxHeartbeats 4000000 in
set_option maxRecDepth 100000 in
theorem zc_X0_allWet (l : Launch) (D : va_G) (cI : ClassId) (b0 b1 b2 b3 b4 b5 b6 : Nat) (B : BT) (r0 : Int32) (h : zf_X0_allWet B = some r0) : Cn l D cI yX0_allWet wsX0_allWet rm_X0_allWet [.ref b0] (zb_B cI b0 b1 b2 b3 b4 b5 b6 B) (some (.int r0)) (zb_B cI b0 b1 b2 b3 b4 b5 b6 B) := by
  refine zb_ofW (cc := cX0_allWet) (maxL := 3) (ret := (some .int)) (by decide) rfl (Nat.le_of_ble_eq_true rfl) ?_
  intro p e s m args below meth c A ls hx hb hr hml hts hown hlk hK hP hD hA hl
  have hS : va_S A s.heap s.heap [] := va_S.rf
  have hl : lv_has ls 3 [(0, .ref b0)] := hl
  unfold zf_X0_allWet at h
  refine lv_iconst (v := (0 : Int32)) hx hb dX0_allWet_0 (by decide) ?_
  refine lv_istore_n (lv' := [(1, .int (0 : Int32)), (0, .ref b0)]) hx hb dX0_allWet_1 rfl hl (by decide) rfl (fun ls hl => ?_)
  refine lv_iconst (v := (0 : Int32)) hx hb dX0_allWet_2 (by decide) ?_
  refine lv_istore_n (lv' := [(2, .int (0 : Int32)), (1, .int (0 : Int32)), (0, .ref b0)]) hx hb dX0_allWet_3 rfl hl (by decide) rfl (fun ls hl => ?_)
  have lp3 : ∀ (fu3 : Nat) (x1 : Int32) (x2 : Int32) (H : Heap) (locs : List Loc) (hP : va_P D zb_cl (zb_B cI b0 b1 b2 b3 b4 b5 b6 B) H) (hD : va_D A (zb_B cI b0 b1 b2 b3 b4 b5 b6 B)) (hS : va_S A s.heap H locs) (ls : Array Slot) (hl : lv_has ls 3 [(0, .ref b0), (1, .int x1), (2, .int x2)]) (h : zl2 (zf_X0_allWet_b4 B) fu3 x1 x2 = some r0), W p l e rm_X0_allWet s m args below meth c H locs 0 0 (zb_Q below D (some (.int r0)) (zb_B cI b0 b1 b2 b3 b4 b5 b6 B) A args s) (F0 m 4 ls []) := by
    intro fu3
    induction fu3 with
    | zero => intro x1 x2 H locs hP hD hS ls hl h; exact zb_no h
    | succ fu3 ih3 =>
      intro x1 x2 H locs hP hD hS ls hl h
      replace h : zf_X0_allWet_b4 B (zl2 (zf_X0_allWet_b4 B) fu3) x1 x2 = some r0 := h
      unfold zf_X0_allWet_b4 at h
      refine lv_iload_n hx hb dX0_allWet_4 rfl (lv_at hl 2 rfl) ?_
      refine lv_iconst (v := (5 : Int32)) hx hb dX0_allWet_5 (by decide) ?_
      refine lv_icmp_ge (tgt := 23) hx hb dX0_allWet_6 (by decide) (fun c4 => ?_) (fun c4 => ?_)
      · replace h := it_t c4 h
        refine lv_iload_n hx hb dX0_allWet_23 rfl (lv_at hl 1 rfl) ?_
        obtain rfl := re1 h
        exact zb_iret hx hb hr hlk hP hS dX0_allWet_24
      · replace h := it_f c4 h
        refine lv_iload_n hx hb dX0_allWet_9 rfl (lv_at hl 1 rfl) ?_
        refine lv_aload_n hx hb dX0_allWet_10 rfl (lv_at hl 0 rfl) ?_
        refine lv_iload_n hx hb dX0_allWet_11 rfl (lv_at hl 2 rfl) ?_
        obtain ⟨r5, g6, h⟩ := bo1 h
        refine zb_callV (As := [.int x2]) (rest := [.int x1]) ⟨hx, hb, hml, hown, hts⟩ (zc_X0_wetInRow l D cI b0 b1 b2 b3 b4 b5 b6 B x2 r5 g6) (cwV 1 hts gX0_allWet_X0_wetInRow rfl rfl rfl hd_X0_wetInRow ⟨Nat.le_of_ble_eq_true rfl, Nat.le_of_ble_eq_true rfl⟩) hK hP hD hS hA (zb_sB) (q0 := 0) rfl rfl rfl hl.1 rfl (Nat.le_of_ble_eq_true rfl) dX0_allWet_12 ⟨Nat.le_refl _, Nat.le_refl _⟩ (fun H locs hP hD hS => ?_)
        refine lv_iadd hx hb dX0_allWet_15 ?_
        refine lv_istore_n (lv' := [(1, .int (x1 + r5)), (0, .ref b0), (2, .int x2)]) hx hb dX0_allWet_16 rfl hl (by decide) rfl (fun ls hl => ?_)
        refine lv_iinc (v := (x2 + (1 : Int32))) (lv' := [(2, .int (x2 + (1 : Int32))), (1, .int (x1 + r5)), (0, .ref b0)]) hx hb dX0_allWet_17 hl (k := 2) rfl (by first | rfl | decide) (by decide) rfl (fun ls hl => ?_)
        refine lv_goto (tgt := 4) hx hb dX0_allWet_20 (by decide) ?_
        exact ih3 (x1 + r5) (x2 + (1 : Int32)) _ _ hP hD hS ls (lv_sub hl [2, 1, 0] rfl) h
  exact lp3 zb_FU (0 : Int32) (0 : Int32) _ _ hP hD hS ls (lv_sub hl [2, 1, 0] rfl) h
abbrev rm_X0_allFigures : Room := { frames := 2, cells := 0, slots := 0, locals := 41 }
theorem hd_X0_allFigures : yX0_allFigures.cls = RX0 ∧ yX0_allFigures.cls ≠ "java/lang/invoke/MethodHandle" ∧ yX0_allFigures.cls ≠ "java/lang/invoke/VarHandle" ∧ (parseMethodDescriptor yX0_allFigures.desc).map (fun d => d.parameters.length) = some 0 := by decide +kernel
set_option maxHeartbeats 4000000 in
set_option maxRecDepth 100000 in
theorem zc_X0_allFigures (l : Launch) (D : va_G) (cI : ClassId) (b0 b1 b2 b3 b4 b5 b6 : Nat) (B : BT) (r0 : Int32) (h : zf_X0_allFigures B = some r0) : Cn l D cI yX0_allFigures wsX0_allFigures rm_X0_allFigures [.ref b0] (zb_B cI b0 b1 b2 b3 b4 b5 b6 B) (some (.int r0)) (zb_B cI b0 b1 b2 b3 b4 b5 b6 B) := by
  refine zb_ofW (cc := cX0_allFigures) (maxL := 3) (ret := (some .int)) (by decide) rfl (Nat.le_of_ble_eq_true rfl) ?_
  intro p e s m args below meth c A ls hx hb hr hml hts hown hlk hK hP hD hA hl
  have hS : va_S A s.heap s.heap [] := va_S.rf
  have hl : lv_has ls 3 [(0, .ref b0)] := hl
  unfold zf_X0_allFigures at h
  refine lv_iconst (v := (0 : Int32)) hx hb dX0_allFigures_0 (by decide) ?_
  refine lv_istore_n (lv' := [(1, .int (0 : Int32)), (0, .ref b0)]) hx hb dX0_allFigures_1 rfl hl (by decide) rfl (fun ls hl => ?_)
  refine lv_iconst (v := (0 : Int32)) hx hb dX0_allFigures_2 (by decide) ?_
  refine lv_istore_n (lv' := [(2, .int (0 : Int32)), (1, .int (0 : Int32)), (0, .ref b0)]) hx hb dX0_allFigures_3 rfl hl (by decide) rfl (fun ls hl => ?_)
  have lp3 : ∀ (fu3 : Nat) (x1 : Int32) (x2 : Int32) (H : Heap) (locs : List Loc) (hP : va_P D zb_cl (zb_B cI b0 b1 b2 b3 b4 b5 b6 B) H) (hD : va_D A (zb_B cI b0 b1 b2 b3 b4 b5 b6 B)) (hS : va_S A s.heap H locs) (ls : Array Slot) (hl : lv_has ls 3 [(0, .ref b0), (1, .int x1), (2, .int x2)]) (h : zl2 (zf_X0_allFigures_b4 B) fu3 x1 x2 = some r0), W p l e rm_X0_allFigures s m args below meth c H locs 0 0 (zb_Q below D (some (.int r0)) (zb_B cI b0 b1 b2 b3 b4 b5 b6 B) A args s) (F0 m 4 ls []) := by
    intro fu3
    induction fu3 with
    | zero => intro x1 x2 H locs hP hD hS ls hl h; exact zb_no h
    | succ fu3 ih3 =>
      intro x1 x2 H locs hP hD hS ls hl h
      replace h : zf_X0_allFigures_b4 B (zl2 (zf_X0_allFigures_b4 B) fu3) x1 x2 = some r0 := h
      unfold zf_X0_allFigures_b4 at h
      refine lv_iload_n hx hb dX0_allFigures_4 rfl (lv_at hl 2 rfl) ?_
      refine lv_bipush (v := (30 : Int32)) hx hb dX0_allFigures_5 (by decide) ?_
      refine lv_icmp_ge (tgt := 24) hx hb dX0_allFigures_7 (by decide) (fun c4 => ?_) (fun c4 => ?_)
      · replace h := it_t c4 h
        refine lv_iload_n hx hb dX0_allFigures_24 rfl (lv_at hl 1 rfl) ?_
        obtain rfl := re1 h
        exact zb_iret hx hb hr hlk hP hS dX0_allFigures_25
      · replace h := it_f c4 h
        refine lv_iload_n hx hb dX0_allFigures_10 rfl (lv_at hl 1 rfl) ?_
        refine lv_aload_n hx hb dX0_allFigures_11 rfl (lv_at hl 0 rfl) ?_
        refine lv_iload_n hx hb dX0_allFigures_12 rfl (lv_at hl 2 rfl) ?_
        obtain ⟨r5, g6, h⟩ := bo1 h
        refine zb_callV (As := [.int x2]) (rest := [.int x1]) ⟨hx, hb, hml, hown, hts⟩ (zc_X0_figureOf l D cI b0 b1 b2 b3 b4 b5 b6 B x2 r5 g6) (cwV 1 hts gX0_allFigures_X0_figureOf rfl rfl rfl hd_X0_figureOf ⟨Nat.le_of_ble_eq_true rfl, Nat.le_of_ble_eq_true rfl⟩) hK hP hD hS hA (zb_sB) (q0 := 0) rfl rfl rfl hl.1 rfl (Nat.le_of_ble_eq_true rfl) dX0_allFigures_13 ⟨Nat.le_refl _, Nat.le_refl _⟩ (fun H locs hP hD hS => ?_)
        refine lv_iadd hx hb dX0_allFigures_16 ?_
        refine lv_istore_n (lv' := [(1, .int (x1 + r5)), (0, .ref b0), (2, .int x2)]) hx hb dX0_allFigures_17 rfl hl (by decide) rfl (fun ls hl => ?_)
        refine lv_iinc (v := (x2 + (1 : Int32))) (lv' := [(2, .int (x2 + (1 : Int32))), (1, .int (x1 + r5)), (0, .ref b0)]) hx hb dX0_allFigures_18 hl (k := 2) rfl (by first | rfl | decide) (by decide) rfl (fun ls hl => ?_)
        refine lv_goto (tgt := 4) hx hb dX0_allFigures_21 (by decide) ?_
        exact ih3 (x1 + r5) (x2 + (1 : Int32)) _ _ hP hD hS ls (lv_sub hl [2, 1, 0] rfl) h
  exact lp3 zb_FU (0 : Int32) (0 : Int32) _ _ hP hD hS ls (lv_sub hl [2, 1, 0] rfl) h
abbrev rm_X0_allHelped : Room := { frames := 2, cells := 0, slots := 0, locals := 42 }
theorem hd_X0_allHelped : yX0_allHelped.cls = RX0 ∧ yX0_allHelped.cls ≠ "java/lang/invoke/MethodHandle" ∧ yX0_allHelped.cls ≠ "java/lang/invoke/VarHandle" ∧ (parseMethodDescriptor yX0_allHelped.desc).map (fun d => d.parameters.length) = some 0 := by decide +kernel
theorem zi_X0_allHelped_X0 : ∀ w ∈ wsX00, w ∈ wsX0_allHelped := fun _ h => List.mem_cons_of_mem _ (List.mem_append_right _ h)
theorem zk_X0_allHelped_0 : Cond.fieldLink RX0 42 "GroutingIsFollowed$Bath" "people" "I" ∈ wsX0_allHelped := by decide +kernel
set_option maxHeartbeats 4000000 in
set_option maxRecDepth 100000 in
theorem zc_X0_allHelped (l : Launch) (D : va_G) (cI : ClassId) (b0 b1 b2 b3 b4 b5 b6 : Nat) (B : BT) (r0 : Int32) (h : zf_X0_allHelped B = some r0) : Cn l D cI yX0_allHelped wsX0_allHelped rm_X0_allHelped [.ref b0] (zb_B cI b0 b1 b2 b3 b4 b5 b6 B) (some (.int r0)) (zb_B cI b0 b1 b2 b3 b4 b5 b6 B) := by
  refine zb_ofW (cc := cX0_allHelped) (maxL := 3) (ret := (some .int)) (by decide) rfl (Nat.le_of_ble_eq_true rfl) ?_
  intro p e s m args below meth c A ls hx hb hr hml hts hown hlk hK hP hD hA hl
  have hS : va_S A s.heap s.heap [] := va_S.rf
  have hl : lv_has ls 3 [(0, .ref b0)] := hl
  unfold zf_X0_allHelped at h
  refine lv_iconst (v := (0 : Int32)) hx hb dX0_allHelped_0 (by decide) ?_
  refine lv_istore_n (lv' := [(1, .int (0 : Int32)), (0, .ref b0)]) hx hb dX0_allHelped_1 rfl hl (by decide) rfl (fun ls hl => ?_)
  refine lv_iconst (v := (0 : Int32)) hx hb dX0_allHelped_2 (by decide) ?_
  refine lv_istore_n (lv' := [(2, .int (0 : Int32)), (1, .int (0 : Int32)), (0, .ref b0)]) hx hb dX0_allHelped_3 rfl hl (by decide) rfl (fun ls hl => ?_)
  have lp3 : ∀ (fu3 : Nat) (x1 : Int32) (x2 : Int32) (H : Heap) (locs : List Loc) (hP : va_P D zb_cl (zb_B cI b0 b1 b2 b3 b4 b5 b6 B) H) (hD : va_D A (zb_B cI b0 b1 b2 b3 b4 b5 b6 B)) (hS : va_S A s.heap H locs) (ls : Array Slot) (hl : lv_has ls 3 [(0, .ref b0), (1, .int x1), (2, .int x2)]) (h : zl2 (zf_X0_allHelped_b4 B) fu3 x1 x2 = some r0), W p l e rm_X0_allHelped s m args below meth c H locs 0 0 (zb_Q below D (some (.int r0)) (zb_B cI b0 b1 b2 b3 b4 b5 b6 B) A args s) (F0 m 4 ls []) := by
    intro fu3
    induction fu3 with
    | zero => intro x1 x2 H locs hP hD hS ls hl h; exact zb_no h
    | succ fu3 ih3 =>
      intro x1 x2 H locs hP hD hS ls hl h
      replace h : zf_X0_allHelped_b4 B (zl2 (zf_X0_allHelped_b4 B) fu3) x1 x2 = some r0 := h
      unfold zf_X0_allHelped_b4 at h
      refine lv_iload_n hx hb dX0_allHelped_4 rfl (lv_at hl 2 rfl) ?_
      refine lv_aload_n hx hb dX0_allHelped_5 rfl (lv_at hl 0 rfl) ?_
      refine va_get (D := D) (ci := 0) (v := .int (bt_people B)) (C := RX0) (T := TX0) (N := 8) hx hb hts zi_X0_allHelped_X0 hown hK.1 hP 0 rfl rfl 6 (by decide) (hts _ zk_X0_allHelped_0) (fun _ h9 => h9) rfl dX0_allHelped_6 ?_
      refine lv_icmp_ge (tgt := 26) hx hb dX0_allHelped_9 (by decide) (fun c4 => ?_) (fun c4 => ?_)
      · replace h := it_t c4 h
        refine lv_iload_n hx hb dX0_allHelped_26 rfl (lv_at hl 1 rfl) ?_
        obtain rfl := re1 h
        exact zb_iret hx hb hr hlk hP hS dX0_allHelped_27
      · replace h := it_f c4 h
        refine lv_iload_n hx hb dX0_allHelped_12 rfl (lv_at hl 1 rfl) ?_
        refine lv_aload_n hx hb dX0_allHelped_13 rfl (lv_at hl 0 rfl) ?_
        refine lv_iload_n hx hb dX0_allHelped_14 rfl (lv_at hl 2 rfl) ?_
        obtain ⟨r5, g6, h⟩ := bo1 h
        refine zb_callV (As := [.int x2]) (rest := [.int x1]) ⟨hx, hb, hml, hown, hts⟩ (zc_X0_helpedOf l D cI b0 b1 b2 b3 b4 b5 b6 B x2 r5 g6) (cwV 1 hts gX0_allHelped_X0_helpedOf rfl rfl rfl hd_X0_helpedOf ⟨Nat.le_of_ble_eq_true rfl, Nat.le_of_ble_eq_true rfl⟩) hK hP hD hS hA (zb_sB) (q0 := 0) rfl rfl rfl hl.1 rfl (Nat.le_of_ble_eq_true rfl) dX0_allHelped_15 ⟨Nat.le_refl _, Nat.le_refl _⟩ (fun H locs hP hD hS => ?_)
        refine lv_iadd hx hb dX0_allHelped_18 ?_
        refine lv_istore_n (lv' := [(1, .int (x1 + r5)), (0, .ref b0), (2, .int x2)]) hx hb dX0_allHelped_19 rfl hl (by decide) rfl (fun ls hl => ?_)
        refine lv_iinc (v := (x2 + (1 : Int32))) (lv' := [(2, .int (x2 + (1 : Int32))), (1, .int (x1 + r5)), (0, .ref b0)]) hx hb dX0_allHelped_20 hl (k := 2) rfl (by first | rfl | decide) (by decide) rfl (fun ls hl => ?_)
        refine lv_goto (tgt := 4) hx hb dX0_allHelped_23 (by decide) ?_
        exact ih3 (x1 + r5) (x2 + (1 : Int32)) _ _ hP hD hS ls (lv_sub hl [2, 1, 0] rfl) h
  exact lp3 zb_FU (0 : Int32) (0 : Int32) _ _ hP hD hS ls (lv_sub hl [2, 1, 0] rfl) h
abbrev rm_X0_mostHelped : Room := { frames := 2, cells := 0, slots := 0, locals := 42 }
theorem hd_X0_mostHelped : yX0_mostHelped.cls = RX0 ∧ yX0_mostHelped.cls ≠ "java/lang/invoke/MethodHandle" ∧ yX0_mostHelped.cls ≠ "java/lang/invoke/VarHandle" ∧ (parseMethodDescriptor yX0_mostHelped.desc).map (fun d => d.parameters.length) = some 0 := by decide +kernel
theorem zi_X0_mostHelped_X0 : ∀ w ∈ wsX00, w ∈ wsX0_mostHelped := fun _ h => List.mem_cons_of_mem _ (List.mem_append_right _ h)
theorem zk_X0_mostHelped_0 : Cond.fieldLink RX0 42 "GroutingIsFollowed$Bath" "people" "I" ∈ wsX0_mostHelped := by decide +kernel
set_option maxHeartbeats 4000000 in
set_option maxRecDepth 100000 in
theorem zc_X0_mostHelped (l : Launch) (D : va_G) (cI : ClassId) (b0 b1 b2 b3 b4 b5 b6 : Nat) (B : BT) (r0 : Int32) (h : zf_X0_mostHelped B = some r0) : Cn l D cI yX0_mostHelped wsX0_mostHelped rm_X0_mostHelped [.ref b0] (zb_B cI b0 b1 b2 b3 b4 b5 b6 B) (some (.int r0)) (zb_B cI b0 b1 b2 b3 b4 b5 b6 B) := by
  refine zb_ofW (cc := cX0_mostHelped) (maxL := 3) (ret := (some .int)) (by decide) rfl (Nat.le_of_ble_eq_true rfl) ?_
  intro p e s m args below meth c A ls hx hb hr hml hts hown hlk hK hP hD hA hl
  have hS : va_S A s.heap s.heap [] := va_S.rf
  have hl : lv_has ls 3 [(0, .ref b0)] := hl
  unfold zf_X0_mostHelped at h
  refine lv_bipush (v := ((-9) : Int32)) hx hb dX0_mostHelped_0 (by decide) ?_
  refine lv_istore_n (lv' := [(1, .int ((-9) : Int32)), (0, .ref b0)]) hx hb dX0_mostHelped_2 rfl hl (by decide) rfl (fun ls hl => ?_)
  refine lv_iconst (v := (0 : Int32)) hx hb dX0_mostHelped_3 (by decide) ?_
  refine lv_istore_n (lv' := [(2, .int (0 : Int32)), (1, .int ((-9) : Int32)), (0, .ref b0)]) hx hb dX0_mostHelped_4 rfl hl (by decide) rfl (fun ls hl => ?_)
  have lp3 : ∀ (fu3 : Nat) (x1 : Int32) (x2 : Int32) (H : Heap) (locs : List Loc) (hP : va_P D zb_cl (zb_B cI b0 b1 b2 b3 b4 b5 b6 B) H) (hD : va_D A (zb_B cI b0 b1 b2 b3 b4 b5 b6 B)) (hS : va_S A s.heap H locs) (ls : Array Slot) (hl : lv_has ls 3 [(0, .ref b0), (1, .int x1), (2, .int x2)]) (h : zl2 (zf_X0_mostHelped_b5 B) fu3 x1 x2 = some r0), W p l e rm_X0_mostHelped s m args below meth c H locs 0 0 (zb_Q below D (some (.int r0)) (zb_B cI b0 b1 b2 b3 b4 b5 b6 B) A args s) (F0 m 5 ls []) := by
    intro fu3
    induction fu3 with
    | zero => intro x1 x2 H locs hP hD hS ls hl h; exact zb_no h
    | succ fu3 ih3 =>
      intro x1 x2 H locs hP hD hS ls hl h
      replace h : zf_X0_mostHelped_b5 B (zl2 (zf_X0_mostHelped_b5 B) fu3) x1 x2 = some r0 := h
      unfold zf_X0_mostHelped_b5 at h
      refine lv_iload_n hx hb dX0_mostHelped_5 rfl (lv_at hl 2 rfl) ?_
      refine lv_aload_n hx hb dX0_mostHelped_6 rfl (lv_at hl 0 rfl) ?_
      refine va_get (D := D) (ci := 0) (v := .int (bt_people B)) (C := RX0) (T := TX0) (N := 8) hx hb hts zi_X0_mostHelped_X0 hown hK.1 hP 0 rfl rfl 6 (by decide) (hts _ zk_X0_mostHelped_0) (fun _ h9 => h9) rfl dX0_mostHelped_7 ?_
      refine lv_icmp_ge (tgt := 38) hx hb dX0_mostHelped_10 (by decide) (fun c4 => ?_) (fun c4 => ?_)
      · replace h := it_t c4 h
        refine lv_iload_n hx hb dX0_mostHelped_38 rfl (lv_at hl 1 rfl) ?_
        obtain rfl := re1 h
        exact zb_iret hx hb hr hlk hP hS dX0_mostHelped_39
      · replace h := it_f c4 h
        refine lv_iload_n hx hb dX0_mostHelped_13 rfl (lv_at hl 1 rfl) ?_
        refine lv_if_lt (tgt := 30) hx hb dX0_mostHelped_14 (by decide) (fun c5 => ?_) (fun c5 => ?_)
        · replace h := it_t c5 h
          refine lv_iload_n hx hb dX0_mostHelped_30 rfl (lv_at hl 2 rfl) ?_
          refine lv_istore_n (lv' := [(1, .int x2), (0, .ref b0), (2, .int x2)]) hx hb dX0_mostHelped_31 rfl hl (by decide) rfl (fun ls hl => ?_)
          refine lv_iinc (v := (x2 + (1 : Int32))) (lv' := [(2, .int (x2 + (1 : Int32))), (1, .int x2), (0, .ref b0)]) hx hb dX0_mostHelped_32 hl (k := 2) rfl (by first | rfl | decide) (by decide) rfl (fun ls hl => ?_)
          refine lv_goto (tgt := 5) hx hb dX0_mostHelped_35 (by decide) ?_
          exact ih3 x2 (x2 + (1 : Int32)) _ _ hP hD hS ls (lv_sub hl [2, 1, 0] rfl) h
        · replace h := it_f c5 h
          refine lv_aload_n hx hb dX0_mostHelped_17 rfl (lv_at hl 0 rfl) ?_
          refine lv_iload_n hx hb dX0_mostHelped_18 rfl (lv_at hl 2 rfl) ?_
          obtain ⟨r6, g7, h⟩ := bo1 h
          refine zb_callV (As := [.int x2]) (rest := []) ⟨hx, hb, hml, hown, hts⟩ (zc_X0_helpedOf l D cI b0 b1 b2 b3 b4 b5 b6 B x2 r6 g7) (cwV 1 hts gX0_mostHelped_X0_helpedOf rfl rfl rfl hd_X0_helpedOf ⟨Nat.le_of_ble_eq_true rfl, Nat.le_of_ble_eq_true rfl⟩) hK hP hD hS hA (zb_sB) (q0 := 0) rfl rfl rfl hl.1 rfl (Nat.le_of_ble_eq_true rfl) dX0_mostHelped_19 ⟨Nat.le_refl _, Nat.le_refl _⟩ (fun H locs hP hD hS => ?_)
          refine lv_aload_n hx hb dX0_mostHelped_22 rfl (lv_at hl 0 rfl) ?_
          refine lv_iload_n hx hb dX0_mostHelped_23 rfl (lv_at hl 1 rfl) ?_
          obtain ⟨r8, g9, h⟩ := bo1 h
          refine zb_callV (As := [.int x1]) (rest := [.int r6]) ⟨hx, hb, hml, hown, hts⟩ (zc_X0_helpedOf l D cI b0 b1 b2 b3 b4 b5 b6 B x1 r8 g9) (cwV 1 hts gX0_mostHelped_X0_helpedOf rfl rfl rfl hd_X0_helpedOf ⟨Nat.le_of_ble_eq_true rfl, Nat.le_of_ble_eq_true rfl⟩) hK hP hD hS hA (zb_sB) (q0 := 0) rfl rfl rfl hl.1 rfl (Nat.le_of_ble_eq_true rfl) dX0_mostHelped_24 ⟨Nat.le_refl _, Nat.le_refl _⟩ (fun H locs hP hD hS => ?_)
          refine lv_icmp_le (tgt := 32) hx hb dX0_mostHelped_27 (by decide) (fun c10 => ?_) (fun c10 => ?_)
          · replace h := it_t c10 h
            refine lv_iinc (v := (x2 + (1 : Int32))) (lv' := [(2, .int (x2 + (1 : Int32))), (0, .ref b0), (1, .int x1)]) hx hb dX0_mostHelped_32 hl (k := 2) rfl (by first | rfl | decide) (by decide) rfl (fun ls hl => ?_)
            refine lv_goto (tgt := 5) hx hb dX0_mostHelped_35 (by decide) ?_
            exact ih3 x1 (x2 + (1 : Int32)) _ _ hP hD hS ls (lv_sub hl [1, 2, 0] rfl) h
          · replace h := it_f c10 h
            refine lv_iload_n hx hb dX0_mostHelped_30 rfl (lv_at hl 2 rfl) ?_
            refine lv_istore_n (lv' := [(1, .int x2), (0, .ref b0), (2, .int x2)]) hx hb dX0_mostHelped_31 rfl hl (by decide) rfl (fun ls hl => ?_)
            refine lv_iinc (v := (x2 + (1 : Int32))) (lv' := [(2, .int (x2 + (1 : Int32))), (1, .int x2), (0, .ref b0)]) hx hb dX0_mostHelped_32 hl (k := 2) rfl (by first | rfl | decide) (by decide) rfl (fun ls hl => ?_)
            refine lv_goto (tgt := 5) hx hb dX0_mostHelped_35 (by decide) ?_
            exact ih3 x2 (x2 + (1 : Int32)) _ _ hP hD hS ls (lv_sub hl [2, 1, 0] rfl) h
  exact lp3 zb_FU ((-9) : Int32) (0 : Int32) _ _ hP hD hS ls (lv_sub hl [2, 1, 0] rfl) h
abbrev rm_X0_together : Room := { frames := 2, cells := 0, slots := 0, locals := 42 }
theorem hd_X0_together : yX0_together.cls = RX0 ∧ yX0_together.cls ≠ "java/lang/invoke/MethodHandle" ∧ yX0_together.cls ≠ "java/lang/invoke/VarHandle" ∧ (parseMethodDescriptor yX0_together.desc).map (fun d => d.parameters.length) = some 0 := by decide +kernel
theorem zi_X0_together_X0 : ∀ w ∈ wsX00, w ∈ wsX0_together := fun _ h => List.mem_cons_of_mem _ (List.mem_append_right _ h)
theorem zk_X0_together_0 : Cond.fieldLink RX0 42 "GroutingIsFollowed$Bath" "people" "I" ∈ wsX0_together := by decide +kernel
set_option maxHeartbeats 4000000 in
set_option maxRecDepth 100000 in
theorem zc_X0_together (l : Launch) (D : va_G) (cI : ClassId) (b0 b1 b2 b3 b4 b5 b6 : Nat) (B : BT) (r0 : Int32) (h : zf_X0_together B = some r0) : Cn l D cI yX0_together wsX0_together rm_X0_together [.ref b0] (zb_B cI b0 b1 b2 b3 b4 b5 b6 B) (some (.int r0)) (zb_B cI b0 b1 b2 b3 b4 b5 b6 B) := by
  refine zb_ofW (cc := cX0_together) (maxL := 5) (ret := (some .int)) (by decide) rfl (Nat.le_of_ble_eq_true rfl) ?_
  intro p e s m args below meth c A ls hx hb hr hml hts hown hlk hK hP hD hA hl
  have hS : va_S A s.heap s.heap [] := va_S.rf
  have hl : lv_has ls 5 [(0, .ref b0)] := hl
  unfold zf_X0_together at h
  refine lv_iconst (v := (0 : Int32)) hx hb dX0_together_0 (by decide) ?_
  refine lv_istore_n (lv' := [(1, .int (0 : Int32)), (0, .ref b0)]) hx hb dX0_together_1 rfl hl (by decide) rfl (fun ls hl => ?_)
  refine lv_iconst (v := (0 : Int32)) hx hb dX0_together_2 (by decide) ?_
  refine lv_istore_n (lv' := [(2, .int (0 : Int32)), (1, .int (0 : Int32)), (0, .ref b0)]) hx hb dX0_together_3 rfl hl (by decide) rfl (fun ls hl => ?_)
  refine lv_iconst (v := (0 : Int32)) hx hb dX0_together_4 (by decide) ?_
  refine lv_istore_n (lv' := [(3, .int (0 : Int32)), (2, .int (0 : Int32)), (1, .int (0 : Int32)), (0, .ref b0)]) hx hb dX0_together_5 rfl hl (by decide) rfl (fun ls hl => ?_)
  have lp4 : ∀ (fu4 : Nat) (x1 : Int32) (x2 : Int32) (x3 : Int32) (H : Heap) (locs : List Loc) (hP : va_P D zb_cl (zb_B cI b0 b1 b2 b3 b4 b5 b6 B) H) (hD : va_D A (zb_B cI b0 b1 b2 b3 b4 b5 b6 B)) (hS : va_S A s.heap H locs) (ls : Array Slot) (hl : lv_has ls 5 [(0, .ref b0), (1, .int x1), (2, .int x2), (3, .int x3)]) (h : zl3 (zf_X0_together_b6 B) fu4 x1 x2 x3 = some r0), W p l e rm_X0_together s m args below meth c H locs 0 0 (zb_Q below D (some (.int r0)) (zb_B cI b0 b1 b2 b3 b4 b5 b6 B) A args s) (F0 m 6 ls []) := by
    intro fu4
    induction fu4 with
    | zero => intro x1 x2 x3 H locs hP hD hS ls hl h; exact zb_no h
    | succ fu4 ih4 =>
      intro x1 x2 x3 H locs hP hD hS ls hl h
      replace h : zf_X0_together_b6 B (zl3 (zf_X0_together_b6 B) fu4) x1 x2 x3 = some r0 := h
      unfold zf_X0_together_b6 at h
      refine lv_iload_n hx hb dX0_together_6 rfl (lv_at hl 3 rfl) ?_
      refine lv_aload_n hx hb dX0_together_7 rfl (lv_at hl 0 rfl) ?_
      refine va_get (D := D) (ci := 0) (v := .int (bt_people B)) (C := RX0) (T := TX0) (N := 8) hx hb hts zi_X0_together_X0 hown hK.1 hP 0 rfl rfl 6 (by decide) (hts _ zk_X0_together_0) (fun _ h9 => h9) rfl dX0_together_8 ?_
      refine lv_icmp_ge (tgt := 41) hx hb dX0_together_11 (by decide) (fun c5 => ?_) (fun c5 => ?_)
      · replace h := it_t c5 h
        refine lv_iload_n hx hb dX0_together_41 rfl (lv_at hl 2 rfl) ?_
        obtain rfl := re1 h
        exact zb_iret hx hb hr hlk hP hS dX0_together_42
      · replace h := it_f c5 h
        refine lv_iconst (v := (1 : Int32)) hx hb dX0_together_14 (by decide) ?_
        refine lv_aload_n hx hb dX0_together_15 rfl (lv_at hl 0 rfl) ?_
        refine lv_iload_n hx hb dX0_together_16 rfl (lv_at hl 3 rfl) ?_
        obtain ⟨r6, g7, h⟩ := bo1 h
        refine zb_callV (As := [.int x3]) (rest := [.int (1 : Int32)]) ⟨hx, hb, hml, hown, hts⟩ (zc_X0_placeOf l D cI b0 b1 b2 b3 b4 b5 b6 B x3 r6 g7) (cwV 1 hts gX0_together_X0_placeOf rfl rfl rfl hd_X0_placeOf ⟨Nat.le_of_ble_eq_true rfl, Nat.le_of_ble_eq_true rfl⟩) hK hP hD hS hA (zb_sB) (q0 := 0) rfl rfl rfl hl.1 rfl (Nat.le_of_ble_eq_true rfl) dX0_together_17 ⟨Nat.le_refl _, Nat.le_refl _⟩ (fun H locs hP hD hS => ?_)
        refine lv_ishl hx hb dX0_together_20 ?_
        refine lv_istore (lv' := [(4, .int ((1 : Int32) <<< (r6 &&& 31))), (0, .ref b0), (1, .int x1), (2, .int x2), (3, .int x3)]) hx hb dX0_together_21 hl (by decide) rfl (fun ls hl => ?_)
        refine lv_iload_n hx hb dX0_together_23 rfl (lv_at hl 3 rfl) ?_
        refine lv_iload_n hx hb dX0_together_24 rfl (lv_at hl 2 rfl) ?_
        refine lv_iload hx hb dX0_together_25 (lv_at hl 0 rfl) ?_
        refine lv_iand hx hb dX0_together_27 ?_
        refine lv_ior hx hb dX0_together_28 ?_
        refine lv_istore_n (lv' := [(2, .int (x2 ||| (x1 &&& ((1 : Int32) <<< (r6 &&& 31))))), (4, .int ((1 : Int32) <<< (r6 &&& 31))), (0, .ref b0), (1, .int x1), (3, .int x3)]) hx hb dX0_together_29 rfl hl (by decide) rfl (fun ls hl => ?_)
        refine lv_iload_n hx hb dX0_together_30 rfl (lv_at hl 3 rfl) ?_
        refine lv_iload hx hb dX0_together_31 (lv_at hl 1 rfl) ?_
        refine lv_ior hx hb dX0_together_33 ?_
        refine lv_istore_n (lv' := [(1, .int (x1 ||| ((1 : Int32) <<< (r6 &&& 31)))), (2, .int (x2 ||| (x1 &&& ((1 : Int32) <<< (r6 &&& 31))))), (4, .int ((1 : Int32) <<< (r6 &&& 31))), (0, .ref b0), (3, .int x3)]) hx hb dX0_together_34 rfl hl (by decide) rfl (fun ls hl => ?_)
        refine lv_iinc (v := (x3 + (1 : Int32))) (lv' := [(3, .int (x3 + (1 : Int32))), (1, .int (x1 ||| ((1 : Int32) <<< (r6 &&& 31)))), (2, .int (x2 ||| (x1 &&& ((1 : Int32) <<< (r6 &&& 31))))), (4, .int ((1 : Int32) <<< (r6 &&& 31))), (0, .ref b0)]) hx hb dX0_together_35 hl (k := 4) rfl (by first | rfl | decide) (by decide) rfl (fun ls hl => ?_)
        refine lv_goto (tgt := 6) hx hb dX0_together_38 (by decide) ?_
        exact ih4 (x1 ||| ((1 : Int32) <<< (r6 &&& 31))) (x2 ||| (x1 &&& ((1 : Int32) <<< (r6 &&& 31)))) (x3 + (1 : Int32)) _ _ hP hD hS ls (lv_sub hl [4, 1, 2, 0] rfl) h
  exact lp4 zb_FU (0 : Int32) (0 : Int32) (0 : Int32) _ _ hP hD hS ls (lv_sub hl [3, 2, 1, 0] rfl) h
abbrev rm_X0_isAtEdge : Room := { frames := 1, cells := 0, slots := 0, locals := 23 }
theorem hd_X0_isAtEdge : yX0_isAtEdge.cls = RX0 ∧ yX0_isAtEdge.cls ≠ "java/lang/invoke/MethodHandle" ∧ yX0_isAtEdge.cls ≠ "java/lang/invoke/VarHandle" ∧ (parseMethodDescriptor yX0_isAtEdge.desc).map (fun d => d.parameters.length) = some 1 := by decide +kernel
theorem zk_X0_isAtEdge_0 : Cond.initialized RX1 ∈ wsX0_isAtEdge := by decide +kernel
theorem zk_X0_isAtEdge_1 : Cond.static yX1_nodeThatWay ∈ wsX0_isAtEdge := by decide +kernel
set_option maxHeartbeats 4000000 in
set_option maxRecDepth 100000 in
theorem zc_X0_isAtEdge (l : Launch) (D : va_G) (cI : ClassId)  (v0 : Int32) (r0 : Int32) (h : zf_X0_isAtEdge v0 = some r0) : Cn l D cI yX0_isAtEdge wsX0_isAtEdge rm_X0_isAtEdge [.int v0] ([]) (some (.int r0)) ([]) := by
  refine zb_ofW (cc := cX0_isAtEdge) (maxL := 2) (ret := (some .boolean)) (by decide) rfl (Nat.le_of_ble_eq_true rfl) ?_
  intro p e s m args below meth c A ls hx hb hr hml hts hown hlk hK hP hD hA hl
  have hS : va_S A s.heap s.heap [] := va_S.rf
  have hl : lv_has ls 2 [(0, .int v0)] := hl
  unfold zf_X0_isAtEdge at h
  refine lv_iconst (v := (0 : Int32)) hx hb dX0_isAtEdge_0 (by decide) ?_
  refine lv_istore_n (lv' := [(1, .int (0 : Int32)), (0, .int v0)]) hx hb dX0_isAtEdge_1 rfl hl (by decide) rfl (fun ls hl => ?_)
  have lp2 : ∀ (fu2 : Nat) (x1 : Int32) (H : Heap) (locs : List Loc) (hP : va_P D zb_cl ([]) H) (hD : va_D A ([])) (hS : va_S A s.heap H locs) (ls : Array Slot) (hl : lv_has ls 2 [(0, .int v0), (1, .int x1)]) (h : zl1 (zf_X0_isAtEdge_b2 v0) fu2 x1 = some r0), W p l e rm_X0_isAtEdge s m args below meth c H locs 0 0 (zb_Q below D (some (.int r0)) ([]) A args s) (F0 m 2 ls []) := by
    intro fu2
    induction fu2 with
    | zero => intro x1 H locs hP hD hS ls hl h; exact zb_no h
    | succ fu2 ih2 =>
      intro x1 H locs hP hD hS ls hl h
      replace h : zf_X0_isAtEdge_b2 v0 (zl1 (zf_X0_isAtEdge_b2 v0) fu2) x1 = some r0 := h
      unfold zf_X0_isAtEdge_b2 at h
      refine lv_iload_n hx hb dX0_isAtEdge_2 rfl (lv_at hl 1 rfl) ?_
      refine lv_iconst (v := (4 : Int32)) hx hb dX0_isAtEdge_3 (by decide) ?_
      refine lv_icmp_ge (tgt := 23) hx hb dX0_isAtEdge_4 (by decide) (fun c3 => ?_) (fun c3 => ?_)
      · replace h := it_t c3 h
        refine lv_iconst (v := (0 : Int32)) hx hb dX0_isAtEdge_23 (by decide) ?_
        obtain rfl := re1 h
        exact zb_zret hx hb hr hlk rfl hP hS dX0_isAtEdge_24
      · replace h := it_f c3 h
        refine lv_iload_n hx hb dX0_isAtEdge_7 rfl (lv_at hl 0 rfl) ?_
        refine lv_iload_n hx hb dX0_isAtEdge_8 rfl (lv_at hl 1 rfl) ?_
        obtain ⟨r4, g5, h⟩ := bo1 h
        refine zb_callSN (As := [.int v0, .int x1]) (rest := []) ⟨hx, hb, hml, hown, hts⟩ (zc_X1_nodeThatWay l D cI v0 x1 r4 g5) ⟨va_cnB 2 hts gX0_isAtEdge_X1_nodeThatWay_n83 rfl rfl rfl hK.2.2 (hts _ zk_X0_isAtEdge_0) hd_X1_nodeThatWay.2 ⟨Nat.le_of_ble_eq_true rfl, Nat.le_of_ble_eq_true rfl⟩, hts _ zk_X0_isAtEdge_1, trivial⟩ hK hP hD hS hA (zb_none _) rfl hl.1 rfl (Nat.le_of_ble_eq_true rfl) dX0_isAtEdge_9 ⟨Nat.le_refl _, Nat.le_refl _⟩ (fun H locs hP hD hS => ?_)
        refine lv_if_ge (tgt := 17) hx hb dX0_isAtEdge_12 (by decide) (fun c6 => ?_) (fun c6 => ?_)
        · replace h := it_t c6 h
          refine lv_iinc (v := (x1 + (1 : Int32))) (lv' := [(1, .int (x1 + (1 : Int32))), (0, .int v0)]) hx hb dX0_isAtEdge_17 hl (k := 1) rfl (by first | rfl | decide) (by decide) rfl (fun ls hl => ?_)
          refine lv_goto (tgt := 2) hx hb dX0_isAtEdge_20 (by decide) ?_
          exact ih2 (x1 + (1 : Int32)) _ _ hP hD hS ls (lv_sub hl [1, 0] rfl) h
        · replace h := it_f c6 h
          refine lv_iconst (v := (1 : Int32)) hx hb dX0_isAtEdge_15 (by decide) ?_
          obtain rfl := re1 h
          exact zb_zret hx hb hr hlk rfl hP hS dX0_isAtEdge_16
  exact lp2 zb_FU (0 : Int32) _ _ hP hD hS ls (lv_sub hl [1, 0] rfl) h
abbrev rm_X0_atEdges : Room := { frames := 2, cells := 0, slots := 0, locals := 44 }
theorem hd_X0_atEdges : yX0_atEdges.cls = RX0 ∧ yX0_atEdges.cls ≠ "java/lang/invoke/MethodHandle" ∧ yX0_atEdges.cls ≠ "java/lang/invoke/VarHandle" ∧ (parseMethodDescriptor yX0_atEdges.desc).map (fun d => d.parameters.length) = some 0 := by decide +kernel
theorem zi_X0_atEdges_X0 : ∀ w ∈ wsX00, w ∈ wsX0_atEdges := fun _ h => List.mem_cons_of_mem _ (List.mem_append_right _ h)
theorem zk_X0_atEdges_0 : Cond.fieldLink RX0 42 "GroutingIsFollowed$Bath" "people" "I" ∈ wsX0_atEdges := by decide +kernel
set_option maxHeartbeats 4000000 in
set_option maxRecDepth 100000 in
theorem zc_X0_atEdges (l : Launch) (D : va_G) (cI : ClassId) (b0 b1 b2 b3 b4 b5 b6 : Nat) (B : BT) (r0 : Int32) (h : zf_X0_atEdges B = some r0) : Cn l D cI yX0_atEdges wsX0_atEdges rm_X0_atEdges [.ref b0] (zb_B cI b0 b1 b2 b3 b4 b5 b6 B) (some (.int r0)) (zb_B cI b0 b1 b2 b3 b4 b5 b6 B) := by
  refine zb_ofW (cc := cX0_atEdges) (maxL := 3) (ret := (some .int)) (by decide) rfl (Nat.le_of_ble_eq_true rfl) ?_
  intro p e s m args below meth c A ls hx hb hr hml hts hown hlk hK hP hD hA hl
  have hS : va_S A s.heap s.heap [] := va_S.rf
  have hl : lv_has ls 3 [(0, .ref b0)] := hl
  unfold zf_X0_atEdges at h
  refine lv_iconst (v := (0 : Int32)) hx hb dX0_atEdges_0 (by decide) ?_
  refine lv_istore_n (lv' := [(1, .int (0 : Int32)), (0, .ref b0)]) hx hb dX0_atEdges_1 rfl hl (by decide) rfl (fun ls hl => ?_)
  refine lv_iconst (v := (0 : Int32)) hx hb dX0_atEdges_2 (by decide) ?_
  refine lv_istore_n (lv' := [(2, .int (0 : Int32)), (1, .int (0 : Int32)), (0, .ref b0)]) hx hb dX0_atEdges_3 rfl hl (by decide) rfl (fun ls hl => ?_)
  have lp3 : ∀ (fu3 : Nat) (x1 : Int32) (x2 : Int32) (H : Heap) (locs : List Loc) (hP : va_P D zb_cl (zb_B cI b0 b1 b2 b3 b4 b5 b6 B) H) (hD : va_D A (zb_B cI b0 b1 b2 b3 b4 b5 b6 B)) (hS : va_S A s.heap H locs) (ls : Array Slot) (hl : lv_has ls 3 [(0, .ref b0), (1, .int x1), (2, .int x2)]) (h : zl2 (zf_X0_atEdges_b4 B) fu3 x1 x2 = some r0), W p l e rm_X0_atEdges s m args below meth c H locs 0 0 (zb_Q below D (some (.int r0)) (zb_B cI b0 b1 b2 b3 b4 b5 b6 B) A args s) (F0 m 4 ls []) := by
    intro fu3
    induction fu3 with
    | zero => intro x1 x2 H locs hP hD hS ls hl h; exact zb_no h
    | succ fu3 ih3 =>
      intro x1 x2 H locs hP hD hS ls hl h
      replace h : zf_X0_atEdges_b4 B (zl2 (zf_X0_atEdges_b4 B) fu3) x1 x2 = some r0 := h
      unfold zf_X0_atEdges_b4 at h
      refine lv_iload_n hx hb dX0_atEdges_4 rfl (lv_at hl 2 rfl) ?_
      refine lv_aload_n hx hb dX0_atEdges_5 rfl (lv_at hl 0 rfl) ?_
      refine va_get (D := D) (ci := 0) (v := .int (bt_people B)) (C := RX0) (T := TX0) (N := 8) hx hb hts zi_X0_atEdges_X0 hown hK.1 hP 0 rfl rfl 6 (by decide) (hts _ zk_X0_atEdges_0) (fun _ h9 => h9) rfl dX0_atEdges_6 ?_
      refine lv_icmp_ge (tgt := 32) hx hb dX0_atEdges_9 (by decide) (fun c4 => ?_) (fun c4 => ?_)
      · replace h := it_t c4 h
        refine lv_iload_n hx hb dX0_atEdges_32 rfl (lv_at hl 1 rfl) ?_
        obtain rfl := re1 h
        exact zb_iret hx hb hr hlk hP hS dX0_atEdges_33
      · replace h := it_f c4 h
        refine lv_aload_n hx hb dX0_atEdges_12 rfl (lv_at hl 0 rfl) ?_
        refine lv_iload_n hx hb dX0_atEdges_13 rfl (lv_at hl 2 rfl) ?_
        obtain ⟨r5, g6, h⟩ := bo1 h
        refine zb_callV (As := [.int x2]) (rest := []) ⟨hx, hb, hml, hown, hts⟩ (zc_X0_placeOf l D cI b0 b1 b2 b3 b4 b5 b6 B x2 r5 g6) (cwV 1 hts gX0_atEdges_X0_placeOf rfl rfl rfl hd_X0_placeOf ⟨Nat.le_of_ble_eq_true rfl, Nat.le_of_ble_eq_true rfl⟩) hK hP hD hS hA (zb_sB) (q0 := 0) rfl rfl rfl hl.1 rfl (Nat.le_of_ble_eq_true rfl) dX0_atEdges_14 ⟨Nat.le_refl _, Nat.le_refl _⟩ (fun H locs hP hD hS => ?_)
        obtain ⟨r7, g8, h⟩ := bo1 h
        refine zb_callS (As := [.int r5]) (rest := []) ⟨hx, hb, hml, hown, hts⟩ (zc_X0_isAtEdge l D cI r5 r7 g8) (va_cwS 1 hts gX0_atEdges_X0_isAtEdge rfl rfl rfl hd_X0_isAtEdge.2 ⟨Nat.le_of_ble_eq_true rfl, Nat.le_of_ble_eq_true rfl⟩) hK hP hD hS hA (zb_none _) rfl hl.1 rfl (Nat.le_of_ble_eq_true rfl) dX0_atEdges_17 ⟨Nat.le_refl _, Nat.le_refl _⟩ (fun H locs hP hD hS => ?_)
        refine lv_if_eq (tgt := 26) hx hb dX0_atEdges_20 (by decide) (fun c9 => ?_) (fun c9 => ?_)
        · replace h := it_t c9 h
          refine lv_iinc (v := (x2 + (1 : Int32))) (lv' := [(2, .int (x2 + (1 : Int32))), (0, .ref b0), (1, .int x1)]) hx hb dX0_atEdges_26 hl (k := 2) rfl (by first | rfl | decide) (by decide) rfl (fun ls hl => ?_)
          refine lv_goto (tgt := 4) hx hb dX0_atEdges_29 (by decide) ?_
          exact ih3 x1 (x2 + (1 : Int32)) _ _ hP hD hS ls (lv_sub hl [1, 2, 0] rfl) h
        · replace h := it_f c9 h
          refine lv_iinc (v := (x1 + (1 : Int32))) (lv' := [(1, .int (x1 + (1 : Int32))), (0, .ref b0), (2, .int x2)]) hx hb dX0_atEdges_23 hl (k := 1) rfl (by first | rfl | decide) (by decide) rfl (fun ls hl => ?_)
          refine lv_iinc (v := (x2 + (1 : Int32))) (lv' := [(2, .int (x2 + (1 : Int32))), (1, .int (x1 + (1 : Int32))), (0, .ref b0)]) hx hb dX0_atEdges_26 hl (k := 2) rfl (by first | rfl | decide) (by decide) rfl (fun ls hl => ?_)
          refine lv_goto (tgt := 4) hx hb dX0_atEdges_29 (by decide) ?_
          exact ih3 (x1 + (1 : Int32)) (x2 + (1 : Int32)) _ _ hP hD hS ls (lv_sub hl [2, 1, 0] rfl) h
  exact lp3 zb_FU (0 : Int32) (0 : Int32) _ _ hP hD hS ls (lv_sub hl [2, 1, 0] rfl) h
abbrev rm_X0_stuckPeople : Room := { frames := 2, cells := 0, slots := 0, locals := 42 }
theorem hd_X0_stuckPeople : yX0_stuckPeople.cls = RX0 ∧ yX0_stuckPeople.cls ≠ "java/lang/invoke/MethodHandle" ∧ yX0_stuckPeople.cls ≠ "java/lang/invoke/VarHandle" ∧ (parseMethodDescriptor yX0_stuckPeople.desc).map (fun d => d.parameters.length) = some 0 := by decide +kernel
theorem zi_X0_stuckPeople_X0 : ∀ w ∈ wsX00, w ∈ wsX0_stuckPeople := fun _ h => List.mem_cons_of_mem _ (List.mem_append_right _ h)
theorem zk_X0_stuckPeople_0 : Cond.fieldLink RX0 42 "GroutingIsFollowed$Bath" "people" "I" ∈ wsX0_stuckPeople := by decide +kernel
set_option maxHeartbeats 4000000 in
set_option maxRecDepth 100000 in
theorem zc_X0_stuckPeople (l : Launch) (D : va_G) (cI : ClassId) (b0 b1 b2 b3 b4 b5 b6 : Nat) (B : BT) (r0 : Int32) (h : zf_X0_stuckPeople B = some r0) : Cn l D cI yX0_stuckPeople wsX0_stuckPeople rm_X0_stuckPeople [.ref b0] (zb_B cI b0 b1 b2 b3 b4 b5 b6 B) (some (.int r0)) (zb_B cI b0 b1 b2 b3 b4 b5 b6 B) := by
  refine zb_ofW (cc := cX0_stuckPeople) (maxL := 3) (ret := (some .int)) (by decide) rfl (Nat.le_of_ble_eq_true rfl) ?_
  intro p e s m args below meth c A ls hx hb hr hml hts hown hlk hK hP hD hA hl
  have hS : va_S A s.heap s.heap [] := va_S.rf
  have hl : lv_has ls 3 [(0, .ref b0)] := hl
  unfold zf_X0_stuckPeople at h
  refine lv_iconst (v := (0 : Int32)) hx hb dX0_stuckPeople_0 (by decide) ?_
  refine lv_istore_n (lv' := [(1, .int (0 : Int32)), (0, .ref b0)]) hx hb dX0_stuckPeople_1 rfl hl (by decide) rfl (fun ls hl => ?_)
  refine lv_iconst (v := (0 : Int32)) hx hb dX0_stuckPeople_2 (by decide) ?_
  refine lv_istore_n (lv' := [(2, .int (0 : Int32)), (1, .int (0 : Int32)), (0, .ref b0)]) hx hb dX0_stuckPeople_3 rfl hl (by decide) rfl (fun ls hl => ?_)
  have lp3 : ∀ (fu3 : Nat) (x1 : Int32) (x2 : Int32) (H : Heap) (locs : List Loc) (hP : va_P D zb_cl (zb_B cI b0 b1 b2 b3 b4 b5 b6 B) H) (hD : va_D A (zb_B cI b0 b1 b2 b3 b4 b5 b6 B)) (hS : va_S A s.heap H locs) (ls : Array Slot) (hl : lv_has ls 3 [(0, .ref b0), (1, .int x1), (2, .int x2)]) (h : zl2 (zf_X0_stuckPeople_b4 B) fu3 x1 x2 = some r0), W p l e rm_X0_stuckPeople s m args below meth c H locs 0 0 (zb_Q below D (some (.int r0)) (zb_B cI b0 b1 b2 b3 b4 b5 b6 B) A args s) (F0 m 4 ls []) := by
    intro fu3
    induction fu3 with
    | zero => intro x1 x2 H locs hP hD hS ls hl h; exact zb_no h
    | succ fu3 ih3 =>
      intro x1 x2 H locs hP hD hS ls hl h
      replace h : zf_X0_stuckPeople_b4 B (zl2 (zf_X0_stuckPeople_b4 B) fu3) x1 x2 = some r0 := h
      unfold zf_X0_stuckPeople_b4 at h
      refine lv_iload_n hx hb dX0_stuckPeople_4 rfl (lv_at hl 2 rfl) ?_
      refine lv_aload_n hx hb dX0_stuckPeople_5 rfl (lv_at hl 0 rfl) ?_
      refine va_get (D := D) (ci := 0) (v := .int (bt_people B)) (C := RX0) (T := TX0) (N := 8) hx hb hts zi_X0_stuckPeople_X0 hown hK.1 hP 0 rfl rfl 6 (by decide) (hts _ zk_X0_stuckPeople_0) (fun _ h9 => h9) rfl dX0_stuckPeople_6 ?_
      refine lv_icmp_ge (tgt := 33) hx hb dX0_stuckPeople_9 (by decide) (fun c4 => ?_) (fun c4 => ?_)
      · replace h := it_t c4 h
        refine lv_iload_n hx hb dX0_stuckPeople_33 rfl (lv_at hl 1 rfl) ?_
        obtain rfl := re1 h
        exact zb_iret hx hb hr hlk hP hS dX0_stuckPeople_34
      · replace h := it_f c4 h
        refine lv_aload_n hx hb dX0_stuckPeople_12 rfl (lv_at hl 0 rfl) ?_
        refine lv_aload_n hx hb dX0_stuckPeople_13 rfl (lv_at hl 0 rfl) ?_
        refine lv_iload_n hx hb dX0_stuckPeople_14 rfl (lv_at hl 2 rfl) ?_
        obtain ⟨r5, g6, h⟩ := bo1 h
        refine zb_callV (As := [.int x2]) (rest := [.ref b0]) ⟨hx, hb, hml, hown, hts⟩ (zc_X0_placeOf l D cI b0 b1 b2 b3 b4 b5 b6 B x2 r5 g6) (cwV 1 hts gX0_stuckPeople_X0_placeOf rfl rfl rfl hd_X0_placeOf ⟨Nat.le_of_ble_eq_true rfl, Nat.le_of_ble_eq_true rfl⟩) hK hP hD hS hA (zb_sB) (q0 := 0) rfl rfl rfl hl.1 rfl (Nat.le_of_ble_eq_true rfl) dX0_stuckPeople_15 ⟨Nat.le_refl _, Nat.le_refl _⟩ (fun H locs hP hD hS => ?_)
        obtain ⟨r7, g8, h⟩ := bo1 h
        refine zb_callV (As := [.int r5]) (rest := []) ⟨hx, hb, hml, hown, hts⟩ (zc_X0_wetOf l D cI b0 b1 b2 b3 b4 b5 b6 B r5 r7 g8) (cwV 1 hts gX0_stuckPeople_X0_wetOf rfl rfl rfl hd_X0_wetOf ⟨Nat.le_of_ble_eq_true rfl, Nat.le_of_ble_eq_true rfl⟩) hK hP hD hS hA (zb_sB) (q0 := 0) rfl rfl rfl hl.1 rfl (Nat.le_of_ble_eq_true rfl) dX0_stuckPeople_18 ⟨Nat.le_refl _, Nat.le_refl _⟩ (fun H locs hP hD hS => ?_)
        refine lv_if_ne (tgt := 27) hx hb dX0_stuckPeople_21 (by decide) (fun c9 => ?_) (fun c9 => ?_)
        · replace h := it_f c9 h
          refine lv_iinc (v := (x2 + (1 : Int32))) (lv' := [(2, .int (x2 + (1 : Int32))), (0, .ref b0), (1, .int x1)]) hx hb dX0_stuckPeople_27 hl (k := 2) rfl (by first | rfl | decide) (by decide) rfl (fun ls hl => ?_)
          refine lv_goto (tgt := 4) hx hb dX0_stuckPeople_30 (by decide) ?_
          exact ih3 x1 (x2 + (1 : Int32)) _ _ hP hD hS ls (lv_sub hl [1, 2, 0] rfl) h
        · replace h := it_t c9 h
          refine lv_iinc (v := (x1 + (1 : Int32))) (lv' := [(1, .int (x1 + (1 : Int32))), (0, .ref b0), (2, .int x2)]) hx hb dX0_stuckPeople_24 hl (k := 1) rfl (by first | rfl | decide) (by decide) rfl (fun ls hl => ?_)
          refine lv_iinc (v := (x2 + (1 : Int32))) (lv' := [(2, .int (x2 + (1 : Int32))), (1, .int (x1 + (1 : Int32))), (0, .ref b0)]) hx hb dX0_stuckPeople_27 hl (k := 2) rfl (by first | rfl | decide) (by decide) rfl (fun ls hl => ?_)
          refine lv_goto (tgt := 4) hx hb dX0_stuckPeople_30 (by decide) ?_
          exact ih3 (x1 + (1 : Int32)) (x2 + (1 : Int32)) _ _ hP hD hS ls (lv_sub hl [2, 1, 0] rfl) h
  exact lp3 zb_FU (0 : Int32) (0 : Int32) _ _ hP hD hS ls (lv_sub hl [2, 1, 0] rfl) h
abbrev rm_X0_distance : Room := { frames := 1, cells := 0, slots := 0, locals := 21 }
theorem hd_X0_distance : yX0_distance.cls = RX0 ∧ yX0_distance.cls ≠ "java/lang/invoke/MethodHandle" ∧ yX0_distance.cls ≠ "java/lang/invoke/VarHandle" ∧ (parseMethodDescriptor yX0_distance.desc).map (fun d => d.parameters.length) = some 2 := by decide +kernel
theorem zk_X0_distance_0 : Cond.methodLink RX0 110 Lib.Math.abs.name ∈ wsX0_distance := by decide +kernel
theorem zk_X0_distance_1 : Cond.static Lib.Math.abs.name ∈ wsX0_distance := by decide +kernel
theorem zk_X0_distance_2 : Cond.initialized "java/lang/Math" ∈ wsX0_distance := by decide +kernel
theorem zk_X0_distance_3 : Cond.code Lib.Math.abs.name Lib.Math.abs.code 1 (some .int) ∈ wsX0_distance := by decide +kernel
set_option maxHeartbeats 4000000 in
set_option maxRecDepth 100000 in
theorem zc_X0_distance (l : Launch) (D : va_G) (cI : ClassId)  (v0 : Int32) (v1 : Int32) (r0 : Int32) (h : zf_X0_distance v0 v1 = some r0) : Cn l D cI yX0_distance wsX0_distance rm_X0_distance [.int v0, .int v1] ([]) (some (.int r0)) ([]) := by
  refine zb_ofW (cc := cX0_distance) (maxL := 4) (ret := (some .int)) (by decide) rfl (Nat.le_of_ble_eq_true rfl) ?_
  intro p e s m args below meth c A ls hx hb hr hml hts hown hlk hK hP hD hA hl
  have hS : va_S A s.heap s.heap [] := va_S.rf
  have hl : lv_has ls 4 [(0, .int v0), (1, .int v1)] := hl
  unfold zf_X0_distance at h
  refine lv_iload_n hx hb dX0_distance_0 rfl (lv_at hl 0 rfl) ?_
  refine lv_bipush (v := (6 : Int32)) hx hb dX0_distance_1 (by decide) ?_
  refine lv_idiv hx hb dX0_distance_3 (by decide) ?_
  refine lv_iload_n hx hb dX0_distance_4 rfl (lv_at hl 1 rfl) ?_
  refine lv_bipush (v := (6 : Int32)) hx hb dX0_distance_5 (by decide) ?_
  refine lv_idiv hx hb dX0_distance_7 (by decide) ?_
  refine lv_isub hx hb dX0_distance_8 ?_
  refine va_mabs hx hb (hml.trans hl.1.symm) hown (hts _ zk_X0_distance_0) (hts _ zk_X0_distance_1) (hts _ zk_X0_distance_2) (hts _ zk_X0_distance_3) (Nat.le_of_ble_eq_true rfl) (Nat.le_of_ble_eq_true rfl) (Nat.zero_le _) (Nat.zero_le _) dX0_distance_9 ?_
  refine lv_istore_n (lv' := [(2, .int (if 0 ≤ ((v0 / (6 : Int32)) - (v1 / (6 : Int32))) then ((v0 / (6 : Int32)) - (v1 / (6 : Int32))) else 0 - ((v0 / (6 : Int32)) - (v1 / (6 : Int32))))), (0, .int v0), (1, .int v1)]) hx hb dX0_distance_12 rfl hl (by decide) rfl (fun ls hl => ?_)
  refine lv_iload_n hx hb dX0_distance_13 rfl (lv_at hl 1 rfl) ?_
  refine lv_bipush (v := (6 : Int32)) hx hb dX0_distance_14 (by decide) ?_
  refine lv_irem hx hb dX0_distance_16 (by decide) ?_
  refine lv_iload_n hx hb dX0_distance_17 rfl (lv_at hl 2 rfl) ?_
  refine lv_bipush (v := (6 : Int32)) hx hb dX0_distance_18 (by decide) ?_
  refine lv_irem hx hb dX0_distance_20 (by decide) ?_
  refine lv_isub hx hb dX0_distance_21 ?_
  refine va_mabs hx hb (hml.trans hl.1.symm) hown (hts _ zk_X0_distance_0) (hts _ zk_X0_distance_1) (hts _ zk_X0_distance_2) (hts _ zk_X0_distance_3) (Nat.le_of_ble_eq_true rfl) (Nat.le_of_ble_eq_true rfl) (Nat.zero_le _) (Nat.zero_le _) dX0_distance_22 ?_
  refine lv_istore_n (lv' := [(3, .int (if 0 ≤ ((jr v0 (6 : Int32)) - (jr v1 (6 : Int32))) then ((jr v0 (6 : Int32)) - (jr v1 (6 : Int32))) else 0 - ((jr v0 (6 : Int32)) - (jr v1 (6 : Int32))))), (2, .int (if 0 ≤ ((v0 / (6 : Int32)) - (v1 / (6 : Int32))) then ((v0 / (6 : Int32)) - (v1 / (6 : Int32))) else 0 - ((v0 / (6 : Int32)) - (v1 / (6 : Int32))))), (0, .int v0), (1, .int v1)]) hx hb dX0_distance_25 rfl hl (by decide) rfl (fun ls hl => ?_)
  refine lv_iload_n hx hb dX0_distance_26 rfl (lv_at hl 1 rfl) ?_
  refine lv_iload_n hx hb dX0_distance_27 rfl (lv_at hl 0 rfl) ?_
  refine lv_iadd hx hb dX0_distance_28 ?_
  obtain rfl := re1 h
  exact zb_iret hx hb hr hlk hP hS dX0_distance_29
abbrev rm_X0_nearest : Room := { frames := 2, cells := 0, slots := 0, locals := 44 }
theorem hd_X0_nearest : yX0_nearest.cls = RX0 ∧ yX0_nearest.cls ≠ "java/lang/invoke/MethodHandle" ∧ yX0_nearest.cls ≠ "java/lang/invoke/VarHandle" ∧ (parseMethodDescriptor yX0_nearest.desc).map (fun d => d.parameters.length) = some 1 := by decide +kernel
theorem zi_X0_nearest_X0 : ∀ w ∈ wsX00, w ∈ wsX0_nearest := fun _ h => List.mem_cons_of_mem _ (List.mem_append_right _ h)
theorem zk_X0_nearest_0 : Cond.fieldLink RX0 42 "GroutingIsFollowed$Bath" "people" "I" ∈ wsX0_nearest := by decide +kernel
set_option maxHeartbeats 4000000 in
set_option maxRecDepth 100000 in
theorem zc_X0_nearest (l : Launch) (D : va_G) (cI : ClassId) (b0 b1 b2 b3 b4 b5 b6 : Nat) (B : BT) (v1 : Int32) (r0 : Int32) (h : zf_X0_nearest B v1 = some r0) : Cn l D cI yX0_nearest wsX0_nearest rm_X0_nearest [.ref b0, .int v1] (zb_B cI b0 b1 b2 b3 b4 b5 b6 B) (some (.int r0)) (zb_B cI b0 b1 b2 b3 b4 b5 b6 B) := by
  refine zb_ofW (cc := cX0_nearest) (maxL := 6) (ret := (some .int)) (by decide) rfl (Nat.le_of_ble_eq_true rfl) ?_
  intro p e s m args below meth c A ls hx hb hr hml hts hown hlk hK hP hD hA hl
  have hS : va_S A s.heap s.heap [] := va_S.rf
  have hl : lv_has ls 6 [(0, .ref b0), (1, .int v1)] := hl
  unfold zf_X0_nearest at h
  refine lv_bipush (v := ((-9) : Int32)) hx hb dX0_nearest_0 (by decide) ?_
  refine lv_istore_n (lv' := [(2, .int ((-9) : Int32)), (0, .ref b0), (1, .int v1)]) hx hb dX0_nearest_2 rfl hl (by decide) rfl (fun ls hl => ?_)
  refine lv_bipush (v := (30 : Int32)) hx hb dX0_nearest_3 (by decide) ?_
  refine lv_istore_n (lv' := [(3, .int (30 : Int32)), (2, .int ((-9) : Int32)), (0, .ref b0), (1, .int v1)]) hx hb dX0_nearest_5 rfl hl (by decide) rfl (fun ls hl => ?_)
  refine lv_iconst (v := (0 : Int32)) hx hb dX0_nearest_6 (by decide) ?_
  refine lv_istore (lv' := [(4, .int (0 : Int32)), (3, .int (30 : Int32)), (2, .int ((-9) : Int32)), (0, .ref b0), (1, .int v1)]) hx hb dX0_nearest_7 hl (by decide) rfl (fun ls hl => ?_)
  have lp4 : ∀ (fu4 : Nat) (x1 : Int32) (x2 : Int32) (x3 : Int32) (H : Heap) (locs : List Loc) (hP : va_P D zb_cl (zb_B cI b0 b1 b2 b3 b4 b5 b6 B) H) (hD : va_D A (zb_B cI b0 b1 b2 b3 b4 b5 b6 B)) (hS : va_S A s.heap H locs) (ls : Array Slot) (hl : lv_has ls 6 [(0, .ref b0), (1, .int v1), (2, .int x1), (3, .int x2), (4, .int x3)]) (h : zl3 (zf_X0_nearest_b9 v1 B) fu4 x1 x2 x3 = some r0), W p l e rm_X0_nearest s m args below meth c H locs 0 0 (zb_Q below D (some (.int r0)) (zb_B cI b0 b1 b2 b3 b4 b5 b6 B) A args s) (F0 m 9 ls []) := by
    intro fu4
    induction fu4 with
    | zero => intro x1 x2 x3 H locs hP hD hS ls hl h; exact zb_no h
    | succ fu4 ih4 =>
      intro x1 x2 x3 H locs hP hD hS ls hl h
      replace h : zf_X0_nearest_b9 v1 B (zl3 (zf_X0_nearest_b9 v1 B) fu4) x1 x2 x3 = some r0 := h
      unfold zf_X0_nearest_b9 at h
      refine lv_iload hx hb dX0_nearest_9 (lv_at hl 4 rfl) ?_
      refine lv_aload_n hx hb dX0_nearest_11 rfl (lv_at hl 0 rfl) ?_
      refine va_get (D := D) (ci := 0) (v := .int (bt_people B)) (C := RX0) (T := TX0) (N := 8) hx hb hts zi_X0_nearest_X0 hown hK.1 hP 0 rfl rfl 6 (by decide) (hts _ zk_X0_nearest_0) (fun _ h9 => h9) rfl dX0_nearest_12 ?_
      refine lv_icmp_ge (tgt := 48) hx hb dX0_nearest_15 (by decide) (fun c5 => ?_) (fun c5 => ?_)
      · replace h := it_t c5 h
        refine lv_iload_n hx hb dX0_nearest_48 rfl (lv_at hl 2 rfl) ?_
        obtain rfl := re1 h
        exact zb_iret hx hb hr hlk hP hS dX0_nearest_49
      · replace h := it_f c5 h
        refine lv_aload_n hx hb dX0_nearest_18 rfl (lv_at hl 0 rfl) ?_
        refine lv_iload hx hb dX0_nearest_19 (lv_at hl 4 rfl) ?_
        obtain ⟨r6, g7, h⟩ := bo1 h
        refine zb_callV (As := [.int x3]) (rest := []) ⟨hx, hb, hml, hown, hts⟩ (zc_X0_placeOf l D cI b0 b1 b2 b3 b4 b5 b6 B x3 r6 g7) (cwV 1 hts gX0_nearest_X0_placeOf rfl rfl rfl hd_X0_placeOf ⟨Nat.le_of_ble_eq_true rfl, Nat.le_of_ble_eq_true rfl⟩) hK hP hD hS hA (zb_sB) (q0 := 0) rfl rfl rfl hl.1 rfl (Nat.le_of_ble_eq_true rfl) dX0_nearest_21 ⟨Nat.le_refl _, Nat.le_refl _⟩ (fun H locs hP hD hS => ?_)
        refine lv_iload_n hx hb dX0_nearest_24 rfl (lv_at hl 1 rfl) ?_
        obtain ⟨r8, g9, h⟩ := bo1 h
        refine zb_callS (As := [.int r6, .int v1]) (rest := []) ⟨hx, hb, hml, hown, hts⟩ (zc_X0_distance l D cI r6 v1 r8 g9) (va_cwS 2 hts gX0_nearest_X0_distance rfl rfl rfl hd_X0_distance.2 ⟨Nat.le_of_ble_eq_true rfl, Nat.le_of_ble_eq_true rfl⟩) hK hP hD hS hA (zb_none _) rfl hl.1 rfl (Nat.le_of_ble_eq_true rfl) dX0_nearest_25 ⟨Nat.le_refl _, Nat.le_refl _⟩ (fun H locs hP hD hS => ?_)
        refine lv_istore (lv' := [(5, .int r8), (0, .ref b0), (1, .int v1), (2, .int x1), (3, .int x2), (4, .int x3)]) hx hb dX0_nearest_28 hl (by decide) rfl (fun ls hl => ?_)
        refine lv_iload hx hb dX0_nearest_30 (lv_at hl 0 rfl) ?_
        refine lv_iload_n hx hb dX0_nearest_32 rfl (lv_at hl 4 rfl) ?_
        refine lv_icmp_ge (tgt := 42) hx hb dX0_nearest_33 (by decide) (fun c10 => ?_) (fun c10 => ?_)
        · replace h := it_t c10 h
          refine lv_iinc (v := (x3 + (1 : Int32))) (lv' := [(4, .int (x3 + (1 : Int32))), (5, .int r8), (0, .ref b0), (1, .int v1), (2, .int x1), (3, .int x2)]) hx hb dX0_nearest_42 hl (k := 5) rfl (by first | rfl | decide) (by decide) rfl (fun ls hl => ?_)
          refine lv_goto (tgt := 9) hx hb dX0_nearest_45 (by decide) ?_
          exact ih4 x1 x2 (x3 + (1 : Int32)) _ _ hP hD hS ls (lv_sub hl [2, 3, 4, 5, 0] rfl) h
        · replace h := it_f c10 h
          refine lv_iload hx hb dX0_nearest_36 (lv_at hl 5 rfl) ?_
          refine lv_istore_n (lv' := [(2, .int x3), (5, .int r8), (0, .ref b0), (1, .int v1), (3, .int x2), (4, .int x3)]) hx hb dX0_nearest_38 rfl hl (by decide) rfl (fun ls hl => ?_)
          refine lv_iload hx hb dX0_nearest_39 (lv_at hl 1 rfl) ?_
          refine lv_istore_n (lv' := [(3, .int r8), (2, .int x3), (5, .int r8), (0, .ref b0), (1, .int v1), (4, .int x3)]) hx hb dX0_nearest_41 rfl hl (by decide) rfl (fun ls hl => ?_)
          refine lv_iinc (v := (x3 + (1 : Int32))) (lv' := [(4, .int (x3 + (1 : Int32))), (3, .int r8), (2, .int x3), (5, .int r8), (0, .ref b0), (1, .int v1)]) hx hb dX0_nearest_42 hl (k := 5) rfl (by first | rfl | decide) (by decide) rfl (fun ls hl => ?_)
          refine lv_goto (tgt := 9) hx hb dX0_nearest_45 (by decide) ?_
          exact ih4 x3 r8 (x3 + (1 : Int32)) _ _ hP hD hS ls (lv_sub hl [4, 5, 2, 1, 0] rfl) h
  exact lp4 zb_FU ((-9) : Int32) (30 : Int32) (0 : Int32) _ _ hP hD hS ls (lv_sub hl [3, 4, 2, 1, 0] rfl) h
