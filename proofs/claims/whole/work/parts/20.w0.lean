abbrev rm_X1_isNode : Room := { frames := 0, cells := 0, slots := 0, locals := 0 }
theorem hd_X1_isNode : yX1_isNode.cls = RX1 ∧ yX1_isNode.cls ≠ "java/lang/invoke/MethodHandle" ∧ yX1_isNode.cls ≠ "java/lang/invoke/VarHandle" ∧ (parseMethodDescriptor yX1_isNode.desc).map (fun d => d.parameters.length) = some 1 := by decide +kernel
set_option maxHeartbeats 4000000 in
set_option maxRecDepth 100000 in
theorem zc_X1_isNode (l : Launch) (D : va_G) (cI : ClassId)  (v0 : Int32) (r0 : Int32) (h : zf_X1_isNode v0 = some r0) : Cn l D cI yX1_isNode wsX1_isNode rm_X1_isNode [.int v0] ([]) (some (.int r0)) ([]) := by
  refine zb_ofW (cc := cX1_isNode) (maxL := 1) (ret := (some .boolean)) (by decide) rfl (Nat.le_of_ble_eq_true rfl) ?_
  intro p e s m args below meth c A ls hx hb hr hml hts hown hlk hK hP hD hA hl
  have hS : va_S A s.heap s.heap [] := va_S.rf
  have hl : lv_has ls 1 [(0, .int v0)] := hl
  unfold zf_X1_isNode at h
  refine lv_iload_n hx hb dX1_isNode_0 rfl (lv_at hl 0 rfl) ?_
  refine lv_if_lt (tgt := 14) hx hb dX1_isNode_1 (by decide) (fun c1 => ?_) (fun c1 => ?_)
  · replace h := it_t c1 h
    refine lv_iconst (v := (0 : Int32)) hx hb dX1_isNode_14 (by decide) ?_
    obtain rfl := re1 h
    exact zb_zret hx hb hr hlk rfl hP hS dX1_isNode_15
  · replace h := it_f c1 h
    refine lv_iload_n hx hb dX1_isNode_4 rfl (lv_at hl 0 rfl) ?_
    refine lv_bipush (v := (30 : Int32)) hx hb dX1_isNode_5 (by decide) ?_
    refine lv_icmp_ge (tgt := 14) hx hb dX1_isNode_7 (by decide) (fun c2 => ?_) (fun c2 => ?_)
    · replace h := it_t c2 h
      refine lv_iconst (v := (0 : Int32)) hx hb dX1_isNode_14 (by decide) ?_
      obtain rfl := re1 h
      exact zb_zret hx hb hr hlk rfl hP hS dX1_isNode_15
    · replace h := it_f c2 h
      refine lv_iconst (v := (1 : Int32)) hx hb dX1_isNode_10 (by decide) ?_
      refine lv_goto (tgt := 15) hx hb dX1_isNode_11 (by decide) ?_
      obtain rfl := re1 h
      exact zb_zret hx hb hr hlk rfl hP hS dX1_isNode_15
abbrev rm_X1_nodeThatWay : Room := { frames := 0, cells := 0, slots := 0, locals := 0 }
theorem hd_X1_nodeThatWay : yX1_nodeThatWay.cls = RX1 ∧ yX1_nodeThatWay.cls ≠ "java/lang/invoke/MethodHandle" ∧ yX1_nodeThatWay.cls ≠ "java/lang/invoke/VarHandle" ∧ (parseMethodDescriptor yX1_nodeThatWay.desc).map (fun d => d.parameters.length) = some 2 := by decide +kernel
set_option maxHeartbeats 4000000 in
set_option maxRecDepth 100000 in
theorem zc_X1_nodeThatWay (l : Launch) (D : va_G) (cI : ClassId)  (v0 : Int32) (v1 : Int32) (r0 : Int32) (h : zf_X1_nodeThatWay v0 v1 = some r0) : Cn l D cI yX1_nodeThatWay wsX1_nodeThatWay rm_X1_nodeThatWay [.int v0, .int v1] ([]) (some (.int r0)) ([]) := by
  refine zb_ofW (cc := cX1_nodeThatWay) (maxL := 4) (ret := (some .int)) (by decide) rfl (Nat.le_of_ble_eq_true rfl) ?_
  intro p e s m args below meth c A ls hx hb hr hml hts hown hlk hK hP hD hA hl
  have hS : va_S A s.heap s.heap [] := va_S.rf
  have hl : lv_has ls 4 [(0, .int v0), (1, .int v1)] := hl
  unfold zf_X1_nodeThatWay at h
  refine lv_iload_n hx hb dX1_nodeThatWay_0 rfl (lv_at hl 0 rfl) ?_
  refine lv_bipush (v := (6 : Int32)) hx hb dX1_nodeThatWay_1 (by decide) ?_
  refine lv_idiv hx hb dX1_nodeThatWay_3 (by decide) ?_
  refine lv_istore_n (lv' := [(2, .int (v0 / (6 : Int32))), (0, .int v0), (1, .int v1)]) hx hb dX1_nodeThatWay_4 rfl hl (by decide) rfl (fun ls hl => ?_)
  refine lv_iload_n hx hb dX1_nodeThatWay_5 rfl (lv_at hl 1 rfl) ?_
  refine lv_bipush (v := (6 : Int32)) hx hb dX1_nodeThatWay_6 (by decide) ?_
  refine lv_irem hx hb dX1_nodeThatWay_8 (by decide) ?_
  refine lv_istore_n (lv' := [(3, .int (jr v0 (6 : Int32))), (2, .int (v0 / (6 : Int32))), (0, .int v0), (1, .int v1)]) hx hb dX1_nodeThatWay_9 rfl hl (by decide) rfl (fun ls hl => ?_)
  refine lv_iload_n hx hb dX1_nodeThatWay_10 rfl (lv_at hl 3 rfl) ?_
  by_cases c1 : v1 = (0 : Int32)
  · replace h := it_t c1 h
    have e9 : v1.toInt = 0 := by rw [c1]; rfl
    refine lv_tableIn (tgt := 36) hx hb dX1_nodeThatWay_11 (by rw [e9]; decide) (by rw [e9]; decide) (by rw [e9]; rfl) (by decide) ?_
    refine lv_iload_n hx hb dX1_nodeThatWay_36 rfl (lv_at hl 1 rfl) ?_
    refine lv_if_le (tgt := 47) hx hb dX1_nodeThatWay_37 (by decide) (fun c2 => ?_) (fun c2 => ?_)
    · replace h := it_t c2 h
      refine lv_iconst (v := ((-1) : Int32)) hx hb dX1_nodeThatWay_47 (by decide) ?_
      obtain rfl := re1 h
      exact zb_iret hx hb hr hlk hP hS dX1_nodeThatWay_48
    · replace h := it_f c2 h
      refine lv_iload_n hx hb dX1_nodeThatWay_40 rfl (lv_at hl 2 rfl) ?_
      refine lv_bipush (v := (6 : Int32)) hx hb dX1_nodeThatWay_41 (by decide) ?_
      refine lv_isub hx hb dX1_nodeThatWay_43 ?_
      refine lv_goto (tgt := 48) hx hb dX1_nodeThatWay_44 (by decide) ?_
      obtain rfl := re1 h
      exact zb_iret hx hb hr hlk hP hS dX1_nodeThatWay_48
  replace h := it_f c1 h
  by_cases c3 : v1 = (1 : Int32)
  · replace h := it_t c3 h
    have e9 : v1.toInt = 1 := by rw [c3]; rfl
    refine lv_tableIn (tgt := 49) hx hb dX1_nodeThatWay_11 (by rw [e9]; decide) (by rw [e9]; decide) (by rw [e9]; rfl) (by decide) ?_
    refine lv_iload_n hx hb dX1_nodeThatWay_49 rfl (lv_at hl 0 rfl) ?_
    refine lv_iconst (v := (5 : Int32)) hx hb dX1_nodeThatWay_50 (by decide) ?_
    refine lv_icmp_ge (tgt := 60) hx hb dX1_nodeThatWay_51 (by decide) (fun c4 => ?_) (fun c4 => ?_)
    · replace h := it_t c4 h
      refine lv_iconst (v := ((-1) : Int32)) hx hb dX1_nodeThatWay_60 (by decide) ?_
      obtain rfl := re1 h
      exact zb_iret hx hb hr hlk hP hS dX1_nodeThatWay_61
    · replace h := it_f c4 h
      refine lv_iload_n hx hb dX1_nodeThatWay_54 rfl (lv_at hl 2 rfl) ?_
      refine lv_iconst (v := (1 : Int32)) hx hb dX1_nodeThatWay_55 (by decide) ?_
      refine lv_iadd hx hb dX1_nodeThatWay_56 ?_
      refine lv_goto (tgt := 61) hx hb dX1_nodeThatWay_57 (by decide) ?_
      obtain rfl := re1 h
      exact zb_iret hx hb hr hlk hP hS dX1_nodeThatWay_61
  replace h := it_f c3 h
  by_cases c5 : v1 = (2 : Int32)
  · replace h := it_t c5 h
    have e9 : v1.toInt = 2 := by rw [c5]; rfl
    refine lv_tableIn (tgt := 62) hx hb dX1_nodeThatWay_11 (by rw [e9]; decide) (by rw [e9]; decide) (by rw [e9]; rfl) (by decide) ?_
    refine lv_iload_n hx hb dX1_nodeThatWay_62 rfl (lv_at hl 1 rfl) ?_
    refine lv_iconst (v := (4 : Int32)) hx hb dX1_nodeThatWay_63 (by decide) ?_
    refine lv_icmp_ge (tgt := 74) hx hb dX1_nodeThatWay_64 (by decide) (fun c6 => ?_) (fun c6 => ?_)
    · replace h := it_t c6 h
      refine lv_iconst (v := ((-1) : Int32)) hx hb dX1_nodeThatWay_74 (by decide) ?_
      obtain rfl := re1 h
      exact zb_iret hx hb hr hlk hP hS dX1_nodeThatWay_75
    · replace h := it_f c6 h
      refine lv_iload_n hx hb dX1_nodeThatWay_67 rfl (lv_at hl 2 rfl) ?_
      refine lv_bipush (v := (6 : Int32)) hx hb dX1_nodeThatWay_68 (by decide) ?_
      refine lv_iadd hx hb dX1_nodeThatWay_70 ?_
      refine lv_goto (tgt := 75) hx hb dX1_nodeThatWay_71 (by decide) ?_
      obtain rfl := re1 h
      exact zb_iret hx hb hr hlk hP hS dX1_nodeThatWay_75
  replace h := it_f c5 h
  have e_c1 := sw_ne (k := 0) rfl c1
  have e_c3 := sw_ne (k := 1) rfl c3
  have e_c5 := sw_ne (k := 2) rfl c5
  refine lv_tableOut (tgt := 76) hx hb dX1_nodeThatWay_11 (by omega) (by decide) ?_
  refine lv_iload_n hx hb dX1_nodeThatWay_76 rfl (lv_at hl 0 rfl) ?_
  refine lv_if_le (tgt := 86) hx hb dX1_nodeThatWay_77 (by decide) (fun c7 => ?_) (fun c7 => ?_)
  · replace h := it_t c7 h
    refine lv_iconst (v := ((-1) : Int32)) hx hb dX1_nodeThatWay_86 (by decide) ?_
    obtain rfl := re1 h
    exact zb_iret hx hb hr hlk hP hS dX1_nodeThatWay_87
  · replace h := it_f c7 h
    refine lv_iload_n hx hb dX1_nodeThatWay_80 rfl (lv_at hl 2 rfl) ?_
    refine lv_iconst (v := (1 : Int32)) hx hb dX1_nodeThatWay_81 (by decide) ?_
    refine lv_isub hx hb dX1_nodeThatWay_82 ?_
    refine lv_goto (tgt := 87) hx hb dX1_nodeThatWay_83 (by decide) ?_
    obtain rfl := re1 h
    exact zb_iret hx hb hr hlk hP hS dX1_nodeThatWay_87
abbrev rm_J6_bitCount_0f7a4 : Room := { frames := 0, cells := 0, slots := 0, locals := 0 }
theorem hd_J6_bitCount_0f7a4 : yJ6_bitCount_0f7a4.cls = RJ6 ∧ yJ6_bitCount_0f7a4.cls ≠ "java/lang/invoke/MethodHandle" ∧ yJ6_bitCount_0f7a4.cls ≠ "java/lang/invoke/VarHandle" ∧ (parseMethodDescriptor yJ6_bitCount_0f7a4.desc).map (fun d => d.parameters.length) = some 1 := by decide +kernel
theorem zk_J6_bitCount_0f7a4_0 : Cond.constant RJ6 265 (1431655765) ∈ wsJ6_bitCount_0f7a4 := by decide +kernel
theorem zk_J6_bitCount_0f7a4_1 : Cond.constant RJ6 266 (858993459) ∈ wsJ6_bitCount_0f7a4 := by decide +kernel
theorem zk_J6_bitCount_0f7a4_2 : Cond.constant RJ6 267 (252645135) ∈ wsJ6_bitCount_0f7a4 := by decide +kernel
set_option maxHeartbeats 4000000 in
set_option maxRecDepth 100000 in
theorem zc_J6_bitCount_0f7a4 (l : Launch) (D : va_G) (cI : ClassId)  (v0 : Int32) (r0 : Int32) (h : zf_J6_bitCount_0f7a4 v0 = some r0) : Cn l D cI yJ6_bitCount_0f7a4 wsJ6_bitCount_0f7a4 rm_J6_bitCount_0f7a4 [.int v0] ([]) (some (.int r0)) ([]) := by
  refine zb_ofW (cc := cJ6_bitCount_0f7a4) (maxL := 1) (ret := (some .int)) (by decide) rfl (Nat.le_of_ble_eq_true rfl) ?_
  intro p e s m args below meth c A ls hx hb hr hml hts hown hlk hK hP hD hA hl
  have hS : va_S A s.heap s.heap [] := va_S.rf
  have hl : lv_has ls 1 [(0, .int v0)] := hl
  unfold zf_J6_bitCount_0f7a4 at h
  refine lv_iload_n hx hb dJ6_bitCount_0f7a4_0 rfl (lv_at hl 0 rfl) ?_
  refine lv_iload_n hx hb dJ6_bitCount_0f7a4_1 rfl (lv_at hl 0 rfl) ?_
  refine lv_iconst (v := (1 : Int32)) hx hb dJ6_bitCount_0f7a4_2 (by decide) ?_
  refine lv_iushr (v := (v0.toUInt32 >>> ((1 : Int32).toUInt32 &&& Int32.toUInt32 31)).toInt32) hx hb dJ6_bitCount_0f7a4_3 rfl ?_
  refine lv_ldcw (v := (1431655765 : Int32)) hx hb hown (hts _ zk_J6_bitCount_0f7a4_0) dJ6_bitCount_0f7a4_4 ?_
  refine lv_iand hx hb dJ6_bitCount_0f7a4_7 ?_
  refine lv_isub hx hb dJ6_bitCount_0f7a4_8 ?_
  refine lv_istore_n (lv' := [(0, .int (v0 - ((v0.toUInt32 >>> ((1 : Int32).toUInt32 &&& Int32.toUInt32 31)).toInt32 &&& (1431655765 : Int32))))]) hx hb dJ6_bitCount_0f7a4_9 rfl hl (by decide) rfl (fun ls hl => ?_)
  refine lv_iload_n hx hb dJ6_bitCount_0f7a4_10 rfl (lv_at hl 0 rfl) ?_
  refine lv_ldcw (v := (858993459 : Int32)) hx hb hown (hts _ zk_J6_bitCount_0f7a4_1) dJ6_bitCount_0f7a4_11 ?_
  refine lv_iand hx hb dJ6_bitCount_0f7a4_14 ?_
  refine lv_iload_n hx hb dJ6_bitCount_0f7a4_15 rfl (lv_at hl 0 rfl) ?_
  refine lv_iconst (v := (2 : Int32)) hx hb dJ6_bitCount_0f7a4_16 (by decide) ?_
  refine lv_iushr (v := ((v0 - ((v0.toUInt32 >>> ((1 : Int32).toUInt32 &&& Int32.toUInt32 31)).toInt32 &&& (1431655765 : Int32))).toUInt32 >>> ((2 : Int32).toUInt32 &&& Int32.toUInt32 31)).toInt32) hx hb dJ6_bitCount_0f7a4_17 rfl ?_
  refine lv_ldcw (v := (858993459 : Int32)) hx hb hown (hts _ zk_J6_bitCount_0f7a4_1) dJ6_bitCount_0f7a4_18 ?_
  refine lv_iand hx hb dJ6_bitCount_0f7a4_21 ?_
  refine lv_iadd hx hb dJ6_bitCount_0f7a4_22 ?_
  refine lv_istore_n (lv' := [(0, .int (((v0 - ((v0.toUInt32 >>> ((1 : Int32).toUInt32 &&& Int32.toUInt32 31)).toInt32 &&& (1431655765 : Int32))) &&& (858993459 : Int32)) + (((v0 - ((v0.toUInt32 >>> ((1 : Int32).toUInt32 &&& Int32.toUInt32 31)).toInt32 &&& (1431655765 : Int32))).toUInt32 >>> ((2 : Int32).toUInt32 &&& Int32.toUInt32 31)).toInt32 &&& (858993459 : Int32))))]) hx hb dJ6_bitCount_0f7a4_23 rfl hl (by decide) rfl (fun ls hl => ?_)
  refine lv_iload_n hx hb dJ6_bitCount_0f7a4_24 rfl (lv_at hl 0 rfl) ?_
  refine lv_iload_n hx hb dJ6_bitCount_0f7a4_25 rfl (lv_at hl 0 rfl) ?_
  refine lv_iconst (v := (4 : Int32)) hx hb dJ6_bitCount_0f7a4_26 (by decide) ?_
  refine lv_iushr (v := ((((v0 - ((v0.toUInt32 >>> ((1 : Int32).toUInt32 &&& Int32.toUInt32 31)).toInt32 &&& (1431655765 : Int32))) &&& (858993459 : Int32)) + (((v0 - ((v0.toUInt32 >>> ((1 : Int32).toUInt32 &&& Int32.toUInt32 31)).toInt32 &&& (1431655765 : Int32))).toUInt32 >>> ((2 : Int32).toUInt32 &&& Int32.toUInt32 31)).toInt32 &&& (858993459 : Int32))).toUInt32 >>> ((4 : Int32).toUInt32 &&& Int32.toUInt32 31)).toInt32) hx hb dJ6_bitCount_0f7a4_27 rfl ?_
  refine lv_iadd hx hb dJ6_bitCount_0f7a4_28 ?_
  refine lv_ldcw (v := (252645135 : Int32)) hx hb hown (hts _ zk_J6_bitCount_0f7a4_2) dJ6_bitCount_0f7a4_29 ?_
  refine lv_iand hx hb dJ6_bitCount_0f7a4_32 ?_
  refine lv_istore_n (lv' := [(0, .int (((((v0 - ((v0.toUInt32 >>> ((1 : Int32).toUInt32 &&& Int32.toUInt32 31)).toInt32 &&& (1431655765 : Int32))) &&& (858993459 : Int32)) + (((v0 - ((v0.toUInt32 >>> ((1 : Int32).toUInt32 &&& Int32.toUInt32 31)).toInt32 &&& (1431655765 : Int32))).toUInt32 >>> ((2 : Int32).toUInt32 &&& Int32.toUInt32 31)).toInt32 &&& (858993459 : Int32))) + ((((v0 - ((v0.toUInt32 >>> ((1 : Int32).toUInt32 &&& Int32.toUInt32 31)).toInt32 &&& (1431655765 : Int32))) &&& (858993459 : Int32)) + (((v0 - ((v0.toUInt32 >>> ((1 : Int32).toUInt32 &&& Int32.toUInt32 31)).toInt32 &&& (1431655765 : Int32))).toUInt32 >>> ((2 : Int32).toUInt32 &&& Int32.toUInt32 31)).toInt32 &&& (858993459 : Int32))).toUInt32 >>> ((4 : Int32).toUInt32 &&& Int32.toUInt32 31)).toInt32) &&& (252645135 : Int32)))]) hx hb dJ6_bitCount_0f7a4_33 rfl hl (by decide) rfl (fun ls hl => ?_)
  refine lv_iload_n hx hb dJ6_bitCount_0f7a4_34 rfl (lv_at hl 0 rfl) ?_
  refine lv_iload_n hx hb dJ6_bitCount_0f7a4_35 rfl (lv_at hl 0 rfl) ?_
  refine lv_bipush (v := (8 : Int32)) hx hb dJ6_bitCount_0f7a4_36 (by decide) ?_
  refine lv_iushr (v := ((((((v0 - ((v0.toUInt32 >>> ((1 : Int32).toUInt32 &&& Int32.toUInt32 31)).toInt32 &&& (1431655765 : Int32))) &&& (858993459 : Int32)) + (((v0 - ((v0.toUInt32 >>> ((1 : Int32).toUInt32 &&& Int32.toUInt32 31)).toInt32 &&& (1431655765 : Int32))).toUInt32 >>> ((2 : Int32).toUInt32 &&& Int32.toUInt32 31)).toInt32 &&& (858993459 : Int32))) + ((((v0 - ((v0.toUInt32 >>> ((1 : Int32).toUInt32 &&& Int32.toUInt32 31)).toInt32 &&& (1431655765 : Int32))) &&& (858993459 : Int32)) + (((v0 - ((v0.toUInt32 >>> ((1 : Int32).toUInt32 &&& Int32.toUInt32 31)).toInt32 &&& (1431655765 : Int32))).toUInt32 >>> ((2 : Int32).toUInt32 &&& Int32.toUInt32 31)).toInt32 &&& (858993459 : Int32))).toUInt32 >>> ((4 : Int32).toUInt32 &&& Int32.toUInt32 31)).toInt32) &&& (252645135 : Int32)).toUInt32 >>> ((8 : Int32).toUInt32 &&& Int32.toUInt32 31)).toInt32) hx hb dJ6_bitCount_0f7a4_38 rfl ?_
  refine lv_iadd hx hb dJ6_bitCount_0f7a4_39 ?_
  refine lv_istore_n (lv' := [(0, .int ((((((v0 - ((v0.toUInt32 >>> ((1 : Int32).toUInt32 &&& Int32.toUInt32 31)).toInt32 &&& (1431655765 : Int32))) &&& (858993459 : Int32)) + (((v0 - ((v0.toUInt32 >>> ((1 : Int32).toUInt32 &&& Int32.toUInt32 31)).toInt32 &&& (1431655765 : Int32))).toUInt32 >>> ((2 : Int32).toUInt32 &&& Int32.toUInt32 31)).toInt32 &&& (858993459 : Int32))) + ((((v0 - ((v0.toUInt32 >>> ((1 : Int32).toUInt32 &&& Int32.toUInt32 31)).toInt32 &&& (1431655765 : Int32))) &&& (858993459 : Int32)) + (((v0 - ((v0.toUInt32 >>> ((1 : Int32).toUInt32 &&& Int32.toUInt32 31)).toInt32 &&& (1431655765 : Int32))).toUInt32 >>> ((2 : Int32).toUInt32 &&& Int32.toUInt32 31)).toInt32 &&& (858993459 : Int32))).toUInt32 >>> ((4 : Int32).toUInt32 &&& Int32.toUInt32 31)).toInt32) &&& (252645135 : Int32)) + ((((((v0 - ((v0.toUInt32 >>> ((1 : Int32).toUInt32 &&& Int32.toUInt32 31)).toInt32 &&& (1431655765 : Int32))) &&& (858993459 : Int32)) + (((v0 - ((v0.toUInt32 >>> ((1 : Int32).toUInt32 &&& Int32.toUInt32 31)).toInt32 &&& (1431655765 : Int32))).toUInt32 >>> ((2 : Int32).toUInt32 &&& Int32.toUInt32 31)).toInt32 &&& (858993459 : Int32))) + ((((v0 - ((v0.toUInt32 >>> ((1 : Int32).toUInt32 &&& Int32.toUInt32 31)).toInt32 &&& (1431655765 : Int32))) &&& (858993459 : Int32)) + (((v0 - ((v0.toUInt32 >>> ((1 : Int32).toUInt32 &&& Int32.toUInt32 31)).toInt32 &&& (1431655765 : Int32))).toUInt32 >>> ((2 : Int32).toUInt32 &&& Int32.toUInt32 31)).toInt32 &&& (858993459 : Int32))).toUInt32 >>> ((4 : Int32).toUInt32 &&& Int32.toUInt32 31)).toInt32) &&& (252645135 : Int32)).toUInt32 >>> ((8 : Int32).toUInt32 &&& Int32.toUInt32 31)).toInt32))]) hx hb dJ6_bitCount_0f7a4_40 rfl hl (by decide) rfl (fun ls hl => ?_)
  refine lv_iload_n hx hb dJ6_bitCount_0f7a4_41 rfl (lv_at hl 0 rfl) ?_
  refine lv_iload_n hx hb dJ6_bitCount_0f7a4_42 rfl (lv_at hl 0 rfl) ?_
  refine lv_bipush (v := (16 : Int32)) hx hb dJ6_bitCount_0f7a4_43 (by decide) ?_
  refine lv_iushr (v := (((((((v0 - ((v0.toUInt32 >>> ((1 : Int32).toUInt32 &&& Int32.toUInt32 31)).toInt32 &&& (1431655765 : Int32))) &&& (858993459 : Int32)) + (((v0 - ((v0.toUInt32 >>> ((1 : Int32).toUInt32 &&& Int32.toUInt32 31)).toInt32 &&& (1431655765 : Int32))).toUInt32 >>> ((2 : Int32).toUInt32 &&& Int32.toUInt32 31)).toInt32 &&& (858993459 : Int32))) + ((((v0 - ((v0.toUInt32 >>> ((1 : Int32).toUInt32 &&& Int32.toUInt32 31)).toInt32 &&& (1431655765 : Int32))) &&& (858993459 : Int32)) + (((v0 - ((v0.toUInt32 >>> ((1 : Int32).toUInt32 &&& Int32.toUInt32 31)).toInt32 &&& (1431655765 : Int32))).toUInt32 >>> ((2 : Int32).toUInt32 &&& Int32.toUInt32 31)).toInt32 &&& (858993459 : Int32))).toUInt32 >>> ((4 : Int32).toUInt32 &&& Int32.toUInt32 31)).toInt32) &&& (252645135 : Int32)) + ((((((v0 - ((v0.toUInt32 >>> ((1 : Int32).toUInt32 &&& Int32.toUInt32 31)).toInt32 &&& (1431655765 : Int32))) &&& (858993459 : Int32)) + (((v0 - ((v0.toUInt32 >>> ((1 : Int32).toUInt32 &&& Int32.toUInt32 31)).toInt32 &&& (1431655765 : Int32))).toUInt32 >>> ((2 : Int32).toUInt32 &&& Int32.toUInt32 31)).toInt32 &&& (858993459 : Int32))) + ((((v0 - ((v0.toUInt32 >>> ((1 : Int32).toUInt32 &&& Int32.toUInt32 31)).toInt32 &&& (1431655765 : Int32))) &&& (858993459 : Int32)) + (((v0 - ((v0.toUInt32 >>> ((1 : Int32).toUInt32 &&& Int32.toUInt32 31)).toInt32 &&& (1431655765 : Int32))).toUInt32 >>> ((2 : Int32).toUInt32 &&& Int32.toUInt32 31)).toInt32 &&& (858993459 : Int32))).toUInt32 >>> ((4 : Int32).toUInt32 &&& Int32.toUInt32 31)).toInt32) &&& (252645135 : Int32)).toUInt32 >>> ((8 : Int32).toUInt32 &&& Int32.toUInt32 31)).toInt32).toUInt32 >>> ((16 : Int32).toUInt32 &&& Int32.toUInt32 31)).toInt32) hx hb dJ6_bitCount_0f7a4_45 rfl ?_
  refine lv_iadd hx hb dJ6_bitCount_0f7a4_46 ?_
  refine lv_istore_n (lv' := [(0, .int (((((((v0 - ((v0.toUInt32 >>> ((1 : Int32).toUInt32 &&& Int32.toUInt32 31)).toInt32 &&& (1431655765 : Int32))) &&& (858993459 : Int32)) + (((v0 - ((v0.toUInt32 >>> ((1 : Int32).toUInt32 &&& Int32.toUInt32 31)).toInt32 &&& (1431655765 : Int32))).toUInt32 >>> ((2 : Int32).toUInt32 &&& Int32.toUInt32 31)).toInt32 &&& (858993459 : Int32))) + ((((v0 - ((v0.toUInt32 >>> ((1 : Int32).toUInt32 &&& Int32.toUInt32 31)).toInt32 &&& (1431655765 : Int32))) &&& (858993459 : Int32)) + (((v0 - ((v0.toUInt32 >>> ((1 : Int32).toUInt32 &&& Int32.toUInt32 31)).toInt32 &&& (1431655765 : Int32))).toUInt32 >>> ((2 : Int32).toUInt32 &&& Int32.toUInt32 31)).toInt32 &&& (858993459 : Int32))).toUInt32 >>> ((4 : Int32).toUInt32 &&& Int32.toUInt32 31)).toInt32) &&& (252645135 : Int32)) + ((((((v0 - ((v0.toUInt32 >>> ((1 : Int32).toUInt32 &&& Int32.toUInt32 31)).toInt32 &&& (1431655765 : Int32))) &&& (858993459 : Int32)) + (((v0 - ((v0.toUInt32 >>> ((1 : Int32).toUInt32 &&& Int32.toUInt32 31)).toInt32 &&& (1431655765 : Int32))).toUInt32 >>> ((2 : Int32).toUInt32 &&& Int32.toUInt32 31)).toInt32 &&& (858993459 : Int32))) + ((((v0 - ((v0.toUInt32 >>> ((1 : Int32).toUInt32 &&& Int32.toUInt32 31)).toInt32 &&& (1431655765 : Int32))) &&& (858993459 : Int32)) + (((v0 - ((v0.toUInt32 >>> ((1 : Int32).toUInt32 &&& Int32.toUInt32 31)).toInt32 &&& (1431655765 : Int32))).toUInt32 >>> ((2 : Int32).toUInt32 &&& Int32.toUInt32 31)).toInt32 &&& (858993459 : Int32))).toUInt32 >>> ((4 : Int32).toUInt32 &&& Int32.toUInt32 31)).toInt32) &&& (252645135 : Int32)).toUInt32 >>> ((8 : Int32).toUInt32 &&& Int32.toUInt32 31)).toInt32) + (((((((v0 - ((v0.toUInt32 >>> ((1 : Int32).toUInt32 &&& Int32.toUInt32 31)).toInt32 &&& (1431655765 : Int32))) &&& (858993459 : Int32)) + (((v0 - ((v0.toUInt32 >>> ((1 : Int32).toUInt32 &&& Int32.toUInt32 31)).toInt32 &&& (1431655765 : Int32))).toUInt32 >>> ((2 : Int32).toUInt32 &&& Int32.toUInt32 31)).toInt32 &&& (858993459 : Int32))) + ((((v0 - ((v0.toUInt32 >>> ((1 : Int32).toUInt32 &&& Int32.toUInt32 31)).toInt32 &&& (1431655765 : Int32))) &&& (858993459 : Int32)) + (((v0 - ((v0.toUInt32 >>> ((1 : Int32).toUInt32 &&& Int32.toUInt32 31)).toInt32 &&& (1431655765 : Int32))).toUInt32 >>> ((2 : Int32).toUInt32 &&& Int32.toUInt32 31)).toInt32 &&& (858993459 : Int32))).toUInt32 >>> ((4 : Int32).toUInt32 &&& Int32.toUInt32 31)).toInt32) &&& (252645135 : Int32)) + ((((((v0 - ((v0.toUInt32 >>> ((1 : Int32).toUInt32 &&& Int32.toUInt32 31)).toInt32 &&& (1431655765 : Int32))) &&& (858993459 : Int32)) + (((v0 - ((v0.toUInt32 >>> ((1 : Int32).toUInt32 &&& Int32.toUInt32 31)).toInt32 &&& (1431655765 : Int32))).toUInt32 >>> ((2 : Int32).toUInt32 &&& Int32.toUInt32 31)).toInt32 &&& (858993459 : Int32))) + ((((v0 - ((v0.toUInt32 >>> ((1 : Int32).toUInt32 &&& Int32.toUInt32 31)).toInt32 &&& (1431655765 : Int32))) &&& (858993459 : Int32)) + (((v0 - ((v0.toUInt32 >>> ((1 : Int32).toUInt32 &&& Int32.toUInt32 31)).toInt32 &&& (1431655765 : Int32))).toUInt32 >>> ((2 : Int32).toUInt32 &&& Int32.toUInt32 31)).toInt32 &&& (858993459 : Int32))).toUInt32 >>> ((4 : Int32).toUInt32 &&& Int32.toUInt32 31)).toInt32) &&& (252645135 : Int32)).toUInt32 >>> ((8 : Int32).toUInt32 &&& Int32.toUInt32 31)).toInt32).toUInt32 >>> ((16 : Int32).toUInt32 &&& Int32.toUInt32 31)).toInt32))]) hx hb dJ6_bitCount_0f7a4_47 rfl hl (by decide) rfl (fun ls hl => ?_)
  refine lv_iload_n hx hb dJ6_bitCount_0f7a4_48 rfl (lv_at hl 0 rfl) ?_
  refine lv_bipush (v := (63 : Int32)) hx hb dJ6_bitCount_0f7a4_49 (by decide) ?_
  refine lv_iand hx hb dJ6_bitCount_0f7a4_51 ?_
  obtain rfl := re1 h
  exact zb_iret hx hb hr hlk hP hS dJ6_bitCount_0f7a4_52
abbrev rm_J7_fill_53178 : Room := { frames := 0, cells := 0, slots := 0, locals := 0 }
theorem hd_J7_fill_53178 : yJ7_fill_53178.cls = RJ7 ∧ yJ7_fill_53178.cls ≠ "java/lang/invoke/MethodHandle" ∧ yJ7_fill_53178.cls ≠ "java/lang/invoke/VarHandle" ∧ (parseMethodDescriptor yJ7_fill_53178.desc).map (fun d => d.parameters.length) = some 2 := by decide +kernel
set_option maxHeartbeats 4000000 in
set_option maxRecDepth 100000 in
theorem zc_J7_fill_53178 (l : Launch) (D : va_G) (cI : ClassId) (a : Nat) (r : (Nat → Int32)) (v1 : Int32) (w_r : (Nat → Int32)) (h : zf_J7_fill_53178 r v1 = some w_r) : Cn l D cI yJ7_fill_53178 wsJ7_fill_53178 rm_J7_fill_53178 [.ref a, .int v1] (zb_A30 cI a r) none (zb_A30 cI a w_r) := by
  refine zb_ofW (cc := cJ7_fill_53178) (maxL := 4) (ret := none) (by decide) rfl (Nat.le_of_ble_eq_true rfl) ?_
  intro p e s m args below meth c A ls hx hb hr hml hts hown hlk hK hP hD hA hl
  have hS : va_S A s.heap s.heap [] := va_S.rf
  have hl : lv_has ls 4 [(0, .ref a), (1, .int v1)] := hl
  unfold zf_J7_fill_53178 at h
  refine lv_iconst (v := (0 : Int32)) hx hb dJ7_fill_53178_0 (by decide) ?_
  refine lv_istore_n (lv' := [(2, .int (0 : Int32)), (0, .ref a), (1, .int v1)]) hx hb dJ7_fill_53178_1 rfl hl (by decide) rfl (fun ls hl => ?_)
  refine lv_aload_n hx hb dJ7_fill_53178_2 rfl (lv_at hl 1 rfl) ?_
  refine va_alen (v := (30 : Int32)) hx hb hK.1 hP 0 0 rfl rfl rfl dJ7_fill_53178_3 ?_
  refine lv_istore_n (lv' := [(3, .int (30 : Int32)), (2, .int (0 : Int32)), (0, .ref a), (1, .int v1)]) hx hb dJ7_fill_53178_4 rfl hl (by decide) rfl (fun ls hl => ?_)
  have lp3 : ∀ (fu3 : Nat) (x1 : Int32) (x2 : (Nat → Int32)) (H : Heap) (locs : List Loc) (hP : va_P D zb_cl (zb_A30 cI a x2) H) (hD : va_D A (zb_A30 cI a x2)) (hS : va_S A s.heap H locs) (ls : Array Slot) (hl : lv_has ls 4 [(0, .ref a), (1, .int v1), (2, .int x1), (3, .int (30 : Int32))]) (h : zl2 (zf_J7_fill_53178_b5 v1 (30 : Int32)) fu3 x1 x2 = some w_r), W p l e rm_J7_fill_53178 s m args below meth c H locs 0 0 (zb_Q below D none (zb_A30 cI a w_r) A args s) (F0 m 5 ls []) := by
    intro fu3
    induction fu3 with
    | zero => intro x1 x2 H locs hP hD hS ls hl h; exact zb_no h
    | succ fu3 ih3 =>
      intro x1 x2 H locs hP hD hS ls hl h
      replace h : zf_J7_fill_53178_b5 v1 (30 : Int32) (zl2 (zf_J7_fill_53178_b5 v1 (30 : Int32)) fu3) x1 x2 = some w_r := h
      unfold zf_J7_fill_53178_b5 at h
      refine lv_iload_n hx hb dJ7_fill_53178_5 rfl (lv_at hl 2 rfl) ?_
      refine lv_iload_n hx hb dJ7_fill_53178_6 rfl (lv_at hl 3 rfl) ?_
      refine lv_icmp_ge (tgt := 20) hx hb dJ7_fill_53178_7 (by decide) (fun c4 => ?_) (fun c4 => ?_)
      · replace h := it_t c4 h
        obtain rfl := re1 h
        exact zb_vret hx hb hr hlk hP hS dJ7_fill_53178_20
      · replace h := it_f c4 h
        refine lv_aload_n hx hb dJ7_fill_53178_10 rfl (lv_at hl 0 rfl) ?_
        refine lv_iload_n hx hb dJ7_fill_53178_11 rfl (lv_at hl 2 rfl) ?_
        refine lv_iload_n hx hb dJ7_fill_53178_12 rfl (lv_at hl 1 rfl) ?_
        obtain ⟨h5, h⟩ := it_g h
        refine va_iast hx hb hK.1 hP hD hS 0 0 rfl rfl h5 dJ7_fill_53178_13 (fun H locs hP hD hS => ?_)
        have hP : va_P D zb_cl (zb_A30 cI a (upd x2 x1.toNatClampNeg v1)) H := hP
        have hD : va_D A (zb_A30 cI a (upd x2 x1.toNatClampNeg v1)) := hD
        refine lv_iinc (v := (x1 + (1 : Int32))) (lv' := [(2, .int (x1 + (1 : Int32))), (0, .ref a), (1, .int v1), (3, .int (30 : Int32))]) hx hb dJ7_fill_53178_14 hl (k := 2) rfl (by first | rfl | decide) (by decide) rfl (fun ls hl => ?_)
        refine lv_goto (tgt := 5) hx hb dJ7_fill_53178_17 (by decide) ?_
        exact ih3 (x1 + (1 : Int32)) (upd x2 x1.toNatClampNeg v1) _ _ hP hD hS ls (lv_sub hl [1, 2, 0, 3] rfl) h
  exact lp3 zb_FU (0 : Int32) r _ _ hP hD hS ls (lv_sub hl [2, 3, 1, 0] rfl) h
abbrev rm_X0_becomes : Room := { frames := 1, cells := 0, slots := 0, locals := 30 }
theorem hd_X0_becomes : yX0_becomes.cls = RX0 ∧ yX0_becomes.cls ≠ "java/lang/invoke/MethodHandle" ∧ yX0_becomes.cls ≠ "java/lang/invoke/VarHandle" ∧ (parseMethodDescriptor yX0_becomes.desc).map (fun d => d.parameters.length) = some 1 := by decide +kernel
theorem zi_X0_becomes_X0 : ∀ w ∈ wsX00, w ∈ wsX0_becomes := fun _ h => List.mem_cons_of_mem _ (List.mem_append_right _ h)
theorem zk_X0_becomes_0 : Cond.fieldLink RX0 9 "GroutingIsFollowed$Bath" "kind" "[I" ∈ wsX0_becomes := by decide +kernel
theorem zk_X0_becomes_1 : Cond.methodLink RX0 36 arraycopyName ∈ wsX0_becomes := by decide +kernel
theorem zk_X0_becomes_2 : Cond.native arraycopyName ∈ wsX0_becomes := by decide +kernel
theorem zk_X0_becomes_3 : Cond.static arraycopyName ∈ wsX0_becomes := by decide +kernel
theorem zk_X0_becomes_4 : Cond.initialized "java/lang/System" ∈ wsX0_becomes := by decide +kernel
theorem zk_X0_becomes_5 : Cond.fieldLink RX0 15 "GroutingIsFollowed$Bath" "figure" "[I" ∈ wsX0_becomes := by decide +kernel
theorem zk_X0_becomes_6 : Cond.fieldLink RX0 18 "GroutingIsFollowed$Bath" "wet" "[I" ∈ wsX0_becomes := by decide +kernel
theorem zk_X0_becomes_7 : Cond.fieldLink RX0 21 "GroutingIsFollowed$Bath" "place" "[I" ∈ wsX0_becomes := by decide +kernel
theorem zk_X0_becomes_8 : Cond.fieldLink RX0 24 "GroutingIsFollowed$Bath" "heading" "[I" ∈ wsX0_becomes := by decide +kernel
theorem zk_X0_becomes_9 : Cond.fieldLink RX0 27 "GroutingIsFollowed$Bath" "helped" "[I" ∈ wsX0_becomes := by decide +kernel
theorem zk_X0_becomes_10 : Cond.fieldLink RX0 42 "GroutingIsFollowed$Bath" "people" "I" ∈ wsX0_becomes := by decide +kernel
theorem zk_X0_becomes_11 : Cond.fieldLink RX0 46 "GroutingIsFollowed$Bath" "step" "I" ∈ wsX0_becomes := by decide +kernel
set_option maxHeartbeats 4000000 in
set_option maxRecDepth 100000 in
theorem zc_X0_becomes (l : Launch) (D : va_G) (cI : ClassId) (b0 b1 b2 b3 b4 b5 b6 c0 c1 c2 c3 c4 c5 c6 : Nat) (B : BT) (C : BT) (w_B : BT) (h : zf_X0_becomes B C = some w_B) : Cn l D cI yX0_becomes wsX0_becomes rm_X0_becomes [.ref b0, .ref c0] (zb_BB cI b0 b1 b2 b3 b4 b5 b6 c0 c1 c2 c3 c4 c5 c6 B C) none (zb_BB cI b0 b1 b2 b3 b4 b5 b6 c0 c1 c2 c3 c4 c5 c6 w_B C) := by
  refine zb_ofW (cc := cX0_becomes) (maxL := 2) (ret := none) (by decide) rfl (Nat.le_of_ble_eq_true rfl) ?_
  intro p e s m args below meth c A ls hx hb hr hml hts hown hlk hK hP hD hA hl
  have hS : va_S A s.heap s.heap [] := va_S.rf
  have hl : lv_has ls 2 [(0, .ref b0), (1, .ref c0)] := hl
  unfold zf_X0_becomes at h
  refine lv_aload_n hx hb dX0_becomes_0 rfl (lv_at hl 1 rfl) ?_
  refine lv_ifnonnull (tgt := 5) hx hb dX0_becomes_1 (by decide) ?_
  refine lv_aload_n hx hb dX0_becomes_5 rfl (lv_at hl 1 rfl) ?_
  refine va_get (D := D) (ci := 0) (v := .ref c1) (C := RX0) (T := TX0) (N := 8) hx hb hts zi_X0_becomes_X0 hown hK.1 hP 7 rfl rfl 0 (by decide) (hts _ zk_X0_becomes_0) (fun _ h9 => h9) rfl dX0_becomes_6 ?_
  refine lv_iconst (v := (0 : Int32)) hx hb dX0_becomes_9 (by decide) ?_
  refine lv_aload_n hx hb dX0_becomes_10 rfl (lv_at hl 0 rfl) ?_
  refine va_get (D := D) (ci := 0) (v := .ref b1) (C := RX0) (T := TX0) (N := 8) hx hb hts zi_X0_becomes_X0 hown hK.1 hP 0 rfl rfl 0 (by decide) (hts _ zk_X0_becomes_0) (fun _ h9 => h9) rfl dX0_becomes_11 ?_
  refine lv_iconst (v := (0 : Int32)) hx hb dX0_becomes_14 (by decide) ?_
  refine lv_bipush (v := (30 : Int32)) hx hb dX0_becomes_15 (by decide) ?_
  refine va_copyi hx hb (hml.trans hl.1.symm) hown (hts _ zk_X0_becomes_1) (hts _ zk_X0_becomes_2) (hts _ zk_X0_becomes_3) (hts _ zk_X0_becomes_4) hK.1 hP hD hS 8 1 0 0 (ty := .int) rfl rfl rfl rfl rfl (by decide) (by decide) (by decide) (by decide) (by decide) (fun _ _ => rfl) (Nat.le_of_ble_eq_true rfl) (Nat.le_of_ble_eq_true rfl) dX0_becomes_17 (fun H locs hP hD hS => ?_)
  have hP : va_P D zb_cl (zb_BB cI b0 b1 b2 b3 b4 b5 b6 c0 c1 c2 c3 c4 c5 c6 (bs_kind B (va_cpy (bt_kind C) (bt_kind B) (0 : Int32).toNatClampNeg (0 : Int32).toNatClampNeg (30 : Int32).toNatClampNeg)) C) H := hP
  have hD : va_D A (zb_BB cI b0 b1 b2 b3 b4 b5 b6 c0 c1 c2 c3 c4 c5 c6 (bs_kind B (va_cpy (bt_kind C) (bt_kind B) (0 : Int32).toNatClampNeg (0 : Int32).toNatClampNeg (30 : Int32).toNatClampNeg)) C) := hD
  refine lv_aload_n hx hb dX0_becomes_20 rfl (lv_at hl 1 rfl) ?_
  refine va_get (D := D) (ci := 0) (v := .ref c2) (C := RX0) (T := TX0) (N := 8) hx hb hts zi_X0_becomes_X0 hown hK.1 hP 7 rfl rfl 1 (by decide) (hts _ zk_X0_becomes_5) (fun _ h9 => h9) rfl dX0_becomes_21 ?_
  refine lv_iconst (v := (0 : Int32)) hx hb dX0_becomes_24 (by decide) ?_
  refine lv_aload_n hx hb dX0_becomes_25 rfl (lv_at hl 0 rfl) ?_
  refine va_get (D := D) (ci := 0) (v := .ref b2) (C := RX0) (T := TX0) (N := 8) hx hb hts zi_X0_becomes_X0 hown hK.1 hP 0 rfl rfl 1 (by decide) (hts _ zk_X0_becomes_5) (fun _ h9 => h9) rfl dX0_becomes_26 ?_
  refine lv_iconst (v := (0 : Int32)) hx hb dX0_becomes_29 (by decide) ?_
  refine lv_bipush (v := (30 : Int32)) hx hb dX0_becomes_30 (by decide) ?_
  refine va_copyi hx hb (hml.trans hl.1.symm) hown (hts _ zk_X0_becomes_1) (hts _ zk_X0_becomes_2) (hts _ zk_X0_becomes_3) (hts _ zk_X0_becomes_4) hK.1 hP hD hS 9 2 0 0 (ty := .int) rfl rfl rfl rfl rfl (by decide) (by decide) (by decide) (by decide) (by decide) (fun _ _ => rfl) (Nat.le_of_ble_eq_true rfl) (Nat.le_of_ble_eq_true rfl) dX0_becomes_32 (fun H locs hP hD hS => ?_)
  have hP : va_P D zb_cl (zb_BB cI b0 b1 b2 b3 b4 b5 b6 c0 c1 c2 c3 c4 c5 c6 (bs_figure (bs_kind B (va_cpy (bt_kind C) (bt_kind B) (0 : Int32).toNatClampNeg (0 : Int32).toNatClampNeg (30 : Int32).toNatClampNeg)) (va_cpy (bt_figure C) (bt_figure B) (0 : Int32).toNatClampNeg (0 : Int32).toNatClampNeg (30 : Int32).toNatClampNeg)) C) H := hP
  have hD : va_D A (zb_BB cI b0 b1 b2 b3 b4 b5 b6 c0 c1 c2 c3 c4 c5 c6 (bs_figure (bs_kind B (va_cpy (bt_kind C) (bt_kind B) (0 : Int32).toNatClampNeg (0 : Int32).toNatClampNeg (30 : Int32).toNatClampNeg)) (va_cpy (bt_figure C) (bt_figure B) (0 : Int32).toNatClampNeg (0 : Int32).toNatClampNeg (30 : Int32).toNatClampNeg)) C) := hD
  refine lv_aload_n hx hb dX0_becomes_35 rfl (lv_at hl 1 rfl) ?_
  refine va_get (D := D) (ci := 0) (v := .ref c3) (C := RX0) (T := TX0) (N := 8) hx hb hts zi_X0_becomes_X0 hown hK.1 hP 7 rfl rfl 2 (by decide) (hts _ zk_X0_becomes_6) (fun _ h9 => h9) rfl dX0_becomes_36 ?_
  refine lv_iconst (v := (0 : Int32)) hx hb dX0_becomes_39 (by decide) ?_
  refine lv_aload_n hx hb dX0_becomes_40 rfl (lv_at hl 0 rfl) ?_
  refine va_get (D := D) (ci := 0) (v := .ref b3) (C := RX0) (T := TX0) (N := 8) hx hb hts zi_X0_becomes_X0 hown hK.1 hP 0 rfl rfl 2 (by decide) (hts _ zk_X0_becomes_6) (fun _ h9 => h9) rfl dX0_becomes_41 ?_
  refine lv_iconst (v := (0 : Int32)) hx hb dX0_becomes_44 (by decide) ?_
  refine lv_bipush (v := (30 : Int32)) hx hb dX0_becomes_45 (by decide) ?_
  refine va_copyi hx hb (hml.trans hl.1.symm) hown (hts _ zk_X0_becomes_1) (hts _ zk_X0_becomes_2) (hts _ zk_X0_becomes_3) (hts _ zk_X0_becomes_4) hK.1 hP hD hS 10 3 0 0 (ty := .int) rfl rfl rfl rfl rfl (by decide) (by decide) (by decide) (by decide) (by decide) (fun _ _ => rfl) (Nat.le_of_ble_eq_true rfl) (Nat.le_of_ble_eq_true rfl) dX0_becomes_47 (fun H locs hP hD hS => ?_)
  have hP : va_P D zb_cl (zb_BB cI b0 b1 b2 b3 b4 b5 b6 c0 c1 c2 c3 c4 c5 c6 (bs_wet (bs_figure (bs_kind B (va_cpy (bt_kind C) (bt_kind B) (0 : Int32).toNatClampNeg (0 : Int32).toNatClampNeg (30 : Int32).toNatClampNeg)) (va_cpy (bt_figure C) (bt_figure B) (0 : Int32).toNatClampNeg (0 : Int32).toNatClampNeg (30 : Int32).toNatClampNeg)) (va_cpy (bt_wet C) (bt_wet B) (0 : Int32).toNatClampNeg (0 : Int32).toNatClampNeg (30 : Int32).toNatClampNeg)) C) H := hP
  have hD : va_D A (zb_BB cI b0 b1 b2 b3 b4 b5 b6 c0 c1 c2 c3 c4 c5 c6 (bs_wet (bs_figure (bs_kind B (va_cpy (bt_kind C) (bt_kind B) (0 : Int32).toNatClampNeg (0 : Int32).toNatClampNeg (30 : Int32).toNatClampNeg)) (va_cpy (bt_figure C) (bt_figure B) (0 : Int32).toNatClampNeg (0 : Int32).toNatClampNeg (30 : Int32).toNatClampNeg)) (va_cpy (bt_wet C) (bt_wet B) (0 : Int32).toNatClampNeg (0 : Int32).toNatClampNeg (30 : Int32).toNatClampNeg)) C) := hD
  refine lv_aload_n hx hb dX0_becomes_50 rfl (lv_at hl 1 rfl) ?_
  refine va_get (D := D) (ci := 0) (v := .ref c4) (C := RX0) (T := TX0) (N := 8) hx hb hts zi_X0_becomes_X0 hown hK.1 hP 7 rfl rfl 3 (by decide) (hts _ zk_X0_becomes_7) (fun _ h9 => h9) rfl dX0_becomes_51 ?_
  refine lv_iconst (v := (0 : Int32)) hx hb dX0_becomes_54 (by decide) ?_
  refine lv_aload_n hx hb dX0_becomes_55 rfl (lv_at hl 0 rfl) ?_
  refine va_get (D := D) (ci := 0) (v := .ref b4) (C := RX0) (T := TX0) (N := 8) hx hb hts zi_X0_becomes_X0 hown hK.1 hP 0 rfl rfl 3 (by decide) (hts _ zk_X0_becomes_7) (fun _ h9 => h9) rfl dX0_becomes_56 ?_
  refine lv_iconst (v := (0 : Int32)) hx hb dX0_becomes_59 (by decide) ?_
  refine lv_iconst (v := (4 : Int32)) hx hb dX0_becomes_60 (by decide) ?_
  refine va_copyi hx hb (hml.trans hl.1.symm) hown (hts _ zk_X0_becomes_1) (hts _ zk_X0_becomes_2) (hts _ zk_X0_becomes_3) (hts _ zk_X0_becomes_4) hK.1 hP hD hS 11 4 0 0 (ty := .int) rfl rfl rfl rfl rfl (by decide) (by decide) (by decide) (by decide) (by decide) (fun _ _ => rfl) (Nat.le_of_ble_eq_true rfl) (Nat.le_of_ble_eq_true rfl) dX0_becomes_61 (fun H locs hP hD hS => ?_)
  have hP : va_P D zb_cl (zb_BB cI b0 b1 b2 b3 b4 b5 b6 c0 c1 c2 c3 c4 c5 c6 (bs_place (bs_wet (bs_figure (bs_kind B (va_cpy (bt_kind C) (bt_kind B) (0 : Int32).toNatClampNeg (0 : Int32).toNatClampNeg (30 : Int32).toNatClampNeg)) (va_cpy (bt_figure C) (bt_figure B) (0 : Int32).toNatClampNeg (0 : Int32).toNatClampNeg (30 : Int32).toNatClampNeg)) (va_cpy (bt_wet C) (bt_wet B) (0 : Int32).toNatClampNeg (0 : Int32).toNatClampNeg (30 : Int32).toNatClampNeg)) (va_cpy (bt_place C) (bt_place B) (0 : Int32).toNatClampNeg (0 : Int32).toNatClampNeg (4 : Int32).toNatClampNeg)) C) H := hP
  have hD : va_D A (zb_BB cI b0 b1 b2 b3 b4 b5 b6 c0 c1 c2 c3 c4 c5 c6 (bs_place (bs_wet (bs_figure (bs_kind B (va_cpy (bt_kind C) (bt_kind B) (0 : Int32).toNatClampNeg (0 : Int32).toNatClampNeg (30 : Int32).toNatClampNeg)) (va_cpy (bt_figure C) (bt_figure B) (0 : Int32).toNatClampNeg (0 : Int32).toNatClampNeg (30 : Int32).toNatClampNeg)) (va_cpy (bt_wet C) (bt_wet B) (0 : Int32).toNatClampNeg (0 : Int32).toNatClampNeg (30 : Int32).toNatClampNeg)) (va_cpy (bt_place C) (bt_place B) (0 : Int32).toNatClampNeg (0 : Int32).toNatClampNeg (4 : Int32).toNatClampNeg)) C) := hD
  refine lv_aload_n hx hb dX0_becomes_64 rfl (lv_at hl 1 rfl) ?_
  refine va_get (D := D) (ci := 0) (v := .ref c5) (C := RX0) (T := TX0) (N := 8) hx hb hts zi_X0_becomes_X0 hown hK.1 hP 7 rfl rfl 4 (by decide) (hts _ zk_X0_becomes_8) (fun _ h9 => h9) rfl dX0_becomes_65 ?_
  refine lv_iconst (v := (0 : Int32)) hx hb dX0_becomes_68 (by decide) ?_
  refine lv_aload_n hx hb dX0_becomes_69 rfl (lv_at hl 0 rfl) ?_
  refine va_get (D := D) (ci := 0) (v := .ref b5) (C := RX0) (T := TX0) (N := 8) hx hb hts zi_X0_becomes_X0 hown hK.1 hP 0 rfl rfl 4 (by decide) (hts _ zk_X0_becomes_8) (fun _ h9 => h9) rfl dX0_becomes_70 ?_
  refine lv_iconst (v := (0 : Int32)) hx hb dX0_becomes_73 (by decide) ?_
  refine lv_iconst (v := (4 : Int32)) hx hb dX0_becomes_74 (by decide) ?_
  refine va_copyi hx hb (hml.trans hl.1.symm) hown (hts _ zk_X0_becomes_1) (hts _ zk_X0_becomes_2) (hts _ zk_X0_becomes_3) (hts _ zk_X0_becomes_4) hK.1 hP hD hS 12 5 0 0 (ty := .int) rfl rfl rfl rfl rfl (by decide) (by decide) (by decide) (by decide) (by decide) (fun _ _ => rfl) (Nat.le_of_ble_eq_true rfl) (Nat.le_of_ble_eq_true rfl) dX0_becomes_75 (fun H locs hP hD hS => ?_)
  have hP : va_P D zb_cl (zb_BB cI b0 b1 b2 b3 b4 b5 b6 c0 c1 c2 c3 c4 c5 c6 (bs_heading (bs_place (bs_wet (bs_figure (bs_kind B (va_cpy (bt_kind C) (bt_kind B) (0 : Int32).toNatClampNeg (0 : Int32).toNatClampNeg (30 : Int32).toNatClampNeg)) (va_cpy (bt_figure C) (bt_figure B) (0 : Int32).toNatClampNeg (0 : Int32).toNatClampNeg (30 : Int32).toNatClampNeg)) (va_cpy (bt_wet C) (bt_wet B) (0 : Int32).toNatClampNeg (0 : Int32).toNatClampNeg (30 : Int32).toNatClampNeg)) (va_cpy (bt_place C) (bt_place B) (0 : Int32).toNatClampNeg (0 : Int32).toNatClampNeg (4 : Int32).toNatClampNeg)) (va_cpy (bt_heading C) (bt_heading B) (0 : Int32).toNatClampNeg (0 : Int32).toNatClampNeg (4 : Int32).toNatClampNeg)) C) H := hP
  have hD : va_D A (zb_BB cI b0 b1 b2 b3 b4 b5 b6 c0 c1 c2 c3 c4 c5 c6 (bs_heading (bs_place (bs_wet (bs_figure (bs_kind B (va_cpy (bt_kind C) (bt_kind B) (0 : Int32).toNatClampNeg (0 : Int32).toNatClampNeg (30 : Int32).toNatClampNeg)) (va_cpy (bt_figure C) (bt_figure B) (0 : Int32).toNatClampNeg (0 : Int32).toNatClampNeg (30 : Int32).toNatClampNeg)) (va_cpy (bt_wet C) (bt_wet B) (0 : Int32).toNatClampNeg (0 : Int32).toNatClampNeg (30 : Int32).toNatClampNeg)) (va_cpy (bt_place C) (bt_place B) (0 : Int32).toNatClampNeg (0 : Int32).toNatClampNeg (4 : Int32).toNatClampNeg)) (va_cpy (bt_heading C) (bt_heading B) (0 : Int32).toNatClampNeg (0 : Int32).toNatClampNeg (4 : Int32).toNatClampNeg)) C) := hD
  refine lv_aload_n hx hb dX0_becomes_78 rfl (lv_at hl 1 rfl) ?_
  refine va_get (D := D) (ci := 0) (v := .ref c6) (C := RX0) (T := TX0) (N := 8) hx hb hts zi_X0_becomes_X0 hown hK.1 hP 7 rfl rfl 5 (by decide) (hts _ zk_X0_becomes_9) (fun _ h9 => h9) rfl dX0_becomes_79 ?_
  refine lv_iconst (v := (0 : Int32)) hx hb dX0_becomes_82 (by decide) ?_
  refine lv_aload_n hx hb dX0_becomes_83 rfl (lv_at hl 0 rfl) ?_
  refine va_get (D := D) (ci := 0) (v := .ref b6) (C := RX0) (T := TX0) (N := 8) hx hb hts zi_X0_becomes_X0 hown hK.1 hP 0 rfl rfl 5 (by decide) (hts _ zk_X0_becomes_9) (fun _ h9 => h9) rfl dX0_becomes_84 ?_
  refine lv_iconst (v := (0 : Int32)) hx hb dX0_becomes_87 (by decide) ?_
  refine lv_iconst (v := (4 : Int32)) hx hb dX0_becomes_88 (by decide) ?_
  refine va_copyi hx hb (hml.trans hl.1.symm) hown (hts _ zk_X0_becomes_1) (hts _ zk_X0_becomes_2) (hts _ zk_X0_becomes_3) (hts _ zk_X0_becomes_4) hK.1 hP hD hS 13 6 0 0 (ty := .int) rfl rfl rfl rfl rfl (by decide) (by decide) (by decide) (by decide) (by decide) (fun _ _ => rfl) (Nat.le_of_ble_eq_true rfl) (Nat.le_of_ble_eq_true rfl) dX0_becomes_89 (fun H locs hP hD hS => ?_)
  have hP : va_P D zb_cl (zb_BB cI b0 b1 b2 b3 b4 b5 b6 c0 c1 c2 c3 c4 c5 c6 (bs_helped (bs_heading (bs_place (bs_wet (bs_figure (bs_kind B (va_cpy (bt_kind C) (bt_kind B) (0 : Int32).toNatClampNeg (0 : Int32).toNatClampNeg (30 : Int32).toNatClampNeg)) (va_cpy (bt_figure C) (bt_figure B) (0 : Int32).toNatClampNeg (0 : Int32).toNatClampNeg (30 : Int32).toNatClampNeg)) (va_cpy (bt_wet C) (bt_wet B) (0 : Int32).toNatClampNeg (0 : Int32).toNatClampNeg (30 : Int32).toNatClampNeg)) (va_cpy (bt_place C) (bt_place B) (0 : Int32).toNatClampNeg (0 : Int32).toNatClampNeg (4 : Int32).toNatClampNeg)) (va_cpy (bt_heading C) (bt_heading B) (0 : Int32).toNatClampNeg (0 : Int32).toNatClampNeg (4 : Int32).toNatClampNeg)) (va_cpy (bt_helped C) (bt_helped B) (0 : Int32).toNatClampNeg (0 : Int32).toNatClampNeg (4 : Int32).toNatClampNeg)) C) H := hP
  have hD : va_D A (zb_BB cI b0 b1 b2 b3 b4 b5 b6 c0 c1 c2 c3 c4 c5 c6 (bs_helped (bs_heading (bs_place (bs_wet (bs_figure (bs_kind B (va_cpy (bt_kind C) (bt_kind B) (0 : Int32).toNatClampNeg (0 : Int32).toNatClampNeg (30 : Int32).toNatClampNeg)) (va_cpy (bt_figure C) (bt_figure B) (0 : Int32).toNatClampNeg (0 : Int32).toNatClampNeg (30 : Int32).toNatClampNeg)) (va_cpy (bt_wet C) (bt_wet B) (0 : Int32).toNatClampNeg (0 : Int32).toNatClampNeg (30 : Int32).toNatClampNeg)) (va_cpy (bt_place C) (bt_place B) (0 : Int32).toNatClampNeg (0 : Int32).toNatClampNeg (4 : Int32).toNatClampNeg)) (va_cpy (bt_heading C) (bt_heading B) (0 : Int32).toNatClampNeg (0 : Int32).toNatClampNeg (4 : Int32).toNatClampNeg)) (va_cpy (bt_helped C) (bt_helped B) (0 : Int32).toNatClampNeg (0 : Int32).toNatClampNeg (4 : Int32).toNatClampNeg)) C) := hD
  refine lv_aload_n hx hb dX0_becomes_92 rfl (lv_at hl 0 rfl) ?_
  refine lv_aload_n hx hb dX0_becomes_93 rfl (lv_at hl 1 rfl) ?_
  refine va_get (D := D) (ci := 0) (v := .int (bt_people C)) (C := RX0) (T := TX0) (N := 8) hx hb hts zi_X0_becomes_X0 hown hK.1 hP 7 rfl rfl 6 (by decide) (hts _ zk_X0_becomes_10) (fun _ h9 => h9) rfl dX0_becomes_94 ?_
  refine va_put (D := D) (ci := 0) (v := .int (bt_people C)) (ty := .int) (C := RX0) (T := TX0) (N := 8) hx hb hts zi_X0_becomes_X0 tyX0 tyX0_ok nmX0 hown hK.1 hP hD hS 0 rfl rfl 6 (by decide) (hts _ zk_X0_becomes_10) (fun _ h9 => h9) rfl (by decide +kernel) rfl rfl (Nat.le_of_ble_eq_true rfl) dX0_becomes_97 (fun H locs hP hD hS => ?_)
  have hP : va_P D zb_cl (zb_BB cI b0 b1 b2 b3 b4 b5 b6 c0 c1 c2 c3 c4 c5 c6 (bs_people (bs_helped (bs_heading (bs_place (bs_wet (bs_figure (bs_kind B (va_cpy (bt_kind C) (bt_kind B) (0 : Int32).toNatClampNeg (0 : Int32).toNatClampNeg (30 : Int32).toNatClampNeg)) (va_cpy (bt_figure C) (bt_figure B) (0 : Int32).toNatClampNeg (0 : Int32).toNatClampNeg (30 : Int32).toNatClampNeg)) (va_cpy (bt_wet C) (bt_wet B) (0 : Int32).toNatClampNeg (0 : Int32).toNatClampNeg (30 : Int32).toNatClampNeg)) (va_cpy (bt_place C) (bt_place B) (0 : Int32).toNatClampNeg (0 : Int32).toNatClampNeg (4 : Int32).toNatClampNeg)) (va_cpy (bt_heading C) (bt_heading B) (0 : Int32).toNatClampNeg (0 : Int32).toNatClampNeg (4 : Int32).toNatClampNeg)) (va_cpy (bt_helped C) (bt_helped B) (0 : Int32).toNatClampNeg (0 : Int32).toNatClampNeg (4 : Int32).toNatClampNeg)) (bt_people C)) C) H := hP
  have hD : va_D A (zb_BB cI b0 b1 b2 b3 b4 b5 b6 c0 c1 c2 c3 c4 c5 c6 (bs_people (bs_helped (bs_heading (bs_place (bs_wet (bs_figure (bs_kind B (va_cpy (bt_kind C) (bt_kind B) (0 : Int32).toNatClampNeg (0 : Int32).toNatClampNeg (30 : Int32).toNatClampNeg)) (va_cpy (bt_figure C) (bt_figure B) (0 : Int32).toNatClampNeg (0 : Int32).toNatClampNeg (30 : Int32).toNatClampNeg)) (va_cpy (bt_wet C) (bt_wet B) (0 : Int32).toNatClampNeg (0 : Int32).toNatClampNeg (30 : Int32).toNatClampNeg)) (va_cpy (bt_place C) (bt_place B) (0 : Int32).toNatClampNeg (0 : Int32).toNatClampNeg (4 : Int32).toNatClampNeg)) (va_cpy (bt_heading C) (bt_heading B) (0 : Int32).toNatClampNeg (0 : Int32).toNatClampNeg (4 : Int32).toNatClampNeg)) (va_cpy (bt_helped C) (bt_helped B) (0 : Int32).toNatClampNeg (0 : Int32).toNatClampNeg (4 : Int32).toNatClampNeg)) (bt_people C)) C) := hD
  refine lv_aload_n hx hb dX0_becomes_100 rfl (lv_at hl 0 rfl) ?_
  refine lv_aload_n hx hb dX0_becomes_101 rfl (lv_at hl 1 rfl) ?_
  refine va_get (D := D) (ci := 0) (v := .int (bt_step C)) (C := RX0) (T := TX0) (N := 8) hx hb hts zi_X0_becomes_X0 hown hK.1 hP 7 rfl rfl 7 (by decide) (hts _ zk_X0_becomes_11) (fun _ h9 => h9) rfl dX0_becomes_102 ?_
  refine va_put (D := D) (ci := 0) (v := .int (bt_step C)) (ty := .int) (C := RX0) (T := TX0) (N := 8) hx hb hts zi_X0_becomes_X0 tyX0 tyX0_ok nmX0 hown hK.1 hP hD hS 0 rfl rfl 7 (by decide) (hts _ zk_X0_becomes_11) (fun _ h9 => h9) rfl (by decide +kernel) rfl rfl (Nat.le_of_ble_eq_true rfl) dX0_becomes_105 (fun H locs hP hD hS => ?_)
  have hP : va_P D zb_cl (zb_BB cI b0 b1 b2 b3 b4 b5 b6 c0 c1 c2 c3 c4 c5 c6 (bs_step (bs_people (bs_helped (bs_heading (bs_place (bs_wet (bs_figure (bs_kind B (va_cpy (bt_kind C) (bt_kind B) (0 : Int32).toNatClampNeg (0 : Int32).toNatClampNeg (30 : Int32).toNatClampNeg)) (va_cpy (bt_figure C) (bt_figure B) (0 : Int32).toNatClampNeg (0 : Int32).toNatClampNeg (30 : Int32).toNatClampNeg)) (va_cpy (bt_wet C) (bt_wet B) (0 : Int32).toNatClampNeg (0 : Int32).toNatClampNeg (30 : Int32).toNatClampNeg)) (va_cpy (bt_place C) (bt_place B) (0 : Int32).toNatClampNeg (0 : Int32).toNatClampNeg (4 : Int32).toNatClampNeg)) (va_cpy (bt_heading C) (bt_heading B) (0 : Int32).toNatClampNeg (0 : Int32).toNatClampNeg (4 : Int32).toNatClampNeg)) (va_cpy (bt_helped C) (bt_helped B) (0 : Int32).toNatClampNeg (0 : Int32).toNatClampNeg (4 : Int32).toNatClampNeg)) (bt_people C)) (bt_step C)) C) H := hP
  have hD : va_D A (zb_BB cI b0 b1 b2 b3 b4 b5 b6 c0 c1 c2 c3 c4 c5 c6 (bs_step (bs_people (bs_helped (bs_heading (bs_place (bs_wet (bs_figure (bs_kind B (va_cpy (bt_kind C) (bt_kind B) (0 : Int32).toNatClampNeg (0 : Int32).toNatClampNeg (30 : Int32).toNatClampNeg)) (va_cpy (bt_figure C) (bt_figure B) (0 : Int32).toNatClampNeg (0 : Int32).toNatClampNeg (30 : Int32).toNatClampNeg)) (va_cpy (bt_wet C) (bt_wet B) (0 : Int32).toNatClampNeg (0 : Int32).toNatClampNeg (30 : Int32).toNatClampNeg)) (va_cpy (bt_place C) (bt_place B) (0 : Int32).toNatClampNeg (0 : Int32).toNatClampNeg (4 : Int32).toNatClampNeg)) (va_cpy (bt_heading C) (bt_heading B) (0 : Int32).toNatClampNeg (0 : Int32).toNatClampNeg (4 : Int32).toNatClampNeg)) (va_cpy (bt_helped C) (bt_helped B) (0 : Int32).toNatClampNeg (0 : Int32).toNatClampNeg (4 : Int32).toNatClampNeg)) (bt_people C)) (bt_step C)) C) := hD
  obtain rfl := re1 h
  exact zb_vret hx hb hr hlk hP hS dX0_becomes_108
abbrev rm_X0_peopleCount : Room := { frames := 0, cells := 0, slots := 0, locals := 0 }
theorem hd_X0_peopleCount : yX0_peopleCount.cls = RX0 ∧ yX0_peopleCount.cls ≠ "java/lang/invoke/MethodHandle" ∧ yX0_peopleCount.cls ≠ "java/lang/invoke/VarHandle" ∧ (parseMethodDescriptor yX0_peopleCount.desc).map (fun d => d.parameters.length) = some 0 := by decide +kernel
theorem zi_X0_peopleCount_X0 : ∀ w ∈ wsX00, w ∈ wsX0_peopleCount := fun _ h => List.mem_cons_of_mem _ (List.mem_append_right _ h)
theorem zk_X0_peopleCount_0 : Cond.fieldLink RX0 42 "GroutingIsFollowed$Bath" "people" "I" ∈ wsX0_peopleCount := by decide +kernel
set_option maxHeartbeats 4000000 in
set_option maxRecDepth 100000 in
theorem zc_X0_peopleCount (l : Launch) (D : va_G) (cI : ClassId) (b0 b1 b2 b3 b4 b5 b6 : Nat) (B : BT) (r0 : Int32) (h : zf_X0_peopleCount B = some r0) : Cn l D cI yX0_peopleCount wsX0_peopleCount rm_X0_peopleCount [.ref b0] (zb_B cI b0 b1 b2 b3 b4 b5 b6 B) (some (.int r0)) (zb_B cI b0 b1 b2 b3 b4 b5 b6 B) := by
  refine zb_ofW (cc := cX0_peopleCount) (maxL := 1) (ret := (some .int)) (by decide) rfl (Nat.le_of_ble_eq_true rfl) ?_
  intro p e s m args below meth c A ls hx hb hr hml hts hown hlk hK hP hD hA hl
  have hS : va_S A s.heap s.heap [] := va_S.rf
  have hl : lv_has ls 1 [(0, .ref b0)] := hl
  unfold zf_X0_peopleCount at h
  refine lv_aload_n hx hb dX0_peopleCount_0 rfl (lv_at hl 0 rfl) ?_
  refine va_get (D := D) (ci := 0) (v := .int (bt_people B)) (C := RX0) (T := TX0) (N := 8) hx hb hts zi_X0_peopleCount_X0 hown hK.1 hP 0 rfl rfl 6 (by decide) (hts _ zk_X0_peopleCount_0) (fun _ h9 => h9) rfl dX0_peopleCount_1 ?_
  obtain rfl := re1 h
  exact zb_iret hx hb hr hlk hP hS dX0_peopleCount_4
abbrev rm_X0_stepCount : Room := { frames := 0, cells := 0, slots := 0, locals := 0 }
theorem hd_X0_stepCount : yX0_stepCount.cls = RX0 ∧ yX0_stepCount.cls ≠ "java/lang/invoke/MethodHandle" ∧ yX0_stepCount.cls ≠ "java/lang/invoke/VarHandle" ∧ (parseMethodDescriptor yX0_stepCount.desc).map (fun d => d.parameters.length) = some 0 := by decide +kernel
theorem zi_X0_stepCount_X0 : ∀ w ∈ wsX00, w ∈ wsX0_stepCount := fun _ h => List.mem_cons_of_mem _ (List.mem_append_right _ h)
theorem zk_X0_stepCount_0 : Cond.fieldLink RX0 46 "GroutingIsFollowed$Bath" "step" "I" ∈ wsX0_stepCount := by decide +kernel
set_option maxHeartbeats 4000000 in
set_option maxRecDepth 100000 in
theorem zc_X0_stepCount (l : Launch) (D : va_G) (cI : ClassId) (b0 b1 b2 b3 b4 b5 b6 : Nat) (B : BT) (r0 : Int32) (h : zf_X0_stepCount B = some r0) : Cn l D cI yX0_stepCount wsX0_stepCount rm_X0_stepCount [.ref b0] (zb_B cI b0 b1 b2 b3 b4 b5 b6 B) (some (.int r0)) (zb_B cI b0 b1 b2 b3 b4 b5 b6 B) := by
  refine zb_ofW (cc := cX0_stepCount) (maxL := 1) (ret := (some .int)) (by decide) rfl (Nat.le_of_ble_eq_true rfl) ?_
  intro p e s m args below meth c A ls hx hb hr hml hts hown hlk hK hP hD hA hl
  have hS : va_S A s.heap s.heap [] := va_S.rf
  have hl : lv_has ls 1 [(0, .ref b0)] := hl
  unfold zf_X0_stepCount at h
  refine lv_aload_n hx hb dX0_stepCount_0 rfl (lv_at hl 0 rfl) ?_
  refine va_get (D := D) (ci := 0) (v := .int (bt_step B)) (C := RX0) (T := TX0) (N := 8) hx hb hts zi_X0_stepCount_X0 hown hK.1 hP 0 rfl rfl 7 (by decide) (hts _ zk_X0_stepCount_0) (fun _ h9 => h9) rfl dX0_stepCount_1 ?_
  obtain rfl := re1 h
  exact zb_iret hx hb hr hlk hP hS dX0_stepCount_4
abbrev rm_X0_isFull : Room := { frames := 0, cells := 0, slots := 0, locals := 0 }
theorem hd_X0_isFull : yX0_isFull.cls = RX0 ∧ yX0_isFull.cls ≠ "java/lang/invoke/MethodHandle" ∧ yX0_isFull.cls ≠ "java/lang/invoke/VarHandle" ∧ (parseMethodDescriptor yX0_isFull.desc).map (fun d => d.parameters.length) = some 0 := by decide +kernel
theorem zi_X0_isFull_X0 : ∀ w ∈ wsX00, w ∈ wsX0_isFull := fun _ h => List.mem_cons_of_mem _ (List.mem_append_right _ h)
theorem zk_X0_isFull_0 : Cond.fieldLink RX0 42 "GroutingIsFollowed$Bath" "people" "I" ∈ wsX0_isFull := by decide +kernel
set_option maxHeartbeats 4000000 in
set_option maxRecDepth 100000 in
theorem zc_X0_isFull (l : Launch) (D : va_G) (cI : ClassId) (b0 b1 b2 b3 b4 b5 b6 : Nat) (B : BT) (r0 : Int32) (h : zf_X0_isFull B = some r0) : Cn l D cI yX0_isFull wsX0_isFull rm_X0_isFull [.ref b0] (zb_B cI b0 b1 b2 b3 b4 b5 b6 B) (some (.int r0)) (zb_B cI b0 b1 b2 b3 b4 b5 b6 B) := by
  refine zb_ofW (cc := cX0_isFull) (maxL := 1) (ret := (some .boolean)) (by decide) rfl (Nat.le_of_ble_eq_true rfl) ?_
  intro p e s m args below meth c A ls hx hb hr hml hts hown hlk hK hP hD hA hl
  have hS : va_S A s.heap s.heap [] := va_S.rf
  have hl : lv_has ls 1 [(0, .ref b0)] := hl
  unfold zf_X0_isFull at h
  refine lv_aload_n hx hb dX0_isFull_0 rfl (lv_at hl 0 rfl) ?_
  refine va_get (D := D) (ci := 0) (v := .int (bt_people B)) (C := RX0) (T := TX0) (N := 8) hx hb hts zi_X0_isFull_X0 hown hK.1 hP 0 rfl rfl 6 (by decide) (hts _ zk_X0_isFull_0) (fun _ h9 => h9) rfl dX0_isFull_1 ?_
  refine lv_iconst (v := (4 : Int32)) hx hb dX0_isFull_4 (by decide) ?_
  refine lv_icmp_lt (tgt := 12) hx hb dX0_isFull_5 (by decide) (fun c1 => ?_) (fun c1 => ?_)
  · replace h := it_t c1 h
    refine lv_iconst (v := (0 : Int32)) hx hb dX0_isFull_12 (by decide) ?_
    obtain rfl := re1 h
    exact zb_zret hx hb hr hlk rfl hP hS dX0_isFull_13
  · replace h := it_f c1 h
    refine lv_iconst (v := (1 : Int32)) hx hb dX0_isFull_8 (by decide) ?_
    refine lv_goto (tgt := 13) hx hb dX0_isFull_9 (by decide) ?_
    obtain rfl := re1 h
    exact zb_zret hx hb hr hlk rfl hP hS dX0_isFull_13
abbrev rm_X0_has : Room := { frames := 0, cells := 0, slots := 0, locals := 0 }
theorem hd_X0_has : yX0_has.cls = RX0 ∧ yX0_has.cls ≠ "java/lang/invoke/MethodHandle" ∧ yX0_has.cls ≠ "java/lang/invoke/VarHandle" ∧ (parseMethodDescriptor yX0_has.desc).map (fun d => d.parameters.length) = some 1 := by decide +kernel
theorem zi_X0_has_X0 : ∀ w ∈ wsX00, w ∈ wsX0_has := fun _ h => List.mem_cons_of_mem _ (List.mem_append_right _ h)
theorem zk_X0_has_0 : Cond.fieldLink RX0 42 "GroutingIsFollowed$Bath" "people" "I" ∈ wsX0_has := by decide +kernel
set_option maxHeartbeats 4000000 in
set_option maxRecDepth 100000 in
theorem zc_X0_has (l : Launch) (D : va_G) (cI : ClassId) (b0 b1 b2 b3 b4 b5 b6 : Nat) (B : BT) (v1 : Int32) (r0 : Int32) (h : zf_X0_has B v1 = some r0) : Cn l D cI yX0_has wsX0_has rm_X0_has [.ref b0, .int v1] (zb_B cI b0 b1 b2 b3 b4 b5 b6 B) (some (.int r0)) (zb_B cI b0 b1 b2 b3 b4 b5 b6 B) := by
  refine zb_ofW (cc := cX0_has) (maxL := 2) (ret := (some .boolean)) (by decide) rfl (Nat.le_of_ble_eq_true rfl) ?_
  intro p e s m args below meth c A ls hx hb hr hml hts hown hlk hK hP hD hA hl
  have hS : va_S A s.heap s.heap [] := va_S.rf
  have hl : lv_has ls 2 [(0, .ref b0), (1, .int v1)] := hl
  unfold zf_X0_has at h
  refine lv_iload_n hx hb dX0_has_0 rfl (lv_at hl 1 rfl) ?_
  refine lv_if_lt (tgt := 21) hx hb dX0_has_1 (by decide) (fun c1 => ?_) (fun c1 => ?_)
  · replace h := it_t c1 h
    refine lv_iconst (v := (0 : Int32)) hx hb dX0_has_21 (by decide) ?_
    obtain rfl := re1 h
    exact zb_zret hx hb hr hlk rfl hP hS dX0_has_22
  · replace h := it_f c1 h
    refine lv_iload_n hx hb dX0_has_4 rfl (lv_at hl 1 rfl) ?_
    refine lv_aload_n hx hb dX0_has_5 rfl (lv_at hl 0 rfl) ?_
    refine va_get (D := D) (ci := 0) (v := .int (bt_people B)) (C := RX0) (T := TX0) (N := 8) hx hb hts zi_X0_has_X0 hown hK.1 hP 0 rfl rfl 6 (by decide) (hts _ zk_X0_has_0) (fun _ h9 => h9) rfl dX0_has_6 ?_
    refine lv_icmp_ge (tgt := 21) hx hb dX0_has_9 (by decide) (fun c2 => ?_) (fun c2 => ?_)
    · replace h := it_t c2 h
      refine lv_iconst (v := (0 : Int32)) hx hb dX0_has_21 (by decide) ?_
      obtain rfl := re1 h
      exact zb_zret hx hb hr hlk rfl hP hS dX0_has_22
    · replace h := it_f c2 h
      refine lv_iload_n hx hb dX0_has_12 rfl (lv_at hl 1 rfl) ?_
      refine lv_iconst (v := (4 : Int32)) hx hb dX0_has_13 (by decide) ?_
      refine lv_icmp_ge (tgt := 21) hx hb dX0_has_14 (by decide) (fun c3 => ?_) (fun c3 => ?_)
      · replace h := it_t c3 h
        refine lv_iconst (v := (0 : Int32)) hx hb dX0_has_21 (by decide) ?_
        obtain rfl := re1 h
        exact zb_zret hx hb hr hlk rfl hP hS dX0_has_22
      · replace h := it_f c3 h
        refine lv_iconst (v := (1 : Int32)) hx hb dX0_has_17 (by decide) ?_
        refine lv_goto (tgt := 22) hx hb dX0_has_18 (by decide) ?_
        obtain rfl := re1 h
        exact zb_zret hx hb hr hlk rfl hP hS dX0_has_22
abbrev rm_X0_add : Room := { frames := 0, cells := 0, slots := 0, locals := 0 }
theorem hd_X0_add : yX0_add.cls = RX0 ∧ yX0_add.cls ≠ "java/lang/invoke/MethodHandle" ∧ yX0_add.cls ≠ "java/lang/invoke/VarHandle" ∧ (parseMethodDescriptor yX0_add.desc).map (fun d => d.parameters.length) = some 2 := by decide +kernel
theorem zi_X0_add_X0 : ∀ w ∈ wsX00, w ∈ wsX0_add := fun _ h => List.mem_cons_of_mem _ (List.mem_append_right _ h)
theorem zk_X0_add_0 : Cond.fieldLink RX0 42 "GroutingIsFollowed$Bath" "people" "I" ∈ wsX0_add := by decide +kernel
theorem zk_X0_add_1 : Cond.fieldLink RX0 21 "GroutingIsFollowed$Bath" "place" "[I" ∈ wsX0_add := by decide +kernel
theorem zk_X0_add_2 : Cond.fieldLink RX0 24 "GroutingIsFollowed$Bath" "heading" "[I" ∈ wsX0_add := by decide +kernel
theorem zk_X0_add_3 : Cond.fieldLink RX0 27 "GroutingIsFollowed$Bath" "helped" "[I" ∈ wsX0_add := by decide +kernel
set_option maxHeartbeats 4000000 in
set_option maxRecDepth 100000 in
theorem zc_X0_add (l : Launch) (D : va_G) (cI : ClassId) (b0 b1 b2 b3 b4 b5 b6 : Nat) (B : BT) (v1 : Int32) (v2 : Int32) (r0 : Int32) (w_B : BT) (h : zf_X0_add B v1 v2 = some (r0, w_B)) : Cn l D cI yX0_add wsX0_add rm_X0_add [.ref b0, .int v1, .int v2] (zb_B cI b0 b1 b2 b3 b4 b5 b6 B) (some (.int r0)) (zb_B cI b0 b1 b2 b3 b4 b5 b6 w_B) := by
  refine zb_ofW (cc := cX0_add) (maxL := 4) (ret := (some .int)) (by decide) rfl (Nat.le_of_ble_eq_true rfl) ?_
  intro p e s m args below meth c A ls hx hb hr hml hts hown hlk hK hP hD hA hl
  have hS : va_S A s.heap s.heap [] := va_S.rf
  have hl : lv_has ls 4 [(0, .ref b0), (1, .int v1), (2, .int v2)] := hl
  unfold zf_X0_add at h
  refine lv_aload_n hx hb dX0_add_0 rfl (lv_at hl 0 rfl) ?_
  refine va_get (D := D) (ci := 0) (v := .int (bt_people B)) (C := RX0) (T := TX0) (N := 8) hx hb hts zi_X0_add_X0 hown hK.1 hP 0 rfl rfl 6 (by decide) (hts _ zk_X0_add_0) (fun _ h9 => h9) rfl dX0_add_1 ?_
  refine lv_istore_n (lv' := [(3, .int (bt_people B)), (0, .ref b0), (1, .int v1), (2, .int v2)]) hx hb dX0_add_4 rfl hl (by decide) rfl (fun ls hl => ?_)
  refine lv_iload_n hx hb dX0_add_5 rfl (lv_at hl 0 rfl) ?_
  refine lv_if_lt (tgt := 14) hx hb dX0_add_6 (by decide) (fun c1 => ?_) (fun c1 => ?_)
  · replace h := it_t c1 h
    refine lv_bipush (v := ((-9) : Int32)) hx hb dX0_add_14 (by decide) ?_
    obtain ⟨rfl, rfl⟩ := re2 h
    exact zb_iret hx hb hr hlk hP hS dX0_add_16
  · replace h := it_f c1 h
    refine lv_iload_n hx hb dX0_add_9 rfl (lv_at hl 0 rfl) ?_
    refine lv_iconst (v := (4 : Int32)) hx hb dX0_add_10 (by decide) ?_
    refine lv_icmp_lt (tgt := 17) hx hb dX0_add_11 (by decide) (fun c2 => ?_) (fun c2 => ?_)
    · replace h := it_t c2 h
      refine lv_aload_n hx hb dX0_add_17 rfl (lv_at hl 1 rfl) ?_
      refine lv_dup hx hb dX0_add_18 rfl ?_
      refine va_get (D := D) (ci := 0) (v := .int (bt_people B)) (C := RX0) (T := TX0) (N := 8) hx hb hts zi_X0_add_X0 hown hK.1 hP 0 rfl rfl 6 (by decide) (hts _ zk_X0_add_0) (fun _ h9 => h9) rfl dX0_add_19 ?_
      refine lv_iconst (v := (1 : Int32)) hx hb dX0_add_22 (by decide) ?_
      refine lv_iadd hx hb dX0_add_23 ?_
      refine va_put (D := D) (ci := 0) (v := .int ((bt_people B) + (1 : Int32))) (ty := .int) (C := RX0) (T := TX0) (N := 8) hx hb hts zi_X0_add_X0 tyX0 tyX0_ok nmX0 hown hK.1 hP hD hS 0 rfl rfl 6 (by decide) (hts _ zk_X0_add_0) (fun _ h9 => h9) rfl (by decide +kernel) rfl rfl (Nat.le_of_ble_eq_true rfl) dX0_add_24 (fun H locs hP hD hS => ?_)
      have hP : va_P D zb_cl (zb_B cI b0 b1 b2 b3 b4 b5 b6 (bs_people B ((bt_people B) + (1 : Int32)))) H := hP
      have hD : va_D A (zb_B cI b0 b1 b2 b3 b4 b5 b6 (bs_people B ((bt_people B) + (1 : Int32)))) := hD
      refine lv_aload_n hx hb dX0_add_27 rfl (lv_at hl 1 rfl) ?_
      refine va_get (D := D) (ci := 0) (v := .ref b4) (C := RX0) (T := TX0) (N := 8) hx hb hts zi_X0_add_X0 hown hK.1 hP 0 rfl rfl 3 (by decide) (hts _ zk_X0_add_1) (fun _ h9 => h9) rfl dX0_add_28 ?_
      refine lv_iload_n hx hb dX0_add_31 rfl (lv_at hl 0 rfl) ?_
      refine lv_iload_n hx hb dX0_add_32 rfl (lv_at hl 2 rfl) ?_
      obtain ⟨h3, h⟩ := it_g h
      refine va_iast hx hb hK.1 hP hD hS 4 0 rfl rfl h3 dX0_add_33 (fun H locs hP hD hS => ?_)
      have hP : va_P D zb_cl (zb_B cI b0 b1 b2 b3 b4 b5 b6 (bs_place (bs_people B ((bt_people B) + (1 : Int32))) (upd (bt_place B) (bt_people B).toNatClampNeg v1))) H := hP
      have hD : va_D A (zb_B cI b0 b1 b2 b3 b4 b5 b6 (bs_place (bs_people B ((bt_people B) + (1 : Int32))) (upd (bt_place B) (bt_people B).toNatClampNeg v1))) := hD
      refine lv_aload_n hx hb dX0_add_34 rfl (lv_at hl 1 rfl) ?_
      refine va_get (D := D) (ci := 0) (v := .ref b5) (C := RX0) (T := TX0) (N := 8) hx hb hts zi_X0_add_X0 hown hK.1 hP 0 rfl rfl 4 (by decide) (hts _ zk_X0_add_2) (fun _ h9 => h9) rfl dX0_add_35 ?_
      refine lv_iload_n hx hb dX0_add_38 rfl (lv_at hl 0 rfl) ?_
      refine lv_iload_n hx hb dX0_add_39 rfl (lv_at hl 3 rfl) ?_
      obtain ⟨h4, h⟩ := it_g h
      refine va_iast hx hb hK.1 hP hD hS 5 0 rfl rfl h4 dX0_add_40 (fun H locs hP hD hS => ?_)
      have hP : va_P D zb_cl (zb_B cI b0 b1 b2 b3 b4 b5 b6 (bs_heading (bs_place (bs_people B ((bt_people B) + (1 : Int32))) (upd (bt_place B) (bt_people B).toNatClampNeg v1)) (upd (bt_heading B) (bt_people B).toNatClampNeg v2))) H := hP
      have hD : va_D A (zb_B cI b0 b1 b2 b3 b4 b5 b6 (bs_heading (bs_place (bs_people B ((bt_people B) + (1 : Int32))) (upd (bt_place B) (bt_people B).toNatClampNeg v1)) (upd (bt_heading B) (bt_people B).toNatClampNeg v2))) := hD
      refine lv_aload_n hx hb dX0_add_41 rfl (lv_at hl 1 rfl) ?_
      refine va_get (D := D) (ci := 0) (v := .ref b6) (C := RX0) (T := TX0) (N := 8) hx hb hts zi_X0_add_X0 hown hK.1 hP 0 rfl rfl 5 (by decide) (hts _ zk_X0_add_3) (fun _ h9 => h9) rfl dX0_add_42 ?_
      refine lv_iload_n hx hb dX0_add_45 rfl (lv_at hl 0 rfl) ?_
      refine lv_iconst (v := (0 : Int32)) hx hb dX0_add_46 (by decide) ?_
      obtain ⟨h5, h⟩ := it_g h
      refine va_iast hx hb hK.1 hP hD hS 6 0 rfl rfl h5 dX0_add_47 (fun H locs hP hD hS => ?_)
      have hP : va_P D zb_cl (zb_B cI b0 b1 b2 b3 b4 b5 b6 (bs_helped (bs_heading (bs_place (bs_people B ((bt_people B) + (1 : Int32))) (upd (bt_place B) (bt_people B).toNatClampNeg v1)) (upd (bt_heading B) (bt_people B).toNatClampNeg v2)) (upd (bt_helped B) (bt_people B).toNatClampNeg (0 : Int32)))) H := hP
      have hD : va_D A (zb_B cI b0 b1 b2 b3 b4 b5 b6 (bs_helped (bs_heading (bs_place (bs_people B ((bt_people B) + (1 : Int32))) (upd (bt_place B) (bt_people B).toNatClampNeg v1)) (upd (bt_heading B) (bt_people B).toNatClampNeg v2)) (upd (bt_helped B) (bt_people B).toNatClampNeg (0 : Int32)))) := hD
      refine lv_iload_n hx hb dX0_add_48 rfl (lv_at hl 0 rfl) ?_
      obtain ⟨rfl, rfl⟩ := re2 h
      exact zb_iret hx hb hr hlk hP hS dX0_add_49
    · replace h := it_f c2 h
      refine lv_bipush (v := ((-9) : Int32)) hx hb dX0_add_14 (by decide) ?_
      obtain ⟨rfl, rfl⟩ := re2 h
      exact zb_iret hx hb hr hlk hP hS dX0_add_16
abbrev rm_X0_kindOf : Room := { frames := 1, cells := 0, slots := 0, locals := 20 }
theorem hd_X0_kindOf : yX0_kindOf.cls = RX0 ∧ yX0_kindOf.cls ≠ "java/lang/invoke/MethodHandle" ∧ yX0_kindOf.cls ≠ "java/lang/invoke/VarHandle" ∧ (parseMethodDescriptor yX0_kindOf.desc).map (fun d => d.parameters.length) = some 1 := by decide +kernel
theorem zi_X0_kindOf_X0 : ∀ w ∈ wsX00, w ∈ wsX0_kindOf := fun _ h => List.mem_cons_of_mem _ (List.mem_append_right _ h)
theorem zk_X0_kindOf_0 : Cond.fieldLink RX0 9 "GroutingIsFollowed$Bath" "kind" "[I" ∈ wsX0_kindOf := by decide +kernel
theorem zk_X0_kindOf_1 : Cond.initialized RX1 ∈ wsX0_kindOf := by decide +kernel
theorem zk_X0_kindOf_2 : Cond.static yX1_isNode ∈ wsX0_kindOf := by decide +kernel
set_option maxHeartbeats 4000000 in
set_option maxRecDepth 100000 in
theorem zc_X0_kindOf (l : Launch) (D : va_G) (cI : ClassId) (b0 b1 b2 b3 b4 b5 b6 : Nat) (B : BT) (v1 : Int32) (r0 : Int32) (h : zf_X0_kindOf B v1 = some r0) : Cn l D cI yX0_kindOf wsX0_kindOf rm_X0_kindOf [.ref b0, .int v1] (zb_B cI b0 b1 b2 b3 b4 b5 b6 B) (some (.int r0)) (zb_B cI b0 b1 b2 b3 b4 b5 b6 B) := by
  refine zb_ofW (cc := cX0_kindOf) (maxL := 2) (ret := (some .int)) (by decide) rfl (Nat.le_of_ble_eq_true rfl) ?_
  intro p e s m args below meth c A ls hx hb hr hml hts hown hlk hK hP hD hA hl
  have hS : va_S A s.heap s.heap [] := va_S.rf
  have hl : lv_has ls 2 [(0, .ref b0), (1, .int v1)] := hl
  unfold zf_X0_kindOf at h
  refine lv_iload_n hx hb dX0_kindOf_0 rfl (lv_at hl 1 rfl) ?_
  obtain ⟨r1, g2, h⟩ := bo1 h
  refine zb_callSN (As := [.int v1]) (rest := []) ⟨hx, hb, hml, hown, hts⟩ (zc_X1_isNode l D cI v1 r1 g2) ⟨va_cnB 1 hts gX0_kindOf_X1_isNode_n49 rfl rfl rfl hK.2.1 (hts _ zk_X0_kindOf_1) hd_X1_isNode.2 ⟨Nat.le_of_ble_eq_true rfl, Nat.le_of_ble_eq_true rfl⟩, hts _ zk_X0_kindOf_2, trivial⟩ hK hP hD hS hA (zb_none _) rfl hl.1 rfl (Nat.le_of_ble_eq_true rfl) dX0_kindOf_1 ⟨Nat.le_refl _, Nat.le_refl _⟩ (fun H locs hP hD hS => ?_)
  refine lv_if_eq (tgt := 16) hx hb dX0_kindOf_4 (by decide) (fun c3 => ?_) (fun c3 => ?_)
  · replace h := it_t c3 h
    refine lv_iconst (v := (0 : Int32)) hx hb dX0_kindOf_16 (by decide) ?_
    obtain rfl := re1 h
    exact zb_iret hx hb hr hlk hP hS dX0_kindOf_17
  · replace h := it_f c3 h
    refine lv_aload_n hx hb dX0_kindOf_7 rfl (lv_at hl 0 rfl) ?_
    refine va_get (D := D) (ci := 0) (v := .ref b1) (C := RX0) (T := TX0) (N := 8) hx hb hts zi_X0_kindOf_X0 hown hK.1 hP 0 rfl rfl 0 (by decide) (hts _ zk_X0_kindOf_0) (fun _ h9 => h9) rfl dX0_kindOf_8 ?_
    refine lv_iload_n hx hb dX0_kindOf_11 rfl (lv_at hl 1 rfl) ?_
    obtain ⟨h4, h⟩ := it_g h
    refine va_iald hx hb hK.1 hP 1 0 rfl rfl h4 dX0_kindOf_12 ?_
    refine lv_goto (tgt := 17) hx hb dX0_kindOf_13 (by decide) ?_
    obtain rfl := re1 h
    exact zb_iret hx hb hr hlk hP hS dX0_kindOf_17
abbrev rm_X0_figureOf : Room := { frames := 1, cells := 0, slots := 0, locals := 20 }
theorem hd_X0_figureOf : yX0_figureOf.cls = RX0 ∧ yX0_figureOf.cls ≠ "java/lang/invoke/MethodHandle" ∧ yX0_figureOf.cls ≠ "java/lang/invoke/VarHandle" ∧ (parseMethodDescriptor yX0_figureOf.desc).map (fun d => d.parameters.length) = some 1 := by decide +kernel
theorem zi_X0_figureOf_X0 : ∀ w ∈ wsX00, w ∈ wsX0_figureOf := fun _ h => List.mem_cons_of_mem _ (List.mem_append_right _ h)
theorem zk_X0_figureOf_0 : Cond.fieldLink RX0 15 "GroutingIsFollowed$Bath" "figure" "[I" ∈ wsX0_figureOf := by decide +kernel
theorem zk_X0_figureOf_1 : Cond.initialized RX1 ∈ wsX0_figureOf := by decide +kernel
theorem zk_X0_figureOf_2 : Cond.static yX1_isNode ∈ wsX0_figureOf := by decide +kernel
set_option maxHeartbeats 4000000 in
set_option maxRecDepth 100000 in
theorem zc_X0_figureOf (l : Launch) (D : va_G) (cI : ClassId) (b0 b1 b2 b3 b4 b5 b6 : Nat) (B : BT) (v1 : Int32) (r0 : Int32) (h : zf_X0_figureOf B v1 = some r0) : Cn l D cI yX0_figureOf wsX0_figureOf rm_X0_figureOf [.ref b0, .int v1] (zb_B cI b0 b1 b2 b3 b4 b5 b6 B) (some (.int r0)) (zb_B cI b0 b1 b2 b3 b4 b5 b6 B) := by
  refine zb_ofW (cc := cX0_figureOf) (maxL := 2) (ret := (some .int)) (by decide) rfl (Nat.le_of_ble_eq_true rfl) ?_
  intro p e s m args below meth c A ls hx hb hr hml hts hown hlk hK hP hD hA hl
  have hS : va_S A s.heap s.heap [] := va_S.rf
  have hl : lv_has ls 2 [(0, .ref b0), (1, .int v1)] := hl
  unfold zf_X0_figureOf at h
  refine lv_iload_n hx hb dX0_figureOf_0 rfl (lv_at hl 1 rfl) ?_
  obtain ⟨r1, g2, h⟩ := bo1 h
  refine zb_callSN (As := [.int v1]) (rest := []) ⟨hx, hb, hml, hown, hts⟩ (zc_X1_isNode l D cI v1 r1 g2) ⟨va_cnB 1 hts gX0_figureOf_X1_isNode_n49 rfl rfl rfl hK.2.1 (hts _ zk_X0_figureOf_1) hd_X1_isNode.2 ⟨Nat.le_of_ble_eq_true rfl, Nat.le_of_ble_eq_true rfl⟩, hts _ zk_X0_figureOf_2, trivial⟩ hK hP hD hS hA (zb_none _) rfl hl.1 rfl (Nat.le_of_ble_eq_true rfl) dX0_figureOf_1 ⟨Nat.le_refl _, Nat.le_refl _⟩ (fun H locs hP hD hS => ?_)
  refine lv_if_eq (tgt := 16) hx hb dX0_figureOf_4 (by decide) (fun c3 => ?_) (fun c3 => ?_)
  · replace h := it_t c3 h
    refine lv_iconst (v := (0 : Int32)) hx hb dX0_figureOf_16 (by decide) ?_
    obtain rfl := re1 h
    exact zb_iret hx hb hr hlk hP hS dX0_figureOf_17
  · replace h := it_f c3 h
    refine lv_aload_n hx hb dX0_figureOf_7 rfl (lv_at hl 0 rfl) ?_
    refine va_get (D := D) (ci := 0) (v := .ref b2) (C := RX0) (T := TX0) (N := 8) hx hb hts zi_X0_figureOf_X0 hown hK.1 hP 0 rfl rfl 1 (by decide) (hts _ zk_X0_figureOf_0) (fun _ h9 => h9) rfl dX0_figureOf_8 ?_
    refine lv_iload_n hx hb dX0_figureOf_11 rfl (lv_at hl 1 rfl) ?_
    obtain ⟨h4, h⟩ := it_g h
    refine va_iald hx hb hK.1 hP 2 0 rfl rfl h4 dX0_figureOf_12 ?_
    refine lv_goto (tgt := 17) hx hb dX0_figureOf_13 (by decide) ?_
    obtain rfl := re1 h
    exact zb_iret hx hb hr hlk hP hS dX0_figureOf_17
abbrev rm_X0_wetOf : Room := { frames := 1, cells := 0, slots := 0, locals := 20 }
theorem hd_X0_wetOf : yX0_wetOf.cls = RX0 ∧ yX0_wetOf.cls ≠ "java/lang/invoke/MethodHandle" ∧ yX0_wetOf.cls ≠ "java/lang/invoke/VarHandle" ∧ (parseMethodDescriptor yX0_wetOf.desc).map (fun d => d.parameters.length) = some 1 := by decide +kernel
theorem zi_X0_wetOf_X0 : ∀ w ∈ wsX00, w ∈ wsX0_wetOf := fun _ h => List.mem_cons_of_mem _ (List.mem_append_right _ h)
theorem zk_X0_wetOf_0 : Cond.fieldLink RX0 18 "GroutingIsFollowed$Bath" "wet" "[I" ∈ wsX0_wetOf := by decide +kernel
theorem zk_X0_wetOf_1 : Cond.initialized RX1 ∈ wsX0_wetOf := by decide +kernel
theorem zk_X0_wetOf_2 : Cond.static yX1_isNode ∈ wsX0_wetOf := by decide +kernel
set_option maxHeartbeats 4000000 in
set_option maxRecDepth 100000 in
theorem zc_X0_wetOf (l : Launch) (D : va_G) (cI : ClassId) (b0 b1 b2 b3 b4 b5 b6 : Nat) (B : BT) (v1 : Int32) (r0 : Int32) (h : zf_X0_wetOf B v1 = some r0) : Cn l D cI yX0_wetOf wsX0_wetOf rm_X0_wetOf [.ref b0, .int v1] (zb_B cI b0 b1 b2 b3 b4 b5 b6 B) (some (.int r0)) (zb_B cI b0 b1 b2 b3 b4 b5 b6 B) := by
  refine zb_ofW (cc := cX0_wetOf) (maxL := 2) (ret := (some .int)) (by decide) rfl (Nat.le_of_ble_eq_true rfl) ?_
  intro p e s m args below meth c A ls hx hb hr hml hts hown hlk hK hP hD hA hl
  have hS : va_S A s.heap s.heap [] := va_S.rf
  have hl : lv_has ls 2 [(0, .ref b0), (1, .int v1)] := hl
  unfold zf_X0_wetOf at h
  refine lv_iload_n hx hb dX0_wetOf_0 rfl (lv_at hl 1 rfl) ?_
  obtain ⟨r1, g2, h⟩ := bo1 h
  refine zb_callSN (As := [.int v1]) (rest := []) ⟨hx, hb, hml, hown, hts⟩ (zc_X1_isNode l D cI v1 r1 g2) ⟨va_cnB 1 hts gX0_wetOf_X1_isNode_n49 rfl rfl rfl hK.2.1 (hts _ zk_X0_wetOf_1) hd_X1_isNode.2 ⟨Nat.le_of_ble_eq_true rfl, Nat.le_of_ble_eq_true rfl⟩, hts _ zk_X0_wetOf_2, trivial⟩ hK hP hD hS hA (zb_none _) rfl hl.1 rfl (Nat.le_of_ble_eq_true rfl) dX0_wetOf_1 ⟨Nat.le_refl _, Nat.le_refl _⟩ (fun H locs hP hD hS => ?_)
  refine lv_if_eq (tgt := 16) hx hb dX0_wetOf_4 (by decide) (fun c3 => ?_) (fun c3 => ?_)
  · replace h := it_t c3 h
    refine lv_iconst (v := (0 : Int32)) hx hb dX0_wetOf_16 (by decide) ?_
    obtain rfl := re1 h
    exact zb_iret hx hb hr hlk hP hS dX0_wetOf_17
  · replace h := it_f c3 h
    refine lv_aload_n hx hb dX0_wetOf_7 rfl (lv_at hl 0 rfl) ?_
    refine va_get (D := D) (ci := 0) (v := .ref b3) (C := RX0) (T := TX0) (N := 8) hx hb hts zi_X0_wetOf_X0 hown hK.1 hP 0 rfl rfl 2 (by decide) (hts _ zk_X0_wetOf_0) (fun _ h9 => h9) rfl dX0_wetOf_8 ?_
    refine lv_iload_n hx hb dX0_wetOf_11 rfl (lv_at hl 1 rfl) ?_
    obtain ⟨h4, h⟩ := it_g h
    refine va_iald hx hb hK.1 hP 3 0 rfl rfl h4 dX0_wetOf_12 ?_
    refine lv_goto (tgt := 17) hx hb dX0_wetOf_13 (by decide) ?_
    obtain rfl := re1 h
    exact zb_iret hx hb hr hlk hP hS dX0_wetOf_17
abbrev rm_X0_putKind : Room := { frames := 1, cells := 0, slots := 0, locals := 20 }
theorem hd_X0_putKind : yX0_putKind.cls = RX0 ∧ yX0_putKind.cls ≠ "java/lang/invoke/MethodHandle" ∧ yX0_putKind.cls ≠ "java/lang/invoke/VarHandle" ∧ (parseMethodDescriptor yX0_putKind.desc).map (fun d => d.parameters.length) = some 2 := by decide +kernel
theorem zi_X0_putKind_X0 : ∀ w ∈ wsX00, w ∈ wsX0_putKind := fun _ h => List.mem_cons_of_mem _ (List.mem_append_right _ h)
theorem zk_X0_putKind_0 : Cond.fieldLink RX0 9 "GroutingIsFollowed$Bath" "kind" "[I" ∈ wsX0_putKind := by decide +kernel
theorem zk_X0_putKind_1 : Cond.initialized RX1 ∈ wsX0_putKind := by decide +kernel
theorem zk_X0_putKind_2 : Cond.static yX1_isNode ∈ wsX0_putKind := by decide +kernel
set_option maxHeartbeats 4000000 in
set_option maxRecDepth 100000 in
theorem zc_X0_putKind (l : Launch) (D : va_G) (cI : ClassId) (b0 b1 b2 b3 b4 b5 b6 : Nat) (B : BT) (v1 : Int32) (v2 : Int32) (w_B : BT) (h : zf_X0_putKind B v1 v2 = some w_B) : Cn l D cI yX0_putKind wsX0_putKind rm_X0_putKind [.ref b0, .int v1, .int v2] (zb_B cI b0 b1 b2 b3 b4 b5 b6 B) none (zb_B cI b0 b1 b2 b3 b4 b5 b6 w_B) := by
  refine zb_ofW (cc := cX0_putKind) (maxL := 3) (ret := none) (by decide) rfl (Nat.le_of_ble_eq_true rfl) ?_
  intro p e s m args below meth c A ls hx hb hr hml hts hown hlk hK hP hD hA hl
  have hS : va_S A s.heap s.heap [] := va_S.rf
  have hl : lv_has ls 3 [(0, .ref b0), (1, .int v1), (2, .int v2)] := hl
  unfold zf_X0_putKind at h
  refine lv_iload_n hx hb dX0_putKind_0 rfl (lv_at hl 1 rfl) ?_
  obtain ⟨r1, g2, h⟩ := bo1 h
  refine zb_callSN (As := [.int v1]) (rest := []) ⟨hx, hb, hml, hown, hts⟩ (zc_X1_isNode l D cI v1 r1 g2) ⟨va_cnB 1 hts gX0_putKind_X1_isNode_n49 rfl rfl rfl hK.2.1 (hts _ zk_X0_putKind_1) hd_X1_isNode.2 ⟨Nat.le_of_ble_eq_true rfl, Nat.le_of_ble_eq_true rfl⟩, hts _ zk_X0_putKind_2, trivial⟩ hK hP hD hS hA (zb_none _) rfl hl.1 rfl (Nat.le_of_ble_eq_true rfl) dX0_putKind_1 ⟨Nat.le_refl _, Nat.le_refl _⟩ (fun H locs hP hD hS => ?_)
  refine lv_if_eq (tgt := 14) hx hb dX0_putKind_4 (by decide) (fun c3 => ?_) (fun c3 => ?_)
  · replace h := it_t c3 h
    obtain rfl := re1 h
    exact zb_vret hx hb hr hlk hP hS dX0_putKind_14
  · replace h := it_f c3 h
    refine lv_aload_n hx hb dX0_putKind_7 rfl (lv_at hl 0 rfl) ?_
    refine va_get (D := D) (ci := 0) (v := .ref b1) (C := RX0) (T := TX0) (N := 8) hx hb hts zi_X0_putKind_X0 hown hK.1 hP 0 rfl rfl 0 (by decide) (hts _ zk_X0_putKind_0) (fun _ h9 => h9) rfl dX0_putKind_8 ?_
    refine lv_iload_n hx hb dX0_putKind_11 rfl (lv_at hl 1 rfl) ?_
    refine lv_iload_n hx hb dX0_putKind_12 rfl (lv_at hl 2 rfl) ?_
    obtain ⟨h4, h⟩ := it_g h
    refine va_iast hx hb hK.1 hP hD hS 1 0 rfl rfl h4 dX0_putKind_13 (fun H locs hP hD hS => ?_)
    have hP : va_P D zb_cl (zb_B cI b0 b1 b2 b3 b4 b5 b6 (bs_kind B (upd (bt_kind B) v1.toNatClampNeg v2))) H := hP
    have hD : va_D A (zb_B cI b0 b1 b2 b3 b4 b5 b6 (bs_kind B (upd (bt_kind B) v1.toNatClampNeg v2))) := hD
    obtain rfl := re1 h
    exact zb_vret hx hb hr hlk hP hS dX0_putKind_14
abbrev rm_X0_putFigure : Room := { frames := 1, cells := 0, slots := 0, locals := 20 }
theorem hd_X0_putFigure : yX0_putFigure.cls = RX0 ∧ yX0_putFigure.cls ≠ "java/lang/invoke/MethodHandle" ∧ yX0_putFigure.cls ≠ "java/lang/invoke/VarHandle" ∧ (parseMethodDescriptor yX0_putFigure.desc).map (fun d => d.parameters.length) = some 2 := by decide +kernel
theorem zi_X0_putFigure_X0 : ∀ w ∈ wsX00, w ∈ wsX0_putFigure := fun _ h => List.mem_cons_of_mem _ (List.mem_append_right _ h)
theorem zk_X0_putFigure_0 : Cond.fieldLink RX0 15 "GroutingIsFollowed$Bath" "figure" "[I" ∈ wsX0_putFigure := by decide +kernel
theorem zk_X0_putFigure_1 : Cond.initialized RX1 ∈ wsX0_putFigure := by decide +kernel
theorem zk_X0_putFigure_2 : Cond.static yX1_isNode ∈ wsX0_putFigure := by decide +kernel
set_option maxHeartbeats 4000000 in
set_option maxRecDepth 100000 in
theorem zc_X0_putFigure (l : Launch) (D : va_G) (cI : ClassId) (b0 b1 b2 b3 b4 b5 b6 : Nat) (B : BT) (v1 : Int32) (v2 : Int32) (w_B : BT) (h : zf_X0_putFigure B v1 v2 = some w_B) : Cn l D cI yX0_putFigure wsX0_putFigure rm_X0_putFigure [.ref b0, .int v1, .int v2] (zb_B cI b0 b1 b2 b3 b4 b5 b6 B) none (zb_B cI b0 b1 b2 b3 b4 b5 b6 w_B) := by
  refine zb_ofW (cc := cX0_putFigure) (maxL := 3) (ret := none) (by decide) rfl (Nat.le_of_ble_eq_true rfl) ?_
  intro p e s m args below meth c A ls hx hb hr hml hts hown hlk hK hP hD hA hl
  have hS : va_S A s.heap s.heap [] := va_S.rf
  have hl : lv_has ls 3 [(0, .ref b0), (1, .int v1), (2, .int v2)] := hl
  unfold zf_X0_putFigure at h
  refine lv_iload_n hx hb dX0_putFigure_0 rfl (lv_at hl 1 rfl) ?_
  obtain ⟨r1, g2, h⟩ := bo1 h
  refine zb_callSN (As := [.int v1]) (rest := []) ⟨hx, hb, hml, hown, hts⟩ (zc_X1_isNode l D cI v1 r1 g2) ⟨va_cnB 1 hts gX0_putFigure_X1_isNode_n49 rfl rfl rfl hK.2.1 (hts _ zk_X0_putFigure_1) hd_X1_isNode.2 ⟨Nat.le_of_ble_eq_true rfl, Nat.le_of_ble_eq_true rfl⟩, hts _ zk_X0_putFigure_2, trivial⟩ hK hP hD hS hA (zb_none _) rfl hl.1 rfl (Nat.le_of_ble_eq_true rfl) dX0_putFigure_1 ⟨Nat.le_refl _, Nat.le_refl _⟩ (fun H locs hP hD hS => ?_)
  refine lv_if_eq (tgt := 14) hx hb dX0_putFigure_4 (by decide) (fun c3 => ?_) (fun c3 => ?_)
  · replace h := it_t c3 h
    obtain rfl := re1 h
    exact zb_vret hx hb hr hlk hP hS dX0_putFigure_14
  · replace h := it_f c3 h
    refine lv_aload_n hx hb dX0_putFigure_7 rfl (lv_at hl 0 rfl) ?_
    refine va_get (D := D) (ci := 0) (v := .ref b2) (C := RX0) (T := TX0) (N := 8) hx hb hts zi_X0_putFigure_X0 hown hK.1 hP 0 rfl rfl 1 (by decide) (hts _ zk_X0_putFigure_0) (fun _ h9 => h9) rfl dX0_putFigure_8 ?_
    refine lv_iload_n hx hb dX0_putFigure_11 rfl (lv_at hl 1 rfl) ?_
    refine lv_iload_n hx hb dX0_putFigure_12 rfl (lv_at hl 2 rfl) ?_
    obtain ⟨h4, h⟩ := it_g h
    refine va_iast hx hb hK.1 hP hD hS 2 0 rfl rfl h4 dX0_putFigure_13 (fun H locs hP hD hS => ?_)
    have hP : va_P D zb_cl (zb_B cI b0 b1 b2 b3 b4 b5 b6 (bs_figure B (upd (bt_figure B) v1.toNatClampNeg v2))) H := hP
    have hD : va_D A (zb_B cI b0 b1 b2 b3 b4 b5 b6 (bs_figure B (upd (bt_figure B) v1.toNatClampNeg v2))) := hD
    obtain rfl := re1 h
    exact zb_vret hx hb hr hlk hP hS dX0_putFigure_14
abbrev rm_X0_putWet : Room := { frames := 1, cells := 0, slots := 0, locals := 20 }
theorem hd_X0_putWet : yX0_putWet.cls = RX0 ∧ yX0_putWet.cls ≠ "java/lang/invoke/MethodHandle" ∧ yX0_putWet.cls ≠ "java/lang/invoke/VarHandle" ∧ (parseMethodDescriptor yX0_putWet.desc).map (fun d => d.parameters.length) = some 2 := by decide +kernel
theorem zi_X0_putWet_X0 : ∀ w ∈ wsX00, w ∈ wsX0_putWet := fun _ h => List.mem_cons_of_mem _ (List.mem_append_right _ h)
theorem zk_X0_putWet_0 : Cond.fieldLink RX0 18 "GroutingIsFollowed$Bath" "wet" "[I" ∈ wsX0_putWet := by decide +kernel
theorem zk_X0_putWet_1 : Cond.initialized RX1 ∈ wsX0_putWet := by decide +kernel
theorem zk_X0_putWet_2 : Cond.static yX1_isNode ∈ wsX0_putWet := by decide +kernel
set_option maxHeartbeats 4000000 in
set_option maxRecDepth 100000 in
theorem zc_X0_putWet (l : Launch) (D : va_G) (cI : ClassId) (b0 b1 b2 b3 b4 b5 b6 : Nat) (B : BT) (v1 : Int32) (v2 : Int32) (w_B : BT) (h : zf_X0_putWet B v1 v2 = some w_B) : Cn l D cI yX0_putWet wsX0_putWet rm_X0_putWet [.ref b0, .int v1, .int v2] (zb_B cI b0 b1 b2 b3 b4 b5 b6 B) none (zb_B cI b0 b1 b2 b3 b4 b5 b6 w_B) := by
  refine zb_ofW (cc := cX0_putWet) (maxL := 3) (ret := none) (by decide) rfl (Nat.le_of_ble_eq_true rfl) ?_
  intro p e s m args below meth c A ls hx hb hr hml hts hown hlk hK hP hD hA hl
  have hS : va_S A s.heap s.heap [] := va_S.rf
  have hl : lv_has ls 3 [(0, .ref b0), (1, .int v1), (2, .int v2)] := hl
  unfold zf_X0_putWet at h
  refine lv_iload_n hx hb dX0_putWet_0 rfl (lv_at hl 1 rfl) ?_
  obtain ⟨r1, g2, h⟩ := bo1 h
  refine zb_callSN (As := [.int v1]) (rest := []) ⟨hx, hb, hml, hown, hts⟩ (zc_X1_isNode l D cI v1 r1 g2) ⟨va_cnB 1 hts gX0_putWet_X1_isNode_n49 rfl rfl rfl hK.2.1 (hts _ zk_X0_putWet_1) hd_X1_isNode.2 ⟨Nat.le_of_ble_eq_true rfl, Nat.le_of_ble_eq_true rfl⟩, hts _ zk_X0_putWet_2, trivial⟩ hK hP hD hS hA (zb_none _) rfl hl.1 rfl (Nat.le_of_ble_eq_true rfl) dX0_putWet_1 ⟨Nat.le_refl _, Nat.le_refl _⟩ (fun H locs hP hD hS => ?_)
  refine lv_if_eq (tgt := 14) hx hb dX0_putWet_4 (by decide) (fun c3 => ?_) (fun c3 => ?_)
  · replace h := it_t c3 h
    obtain rfl := re1 h
    exact zb_vret hx hb hr hlk hP hS dX0_putWet_14
  · replace h := it_f c3 h
    refine lv_aload_n hx hb dX0_putWet_7 rfl (lv_at hl 0 rfl) ?_
    refine va_get (D := D) (ci := 0) (v := .ref b3) (C := RX0) (T := TX0) (N := 8) hx hb hts zi_X0_putWet_X0 hown hK.1 hP 0 rfl rfl 2 (by decide) (hts _ zk_X0_putWet_0) (fun _ h9 => h9) rfl dX0_putWet_8 ?_
    refine lv_iload_n hx hb dX0_putWet_11 rfl (lv_at hl 1 rfl) ?_
    refine lv_iload_n hx hb dX0_putWet_12 rfl (lv_at hl 2 rfl) ?_
    obtain ⟨h4, h⟩ := it_g h
    refine va_iast hx hb hK.1 hP hD hS 3 0 rfl rfl h4 dX0_putWet_13 (fun H locs hP hD hS => ?_)
    have hP : va_P D zb_cl (zb_B cI b0 b1 b2 b3 b4 b5 b6 (bs_wet B (upd (bt_wet B) v1.toNatClampNeg v2))) H := hP
    have hD : va_D A (zb_B cI b0 b1 b2 b3 b4 b5 b6 (bs_wet B (upd (bt_wet B) v1.toNatClampNeg v2))) := hD
    obtain rfl := re1 h
    exact zb_vret hx hb hr hlk hP hS dX0_putWet_14
abbrev rm_X0_placeOf : Room := { frames := 1, cells := 0, slots := 0, locals := 21 }
theorem hd_X0_placeOf : yX0_placeOf.cls = RX0 ∧ yX0_placeOf.cls ≠ "java/lang/invoke/MethodHandle" ∧ yX0_placeOf.cls ≠ "java/lang/invoke/VarHandle" ∧ (parseMethodDescriptor yX0_placeOf.desc).map (fun d => d.parameters.length) = some 1 := by decide +kernel
theorem zi_X0_placeOf_X0 : ∀ w ∈ wsX00, w ∈ wsX0_placeOf := fun _ h => List.mem_cons_of_mem _ (List.mem_append_right _ h)
theorem zk_X0_placeOf_0 : Cond.fieldLink RX0 21 "GroutingIsFollowed$Bath" "place" "[I" ∈ wsX0_placeOf := by decide +kernel
set_option maxHeartbeats 4000000 in
set_option maxRecDepth 100000 in
theorem zc_X0_placeOf (l : Launch) (D : va_G) (cI : ClassId) (b0 b1 b2 b3 b4 b5 b6 : Nat) (B : BT) (v1 : Int32) (r0 : Int32) (h : zf_X0_placeOf B v1 = some r0) : Cn l D cI yX0_placeOf wsX0_placeOf rm_X0_placeOf [.ref b0, .int v1] (zb_B cI b0 b1 b2 b3 b4 b5 b6 B) (some (.int r0)) (zb_B cI b0 b1 b2 b3 b4 b5 b6 B) := by
  refine zb_ofW (cc := cX0_placeOf) (maxL := 2) (ret := (some .int)) (by decide) rfl (Nat.le_of_ble_eq_true rfl) ?_
  intro p e s m args below meth c A ls hx hb hr hml hts hown hlk hK hP hD hA hl
  have hS : va_S A s.heap s.heap [] := va_S.rf
  have hl : lv_has ls 2 [(0, .ref b0), (1, .int v1)] := hl
  unfold zf_X0_placeOf at h
  refine lv_aload_n hx hb dX0_placeOf_0 rfl (lv_at hl 0 rfl) ?_
  refine lv_iload_n hx hb dX0_placeOf_1 rfl (lv_at hl 1 rfl) ?_
  obtain ⟨r1, g2, h⟩ := bo1 h
  refine zb_callV (As := [.int v1]) (rest := []) ⟨hx, hb, hml, hown, hts⟩ (zc_X0_has l D cI b0 b1 b2 b3 b4 b5 b6 B v1 r1 g2) (cwV 1 hts gX0_placeOf_X0_has rfl rfl rfl hd_X0_has ⟨Nat.le_of_ble_eq_true rfl, Nat.le_of_ble_eq_true rfl⟩) hK hP hD hS hA (zb_sB) (q0 := 0) rfl rfl rfl hl.1 rfl (Nat.le_of_ble_eq_true rfl) dX0_placeOf_2 ⟨Nat.le_refl _, Nat.le_refl _⟩ (fun H locs hP hD hS => ?_)
  refine lv_if_eq (tgt := 17) hx hb dX0_placeOf_5 (by decide) (fun c3 => ?_) (fun c3 => ?_)
  · replace h := it_t c3 h
    refine lv_iconst (v := (0 : Int32)) hx hb dX0_placeOf_17 (by decide) ?_
    obtain rfl := re1 h
    exact zb_iret hx hb hr hlk hP hS dX0_placeOf_18
  · replace h := it_f c3 h
    refine lv_aload_n hx hb dX0_placeOf_8 rfl (lv_at hl 0 rfl) ?_
    refine va_get (D := D) (ci := 0) (v := .ref b4) (C := RX0) (T := TX0) (N := 8) hx hb hts zi_X0_placeOf_X0 hown hK.1 hP 0 rfl rfl 3 (by decide) (hts _ zk_X0_placeOf_0) (fun _ h9 => h9) rfl dX0_placeOf_9 ?_
    refine lv_iload_n hx hb dX0_placeOf_12 rfl (lv_at hl 1 rfl) ?_
    obtain ⟨h4, h⟩ := it_g h
    refine va_iald hx hb hK.1 hP 4 0 rfl rfl h4 dX0_placeOf_13 ?_
    refine lv_goto (tgt := 18) hx hb dX0_placeOf_14 (by decide) ?_
    obtain rfl := re1 h
    exact zb_iret hx hb hr hlk hP hS dX0_placeOf_18
abbrev rm_X0_headingOf : Room := { frames := 1, cells := 0, slots := 0, locals := 21 }
theorem hd_X0_headingOf : yX0_headingOf.cls = RX0 ∧ yX0_headingOf.cls ≠ "java/lang/invoke/MethodHandle" ∧ yX0_headingOf.cls ≠ "java/lang/invoke/VarHandle" ∧ (parseMethodDescriptor yX0_headingOf.desc).map (fun d => d.parameters.length) = some 1 := by decide +kernel
theorem zi_X0_headingOf_X0 : ∀ w ∈ wsX00, w ∈ wsX0_headingOf := fun _ h => List.mem_cons_of_mem _ (List.mem_append_right _ h)
theorem zk_X0_headingOf_0 : Cond.fieldLink RX0 24 "GroutingIsFollowed$Bath" "heading" "[I" ∈ wsX0_headingOf := by decide +kernel
set_option maxHeartbeats 4000000 in
set_option maxRecDepth 100000 in
theorem zc_X0_headingOf (l : Launch) (D : va_G) (cI : ClassId) (b0 b1 b2 b3 b4 b5 b6 : Nat) (B : BT) (v1 : Int32) (r0 : Int32) (h : zf_X0_headingOf B v1 = some r0) : Cn l D cI yX0_headingOf wsX0_headingOf rm_X0_headingOf [.ref b0, .int v1] (zb_B cI b0 b1 b2 b3 b4 b5 b6 B) (some (.int r0)) (zb_B cI b0 b1 b2 b3 b4 b5 b6 B) := by
  refine zb_ofW (cc := cX0_headingOf) (maxL := 2) (ret := (some .int)) (by decide) rfl (Nat.le_of_ble_eq_true rfl) ?_
  intro p e s m args below meth c A ls hx hb hr hml hts hown hlk hK hP hD hA hl
  have hS : va_S A s.heap s.heap [] := va_S.rf
  have hl : lv_has ls 2 [(0, .ref b0), (1, .int v1)] := hl
  unfold zf_X0_headingOf at h
  refine lv_aload_n hx hb dX0_headingOf_0 rfl (lv_at hl 0 rfl) ?_
  refine lv_iload_n hx hb dX0_headingOf_1 rfl (lv_at hl 1 rfl) ?_
  obtain ⟨r1, g2, h⟩ := bo1 h
  refine zb_callV (As := [.int v1]) (rest := []) ⟨hx, hb, hml, hown, hts⟩ (zc_X0_has l D cI b0 b1 b2 b3 b4 b5 b6 B v1 r1 g2) (cwV 1 hts gX0_headingOf_X0_has rfl rfl rfl hd_X0_has ⟨Nat.le_of_ble_eq_true rfl, Nat.le_of_ble_eq_true rfl⟩) hK hP hD hS hA (zb_sB) (q0 := 0) rfl rfl rfl hl.1 rfl (Nat.le_of_ble_eq_true rfl) dX0_headingOf_2 ⟨Nat.le_refl _, Nat.le_refl _⟩ (fun H locs hP hD hS => ?_)
  refine lv_if_eq (tgt := 17) hx hb dX0_headingOf_5 (by decide) (fun c3 => ?_) (fun c3 => ?_)
  · replace h := it_t c3 h
    refine lv_iconst (v := (0 : Int32)) hx hb dX0_headingOf_17 (by decide) ?_
    obtain rfl := re1 h
    exact zb_iret hx hb hr hlk hP hS dX0_headingOf_18
  · replace h := it_f c3 h
    refine lv_aload_n hx hb dX0_headingOf_8 rfl (lv_at hl 0 rfl) ?_
    refine va_get (D := D) (ci := 0) (v := .ref b5) (C := RX0) (T := TX0) (N := 8) hx hb hts zi_X0_headingOf_X0 hown hK.1 hP 0 rfl rfl 4 (by decide) (hts _ zk_X0_headingOf_0) (fun _ h9 => h9) rfl dX0_headingOf_9 ?_
    refine lv_iload_n hx hb dX0_headingOf_12 rfl (lv_at hl 1 rfl) ?_
    obtain ⟨h4, h⟩ := it_g h
    refine va_iald hx hb hK.1 hP 5 0 rfl rfl h4 dX0_headingOf_13 ?_
    refine lv_goto (tgt := 18) hx hb dX0_headingOf_14 (by decide) ?_
    obtain rfl := re1 h
    exact zb_iret hx hb hr hlk hP hS dX0_headingOf_18
abbrev rm_X0_helpedOf : Room := { frames := 1, cells := 0, slots := 0, locals := 21 }
theorem hd_X0_helpedOf : yX0_helpedOf.cls = RX0 ∧ yX0_helpedOf.cls ≠ "java/lang/invoke/MethodHandle" ∧ yX0_helpedOf.cls ≠ "java/lang/invoke/VarHandle" ∧ (parseMethodDescriptor yX0_helpedOf.desc).map (fun d => d.parameters.length) = some 1 := by decide +kernel
theorem zi_X0_helpedOf_X0 : ∀ w ∈ wsX00, w ∈ wsX0_helpedOf := fun _ h => List.mem_cons_of_mem _ (List.mem_append_right _ h)
theorem zk_X0_helpedOf_0 : Cond.fieldLink RX0 27 "GroutingIsFollowed$Bath" "helped" "[I" ∈ wsX0_helpedOf := by decide +kernel
set_option maxHeartbeats 4000000 in
set_option maxRecDepth 100000 in
theorem zc_X0_helpedOf (l : Launch) (D : va_G) (cI : ClassId) (b0 b1 b2 b3 b4 b5 b6 : Nat) (B : BT) (v1 : Int32) (r0 : Int32) (h : zf_X0_helpedOf B v1 = some r0) : Cn l D cI yX0_helpedOf wsX0_helpedOf rm_X0_helpedOf [.ref b0, .int v1] (zb_B cI b0 b1 b2 b3 b4 b5 b6 B) (some (.int r0)) (zb_B cI b0 b1 b2 b3 b4 b5 b6 B) := by
  refine zb_ofW (cc := cX0_helpedOf) (maxL := 2) (ret := (some .int)) (by decide) rfl (Nat.le_of_ble_eq_true rfl) ?_
  intro p e s m args below meth c A ls hx hb hr hml hts hown hlk hK hP hD hA hl
  have hS : va_S A s.heap s.heap [] := va_S.rf
  have hl : lv_has ls 2 [(0, .ref b0), (1, .int v1)] := hl
  unfold zf_X0_helpedOf at h
  refine lv_aload_n hx hb dX0_helpedOf_0 rfl (lv_at hl 0 rfl) ?_
  refine lv_iload_n hx hb dX0_helpedOf_1 rfl (lv_at hl 1 rfl) ?_
  obtain ⟨r1, g2, h⟩ := bo1 h
  refine zb_callV (As := [.int v1]) (rest := []) ⟨hx, hb, hml, hown, hts⟩ (zc_X0_has l D cI b0 b1 b2 b3 b4 b5 b6 B v1 r1 g2) (cwV 1 hts gX0_helpedOf_X0_has rfl rfl rfl hd_X0_has ⟨Nat.le_of_ble_eq_true rfl, Nat.le_of_ble_eq_true rfl⟩) hK hP hD hS hA (zb_sB) (q0 := 0) rfl rfl rfl hl.1 rfl (Nat.le_of_ble_eq_true rfl) dX0_helpedOf_2 ⟨Nat.le_refl _, Nat.le_refl _⟩ (fun H locs hP hD hS => ?_)
  refine lv_if_eq (tgt := 17) hx hb dX0_helpedOf_5 (by decide) (fun c3 => ?_) (fun c3 => ?_)
  · replace h := it_t c3 h
    refine lv_iconst (v := (0 : Int32)) hx hb dX0_helpedOf_17 (by decide) ?_
    obtain rfl := re1 h
    exact zb_iret hx hb hr hlk hP hS dX0_helpedOf_18
  · replace h := it_f c3 h
    refine lv_aload_n hx hb dX0_helpedOf_8 rfl (lv_at hl 0 rfl) ?_
    refine va_get (D := D) (ci := 0) (v := .ref b6) (C := RX0) (T := TX0) (N := 8) hx hb hts zi_X0_helpedOf_X0 hown hK.1 hP 0 rfl rfl 5 (by decide) (hts _ zk_X0_helpedOf_0) (fun _ h9 => h9) rfl dX0_helpedOf_9 ?_
    refine lv_iload_n hx hb dX0_helpedOf_12 rfl (lv_at hl 1 rfl) ?_
    obtain ⟨h4, h⟩ := it_g h
    refine va_iald hx hb hK.1 hP 6 0 rfl rfl h4 dX0_helpedOf_13 ?_
    refine lv_goto (tgt := 18) hx hb dX0_helpedOf_14 (by decide) ?_
    obtain rfl := re1 h
    exact zb_iret hx hb hr hlk hP hS dX0_helpedOf_18
abbrev rm_X0_putPlace : Room := { frames := 1, cells := 0, slots := 0, locals := 21 }
theorem hd_X0_putPlace : yX0_putPlace.cls = RX0 ∧ yX0_putPlace.cls ≠ "java/lang/invoke/MethodHandle" ∧ yX0_putPlace.cls ≠ "java/lang/invoke/VarHandle" ∧ (parseMethodDescriptor yX0_putPlace.desc).map (fun d => d.parameters.length) = some 2 := by decide +kernel
theorem zi_X0_putPlace_X0 : ∀ w ∈ wsX00, w ∈ wsX0_putPlace := fun _ h => List.mem_cons_of_mem _ (List.mem_append_right _ h)
theorem zk_X0_putPlace_0 : Cond.fieldLink RX0 21 "GroutingIsFollowed$Bath" "place" "[I" ∈ wsX0_putPlace := by decide +kernel
set_option maxHeartbeats 4000000 in
set_option maxRecDepth 100000 in
theorem zc_X0_putPlace (l : Launch) (D : va_G) (cI : ClassId) (b0 b1 b2 b3 b4 b5 b6 : Nat) (B : BT) (v1 : Int32) (v2 : Int32) (w_B : BT) (h : zf_X0_putPlace B v1 v2 = some w_B) : Cn l D cI yX0_putPlace wsX0_putPlace rm_X0_putPlace [.ref b0, .int v1, .int v2] (zb_B cI b0 b1 b2 b3 b4 b5 b6 B) none (zb_B cI b0 b1 b2 b3 b4 b5 b6 w_B) := by
  refine zb_ofW (cc := cX0_putPlace) (maxL := 3) (ret := none) (by decide) rfl (Nat.le_of_ble_eq_true rfl) ?_
  intro p e s m args below meth c A ls hx hb hr hml hts hown hlk hK hP hD hA hl
  have hS : va_S A s.heap s.heap [] := va_S.rf
  have hl : lv_has ls 3 [(0, .ref b0), (1, .int v1), (2, .int v2)] := hl
  unfold zf_X0_putPlace at h
  refine lv_aload_n hx hb dX0_putPlace_0 rfl (lv_at hl 0 rfl) ?_
  refine lv_iload_n hx hb dX0_putPlace_1 rfl (lv_at hl 1 rfl) ?_
  obtain ⟨r1, g2, h⟩ := bo1 h
  refine zb_callV (As := [.int v1]) (rest := []) ⟨hx, hb, hml, hown, hts⟩ (zc_X0_has l D cI b0 b1 b2 b3 b4 b5 b6 B v1 r1 g2) (cwV 1 hts gX0_putPlace_X0_has rfl rfl rfl hd_X0_has ⟨Nat.le_of_ble_eq_true rfl, Nat.le_of_ble_eq_true rfl⟩) hK hP hD hS hA (zb_sB) (q0 := 0) rfl rfl rfl hl.1 rfl (Nat.le_of_ble_eq_true rfl) dX0_putPlace_2 ⟨Nat.le_refl _, Nat.le_refl _⟩ (fun H locs hP hD hS => ?_)
  refine lv_if_eq (tgt := 15) hx hb dX0_putPlace_5 (by decide) (fun c3 => ?_) (fun c3 => ?_)
  · replace h := it_t c3 h
    obtain rfl := re1 h
    exact zb_vret hx hb hr hlk hP hS dX0_putPlace_15
  · replace h := it_f c3 h
    refine lv_aload_n hx hb dX0_putPlace_8 rfl (lv_at hl 0 rfl) ?_
    refine va_get (D := D) (ci := 0) (v := .ref b4) (C := RX0) (T := TX0) (N := 8) hx hb hts zi_X0_putPlace_X0 hown hK.1 hP 0 rfl rfl 3 (by decide) (hts _ zk_X0_putPlace_0) (fun _ h9 => h9) rfl dX0_putPlace_9 ?_
    refine lv_iload_n hx hb dX0_putPlace_12 rfl (lv_at hl 1 rfl) ?_
    refine lv_iload_n hx hb dX0_putPlace_13 rfl (lv_at hl 2 rfl) ?_
    obtain ⟨h4, h⟩ := it_g h
    refine va_iast hx hb hK.1 hP hD hS 4 0 rfl rfl h4 dX0_putPlace_14 (fun H locs hP hD hS => ?_)
    have hP : va_P D zb_cl (zb_B cI b0 b1 b2 b3 b4 b5 b6 (bs_place B (upd (bt_place B) v1.toNatClampNeg v2))) H := hP
    have hD : va_D A (zb_B cI b0 b1 b2 b3 b4 b5 b6 (bs_place B (upd (bt_place B) v1.toNatClampNeg v2))) := hD
    obtain rfl := re1 h
    exact zb_vret hx hb hr hlk hP hS dX0_putPlace_15
abbrev rm_X0_putHeading : Room := { frames := 1, cells := 0, slots := 0, locals := 21 }
theorem hd_X0_putHeading : yX0_putHeading.cls = RX0 ∧ yX0_putHeading.cls ≠ "java/lang/invoke/MethodHandle" ∧ yX0_putHeading.cls ≠ "java/lang/invoke/VarHandle" ∧ (parseMethodDescriptor yX0_putHeading.desc).map (fun d => d.parameters.length) = some 2 := by decide +kernel
theorem zi_X0_putHeading_X0 : ∀ w ∈ wsX00, w ∈ wsX0_putHeading := fun _ h => List.mem_cons_of_mem _ (List.mem_append_right _ h)
theorem zk_X0_putHeading_0 : Cond.fieldLink RX0 24 "GroutingIsFollowed$Bath" "heading" "[I" ∈ wsX0_putHeading := by decide +kernel
set_option maxHeartbeats 4000000 in
set_option maxRecDepth 100000 in
theorem zc_X0_putHeading (l : Launch) (D : va_G) (cI : ClassId) (b0 b1 b2 b3 b4 b5 b6 : Nat) (B : BT) (v1 : Int32) (v2 : Int32) (w_B : BT) (h : zf_X0_putHeading B v1 v2 = some w_B) : Cn l D cI yX0_putHeading wsX0_putHeading rm_X0_putHeading [.ref b0, .int v1, .int v2] (zb_B cI b0 b1 b2 b3 b4 b5 b6 B) none (zb_B cI b0 b1 b2 b3 b4 b5 b6 w_B) := by
  refine zb_ofW (cc := cX0_putHeading) (maxL := 3) (ret := none) (by decide) rfl (Nat.le_of_ble_eq_true rfl) ?_
  intro p e s m args below meth c A ls hx hb hr hml hts hown hlk hK hP hD hA hl
  have hS : va_S A s.heap s.heap [] := va_S.rf
  have hl : lv_has ls 3 [(0, .ref b0), (1, .int v1), (2, .int v2)] := hl
  unfold zf_X0_putHeading at h
  refine lv_aload_n hx hb dX0_putHeading_0 rfl (lv_at hl 0 rfl) ?_
  refine lv_iload_n hx hb dX0_putHeading_1 rfl (lv_at hl 1 rfl) ?_
  obtain ⟨r1, g2, h⟩ := bo1 h
  refine zb_callV (As := [.int v1]) (rest := []) ⟨hx, hb, hml, hown, hts⟩ (zc_X0_has l D cI b0 b1 b2 b3 b4 b5 b6 B v1 r1 g2) (cwV 1 hts gX0_putHeading_X0_has rfl rfl rfl hd_X0_has ⟨Nat.le_of_ble_eq_true rfl, Nat.le_of_ble_eq_true rfl⟩) hK hP hD hS hA (zb_sB) (q0 := 0) rfl rfl rfl hl.1 rfl (Nat.le_of_ble_eq_true rfl) dX0_putHeading_2 ⟨Nat.le_refl _, Nat.le_refl _⟩ (fun H locs hP hD hS => ?_)
  refine lv_if_eq (tgt := 15) hx hb dX0_putHeading_5 (by decide) (fun c3 => ?_) (fun c3 => ?_)
  · replace h := it_t c3 h
    obtain rfl := re1 h
    exact zb_vret hx hb hr hlk hP hS dX0_putHeading_15
  · replace h := it_f c3 h
    refine lv_aload_n hx hb dX0_putHeading_8 rfl (lv_at hl 0 rfl) ?_
    refine va_get (D := D) (ci := 0) (v := .ref b5) (C := RX0) (T := TX0) (N := 8) hx hb hts zi_X0_putHeading_X0 hown hK.1 hP 0 rfl rfl 4 (by decide) (hts _ zk_X0_putHeading_0) (fun _ h9 => h9) rfl dX0_putHeading_9 ?_
    refine lv_iload_n hx hb dX0_putHeading_12 rfl (lv_at hl 1 rfl) ?_
    refine lv_iload_n hx hb dX0_putHeading_13 rfl (lv_at hl 2 rfl) ?_
    obtain ⟨h4, h⟩ := it_g h
    refine va_iast hx hb hK.1 hP hD hS 5 0 rfl rfl h4 dX0_putHeading_14 (fun H locs hP hD hS => ?_)
    have hP : va_P D zb_cl (zb_B cI b0 b1 b2 b3 b4 b5 b6 (bs_heading B (upd (bt_heading B) v1.toNatClampNeg v2))) H := hP
    have hD : va_D A (zb_B cI b0 b1 b2 b3 b4 b5 b6 (bs_heading B (upd (bt_heading B) v1.toNatClampNeg v2))) := hD
    obtain rfl := re1 h
    exact zb_vret hx hb hr hlk hP hS dX0_putHeading_15
abbrev rm_X0_ofPerson : Room := { frames := 2, cells := 0, slots := 0, locals := 42 }
theorem hd_X0_ofPerson : yX0_ofPerson.cls = RX0 ∧ yX0_ofPerson.cls ≠ "java/lang/invoke/MethodHandle" ∧ yX0_ofPerson.cls ≠ "java/lang/invoke/VarHandle" ∧ (parseMethodDescriptor yX0_ofPerson.desc).map (fun d => d.parameters.length) = some 2 := by decide +kernel
set_option maxHeartbeats 4000000 in
set_option maxRecDepth 100000 in
theorem zc_X0_ofPerson (l : Launch) (D : va_G) (cI : ClassId) (b0 b1 b2 b3 b4 b5 b6 : Nat) (B : BT) (v1 : Int32) (v2 : Int32) (r0 : Int32) (h : zf_X0_ofPerson B v1 v2 = some r0) : Cn l D cI yX0_ofPerson wsX0_ofPerson rm_X0_ofPerson [.ref b0, .int v1, .int v2] (zb_B cI b0 b1 b2 b3 b4 b5 b6 B) (some (.int r0)) (zb_B cI b0 b1 b2 b3 b4 b5 b6 B) := by
  refine zb_ofW (cc := cX0_ofPerson) (maxL := 3) (ret := (some .int)) (by decide) rfl (Nat.le_of_ble_eq_true rfl) ?_
  intro p e s m args below meth c A ls hx hb hr hml hts hown hlk hK hP hD hA hl
  have hS : va_S A s.heap s.heap [] := va_S.rf
  have hl : lv_has ls 3 [(0, .ref b0), (1, .int v1), (2, .int v2)] := hl
  unfold zf_X0_ofPerson at h
  refine lv_iload_n hx hb dX0_ofPerson_0 rfl (lv_at hl 2 rfl) ?_
  refine lv_if_ne (tgt := 10) hx hb dX0_ofPerson_1 (by decide) (fun c1 => ?_) (fun c1 => ?_)
  · replace h := it_f c1 h
    refine lv_iload_n hx hb dX0_ofPerson_10 rfl (lv_at hl 2 rfl) ?_
    refine lv_iconst (v := (1 : Int32)) hx hb dX0_ofPerson_11 (by decide) ?_
    refine lv_icmp_ne (tgt := 23) hx hb dX0_ofPerson_12 (by decide) (fun c2 => ?_) (fun c2 => ?_)
    · replace h := it_f c2 h
      refine lv_aload_n hx hb dX0_ofPerson_23 rfl (lv_at hl 0 rfl) ?_
      refine lv_iload_n hx hb dX0_ofPerson_24 rfl (lv_at hl 1 rfl) ?_
      obtain ⟨r3, g4, h⟩ := bo1 h
      refine zb_callV (As := [.int v1]) (rest := []) ⟨hx, hb, hml, hown, hts⟩ (zc_X0_helpedOf l D cI b0 b1 b2 b3 b4 b5 b6 B v1 r3 g4) (cwV 1 hts gX0_ofPerson_X0_helpedOf rfl rfl rfl hd_X0_helpedOf ⟨Nat.le_of_ble_eq_true rfl, Nat.le_of_ble_eq_true rfl⟩) hK hP hD hS hA (zb_sB) (q0 := 0) rfl rfl rfl hl.1 rfl (Nat.le_of_ble_eq_true rfl) dX0_ofPerson_25 ⟨Nat.le_refl _, Nat.le_refl _⟩ (fun H locs hP hD hS => ?_)
      obtain rfl := re1 h
      exact zb_iret hx hb hr hlk hP hS dX0_ofPerson_28
    · replace h := it_t c2 h
      refine lv_aload_n hx hb dX0_ofPerson_15 rfl (lv_at hl 0 rfl) ?_
      refine lv_iload_n hx hb dX0_ofPerson_16 rfl (lv_at hl 1 rfl) ?_
      obtain ⟨r5, g6, h⟩ := bo1 h
      refine zb_callV (As := [.int v1]) (rest := []) ⟨hx, hb, hml, hown, hts⟩ (zc_X0_headingOf l D cI b0 b1 b2 b3 b4 b5 b6 B v1 r5 g6) (cwV 1 hts gX0_ofPerson_X0_headingOf rfl rfl rfl hd_X0_headingOf ⟨Nat.le_of_ble_eq_true rfl, Nat.le_of_ble_eq_true rfl⟩) hK hP hD hS hA (zb_sB) (q0 := 0) rfl rfl rfl hl.1 rfl (Nat.le_of_ble_eq_true rfl) dX0_ofPerson_17 ⟨Nat.le_refl _, Nat.le_refl _⟩ (fun H locs hP hD hS => ?_)
      refine lv_goto (tgt := 28) hx hb dX0_ofPerson_20 (by decide) ?_
      obtain rfl := re1 h
      exact zb_iret hx hb hr hlk hP hS dX0_ofPerson_28
  · replace h := it_t c1 h
    refine lv_aload_n hx hb dX0_ofPerson_4 rfl (lv_at hl 0 rfl) ?_
    refine lv_iload_n hx hb dX0_ofPerson_5 rfl (lv_at hl 1 rfl) ?_
    obtain ⟨r7, g8, h⟩ := bo1 h
    refine zb_callV (As := [.int v1]) (rest := []) ⟨hx, hb, hml, hown, hts⟩ (zc_X0_placeOf l D cI b0 b1 b2 b3 b4 b5 b6 B v1 r7 g8) (cwV 1 hts gX0_ofPerson_X0_placeOf rfl rfl rfl hd_X0_placeOf ⟨Nat.le_of_ble_eq_true rfl, Nat.le_of_ble_eq_true rfl⟩) hK hP hD hS hA (zb_sB) (q0 := 0) rfl rfl rfl hl.1 rfl (Nat.le_of_ble_eq_true rfl) dX0_ofPerson_6 ⟨Nat.le_refl _, Nat.le_refl _⟩ (fun H locs hP hD hS => ?_)
    obtain rfl := re1 h
    exact zb_iret hx hb hr hlk hP hS dX0_ofPerson_9
abbrev rm_X0_wayBy : Room := { frames := 0, cells := 0, slots := 0, locals := 0 }
theorem hd_X0_wayBy : yX0_wayBy.cls = RX0 ∧ yX0_wayBy.cls ≠ "java/lang/invoke/MethodHandle" ∧ yX0_wayBy.cls ≠ "java/lang/invoke/VarHandle" ∧ (parseMethodDescriptor yX0_wayBy.desc).map (fun d => d.parameters.length) = some 4 := by decide +kernel
set_option maxHeartbeats 4000000 in
set_option maxRecDepth 100000 in
theorem zc_X0_wayBy (l : Launch) (D : va_G) (cI : ClassId)  (v0 : Int32) (v1 : Int32) (v2 : Int32) (v3 : Int32) (r0 : Int32) (h : zf_X0_wayBy v0 v1 v2 v3 = some r0) : Cn l D cI yX0_wayBy wsX0_wayBy rm_X0_wayBy [.int v0, .int v1, .int v2, .int v3] ([]) (some (.int r0)) ([]) := by
  refine zb_ofW (cc := cX0_wayBy) (maxL := 5) (ret := (some .int)) (by decide) rfl (Nat.le_of_ble_eq_true rfl) ?_
  intro p e s m args below meth c A ls hx hb hr hml hts hown hlk hK hP hD hA hl
  have hS : va_S A s.heap s.heap [] := va_S.rf
  have hl : lv_has ls 5 [(0, .int v0), (1, .int v1), (2, .int v2), (3, .int v3)] := hl
  unfold zf_X0_wayBy at h
  refine lv_iload_n hx hb dX0_wayBy_0 rfl (lv_at hl 2 rfl) ?_
  refine lv_iconst (v := (3 : Int32)) hx hb dX0_wayBy_1 (by decide) ?_
  refine lv_iadd hx hb dX0_wayBy_2 ?_
  refine lv_iconst (v := (4 : Int32)) hx hb dX0_wayBy_3 (by decide) ?_
  refine lv_irem hx hb dX0_wayBy_4 (by decide) ?_
  refine lv_istore (lv' := [(4, .int (jr (v2 + (3 : Int32)) (4 : Int32))), (0, .int v0), (1, .int v1), (2, .int v2), (3, .int v3)]) hx hb dX0_wayBy_5 hl (by decide) rfl (fun ls hl => ?_)
  refine lv_iload_n hx hb dX0_wayBy_7 rfl (lv_at hl 1 rfl) ?_
  by_cases c1 : v0 = (1 : Int32)
  · replace h := it_t c1 h
    have e9 : v0.toInt = 1 := by rw [c1]; rfl
    refine lv_tableIn (tgt := 44) hx hb dX0_wayBy_8 (by rw [e9]; decide) (by rw [e9]; decide) (by rw [e9]; rfl) (by decide) ?_
    refine lv_iload hx hb dX0_wayBy_44 (lv_at hl 0 rfl) ?_
    obtain rfl := re1 h
    exact zb_iret hx hb hr hlk hP hS dX0_wayBy_46
  replace h := it_f c1 h
  by_cases c2 : v0 = (2 : Int32)
  · replace h := it_t c2 h
    have e9 : v0.toInt = 2 := by rw [c2]; rfl
    refine lv_tableIn (tgt := 47) hx hb dX0_wayBy_8 (by rw [e9]; decide) (by rw [e9]; decide) (by rw [e9]; rfl) (by decide) ?_
    refine lv_iload hx hb dX0_wayBy_47 (lv_at hl 0 rfl) ?_
    refine lv_iconst (v := (2 : Int32)) hx hb dX0_wayBy_49 (by decide) ?_
    refine lv_iadd hx hb dX0_wayBy_50 ?_
    refine lv_iconst (v := (4 : Int32)) hx hb dX0_wayBy_51 (by decide) ?_
    refine lv_irem hx hb dX0_wayBy_52 (by decide) ?_
    obtain rfl := re1 h
    exact zb_iret hx hb hr hlk hP hS dX0_wayBy_53
  replace h := it_f c2 h
  by_cases c3 : v0 = (3 : Int32)
  · replace h := it_t c3 h
    have e9 : v0.toInt = 3 := by rw [c3]; rfl
    refine lv_tableIn (tgt := 54) hx hb dX0_wayBy_8 (by rw [e9]; decide) (by rw [e9]; decide) (by rw [e9]; rfl) (by decide) ?_
    refine lv_iload_n hx hb dX0_wayBy_54 rfl (lv_at hl 4 rfl) ?_
    refine lv_iconst (v := (4 : Int32)) hx hb dX0_wayBy_55 (by decide) ?_
    refine lv_irem hx hb dX0_wayBy_56 (by decide) ?_
    refine lv_if_ne (tgt := 66) hx hb dX0_wayBy_57 (by decide) (fun c4 => ?_) (fun c4 => ?_)
    · replace h := it_f c4 h
      refine lv_iload_n hx hb dX0_wayBy_66 rfl (lv_at hl 3 rfl) ?_
      obtain rfl := re1 h
      exact zb_iret hx hb hr hlk hP hS dX0_wayBy_67
    · replace h := it_t c4 h
      refine lv_iload_n hx hb dX0_wayBy_60 rfl (lv_at hl 2 rfl) ?_
      refine lv_iconst (v := (4 : Int32)) hx hb dX0_wayBy_61 (by decide) ?_
      refine lv_irem hx hb dX0_wayBy_62 (by decide) ?_
      refine lv_goto (tgt := 67) hx hb dX0_wayBy_63 (by decide) ?_
      obtain rfl := re1 h
      exact zb_iret hx hb hr hlk hP hS dX0_wayBy_67
  replace h := it_f c3 h
  by_cases c5 : v0 = (4 : Int32)
  · replace h := it_t c5 h
    have e9 : v0.toInt = 4 := by rw [c5]; rfl
    refine lv_tableIn (tgt := 68) hx hb dX0_wayBy_8 (by rw [e9]; decide) (by rw [e9]; decide) (by rw [e9]; rfl) (by decide) ?_
    refine lv_iload_n hx hb dX0_wayBy_68 rfl (lv_at hl 4 rfl) ?_
    refine lv_iconst (v := (2 : Int32)) hx hb dX0_wayBy_69 (by decide) ?_
    refine lv_irem hx hb dX0_wayBy_70 (by decide) ?_
    refine lv_iconst (v := (1 : Int32)) hx hb dX0_wayBy_71 (by decide) ?_
    refine lv_icmp_ne (tgt := 80) hx hb dX0_wayBy_72 (by decide) (fun c6 => ?_) (fun c6 => ?_)
    · replace h := it_f c6 h
      refine lv_iload_n hx hb dX0_wayBy_80 rfl (lv_at hl 3 rfl) ?_
      obtain rfl := re1 h
      exact zb_iret hx hb hr hlk hP hS dX0_wayBy_81
    · replace h := it_t c6 h
      refine lv_iload hx hb dX0_wayBy_75 (lv_at hl 0 rfl) ?_
      refine lv_goto (tgt := 81) hx hb dX0_wayBy_77 (by decide) ?_
      obtain rfl := re1 h
      exact zb_iret hx hb hr hlk hP hS dX0_wayBy_81
  replace h := it_f c5 h
  by_cases c7 : v0 = (5 : Int32)
  · replace h := it_t c7 h
    have e9 : v0.toInt = 5 := by rw [c7]; rfl
    refine lv_tableIn (tgt := 82) hx hb dX0_wayBy_8 (by rw [e9]; decide) (by rw [e9]; decide) (by rw [e9]; rfl) (by decide) ?_
    refine lv_iload_n hx hb dX0_wayBy_82 rfl (lv_at hl 3 rfl) ?_
    refine lv_iconst (v := (2 : Int32)) hx hb dX0_wayBy_83 (by decide) ?_
    refine lv_iadd hx hb dX0_wayBy_84 ?_
    refine lv_iconst (v := (4 : Int32)) hx hb dX0_wayBy_85 (by decide) ?_
    refine lv_irem hx hb dX0_wayBy_86 (by decide) ?_
    obtain rfl := re1 h
    exact zb_iret hx hb hr hlk hP hS dX0_wayBy_87
  replace h := it_f c7 h
  have e_c1 := sw_ne (k := 1) rfl c1
  have e_c2 := sw_ne (k := 2) rfl c2
  have e_c3 := sw_ne (k := 3) rfl c3
  have e_c5 := sw_ne (k := 4) rfl c5
  have e_c7 := sw_ne (k := 5) rfl c7
  refine lv_tableOut (tgt := 88) hx hb dX0_wayBy_8 (by omega) (by decide) ?_
  refine lv_iload_n hx hb dX0_wayBy_88 rfl (lv_at hl 3 rfl) ?_
  obtain rfl := re1 h
  exact zb_iret hx hb hr hlk hP hS dX0_wayBy_89
abbrev rm_X0_wayNext : Room := { frames := 2, cells := 0, slots := 0, locals := 42 }
theorem hd_X0_wayNext : yX0_wayNext.cls = RX0 ∧ yX0_wayNext.cls ≠ "java/lang/invoke/MethodHandle" ∧ yX0_wayNext.cls ≠ "java/lang/invoke/VarHandle" ∧ (parseMethodDescriptor yX0_wayNext.desc).map (fun d => d.parameters.length) = some 1 := by decide +kernel
theorem zi_X0_wayNext_X0 : ∀ w ∈ wsX00, w ∈ wsX0_wayNext := fun _ h => List.mem_cons_of_mem _ (List.mem_append_right _ h)
theorem zk_X0_wayNext_0 : Cond.fieldLink RX0 46 "GroutingIsFollowed$Bath" "step" "I" ∈ wsX0_wayNext := by decide +kernel
set_option maxHeartbeats 4000000 in
set_option maxRecDepth 100000 in
theorem zc_X0_wayNext (l : Launch) (D : va_G) (cI : ClassId) (b0 b1 b2 b3 b4 b5 b6 : Nat) (B : BT) (v1 : Int32) (r0 : Int32) (h : zf_X0_wayNext B v1 = some r0) : Cn l D cI yX0_wayNext wsX0_wayNext rm_X0_wayNext [.ref b0, .int v1] (zb_B cI b0 b1 b2 b3 b4 b5 b6 B) (some (.int r0)) (zb_B cI b0 b1 b2 b3 b4 b5 b6 B) := by
  refine zb_ofW (cc := cX0_wayNext) (maxL := 3) (ret := (some .int)) (by decide) rfl (Nat.le_of_ble_eq_true rfl) ?_
  intro p e s m args below meth c A ls hx hb hr hml hts hown hlk hK hP hD hA hl
  have hS : va_S A s.heap s.heap [] := va_S.rf
  have hl : lv_has ls 3 [(0, .ref b0), (1, .int v1)] := hl
  unfold zf_X0_wayNext at h
  refine lv_aload_n hx hb dX0_wayNext_0 rfl (lv_at hl 0 rfl) ?_
  refine lv_iload_n hx hb dX0_wayNext_1 rfl (lv_at hl 1 rfl) ?_
  obtain ⟨r1, g2, h⟩ := bo1 h
  refine zb_callV (As := [.int v1]) (rest := []) ⟨hx, hb, hml, hown, hts⟩ (zc_X0_placeOf l D cI b0 b1 b2 b3 b4 b5 b6 B v1 r1 g2) (cwV 1 hts gX0_wayNext_X0_placeOf rfl rfl rfl hd_X0_placeOf ⟨Nat.le_of_ble_eq_true rfl, Nat.le_of_ble_eq_true rfl⟩) hK hP hD hS hA (zb_sB) (q0 := 0) rfl rfl rfl hl.1 rfl (Nat.le_of_ble_eq_true rfl) dX0_wayNext_2 ⟨Nat.le_refl _, Nat.le_refl _⟩ (fun H locs hP hD hS => ?_)
  refine lv_istore_n (lv' := [(2, .int r1), (0, .ref b0), (1, .int v1)]) hx hb dX0_wayNext_5 rfl hl (by decide) rfl (fun ls hl => ?_)
  refine lv_aload_n hx hb dX0_wayNext_6 rfl (lv_at hl 1 rfl) ?_
  refine lv_iload_n hx hb dX0_wayNext_7 rfl (lv_at hl 0 rfl) ?_
  obtain ⟨r3, g4, h⟩ := bo1 h
  refine zb_callV (As := [.int r1]) (rest := []) ⟨hx, hb, hml, hown, hts⟩ (zc_X0_wetOf l D cI b0 b1 b2 b3 b4 b5 b6 B r1 r3 g4) (cwV 1 hts gX0_wayNext_X0_wetOf rfl rfl rfl hd_X0_wetOf ⟨Nat.le_of_ble_eq_true rfl, Nat.le_of_ble_eq_true rfl⟩) hK hP hD hS hA (zb_sB) (q0 := 0) rfl rfl rfl hl.1 rfl (Nat.le_of_ble_eq_true rfl) dX0_wayNext_8 ⟨Nat.le_refl _, Nat.le_refl _⟩ (fun H locs hP hD hS => ?_)
  refine lv_if_ne (tgt := 17) hx hb dX0_wayNext_11 (by decide) (fun c5 => ?_) (fun c5 => ?_)
  · replace h := it_f c5 h
    refine lv_aload_n hx hb dX0_wayNext_17 rfl (lv_at hl 1 rfl) ?_
    refine lv_iload_n hx hb dX0_wayNext_18 rfl (lv_at hl 0 rfl) ?_
    obtain ⟨r6, g7, h⟩ := bo1 h
    refine zb_callV (As := [.int r1]) (rest := []) ⟨hx, hb, hml, hown, hts⟩ (zc_X0_kindOf l D cI b0 b1 b2 b3 b4 b5 b6 B r1 r6 g7) (cwV 1 hts gX0_wayNext_X0_kindOf rfl rfl rfl hd_X0_kindOf ⟨Nat.le_of_ble_eq_true rfl, Nat.le_of_ble_eq_true rfl⟩) hK hP hD hS hA (zb_sB) (q0 := 0) rfl rfl rfl hl.1 rfl (Nat.le_of_ble_eq_true rfl) dX0_wayNext_19 ⟨Nat.le_refl _, Nat.le_refl _⟩ (fun H locs hP hD hS => ?_)
    refine lv_aload_n hx hb dX0_wayNext_22 rfl (lv_at hl 1 rfl) ?_
    refine lv_iload_n hx hb dX0_wayNext_23 rfl (lv_at hl 0 rfl) ?_
    obtain ⟨r8, g9, h⟩ := bo1 h
    refine zb_callV (As := [.int r1]) (rest := [.int r6]) ⟨hx, hb, hml, hown, hts⟩ (zc_X0_figureOf l D cI b0 b1 b2 b3 b4 b5 b6 B r1 r8 g9) (cwV 1 hts gX0_wayNext_X0_figureOf rfl rfl rfl hd_X0_figureOf ⟨Nat.le_of_ble_eq_true rfl, Nat.le_of_ble_eq_true rfl⟩) hK hP hD hS hA (zb_sB) (q0 := 0) rfl rfl rfl hl.1 rfl (Nat.le_of_ble_eq_true rfl) dX0_wayNext_24 ⟨Nat.le_refl _, Nat.le_refl _⟩ (fun H locs hP hD hS => ?_)
    refine lv_aload_n hx hb dX0_wayNext_27 rfl (lv_at hl 1 rfl) ?_
    refine lv_iload_n hx hb dX0_wayNext_28 rfl (lv_at hl 2 rfl) ?_
    obtain ⟨r10, g11, h⟩ := bo1 h
    refine zb_callV (As := [.int v1]) (rest := [.int r8, .int r6]) ⟨hx, hb, hml, hown, hts⟩ (zc_X0_headingOf l D cI b0 b1 b2 b3 b4 b5 b6 B v1 r10 g11) (cwV 1 hts gX0_wayNext_X0_headingOf rfl rfl rfl hd_X0_headingOf ⟨Nat.le_of_ble_eq_true rfl, Nat.le_of_ble_eq_true rfl⟩) hK hP hD hS hA (zb_sB) (q0 := 0) rfl rfl rfl hl.1 rfl (Nat.le_of_ble_eq_true rfl) dX0_wayNext_29 ⟨Nat.le_refl _, Nat.le_refl _⟩ (fun H locs hP hD hS => ?_)
    refine lv_aload_n hx hb dX0_wayNext_32 rfl (lv_at hl 1 rfl) ?_
    refine va_get (D := D) (ci := 0) (v := .int (bt_step B)) (C := RX0) (T := TX0) (N := 8) hx hb hts zi_X0_wayNext_X0 hown hK.1 hP 0 rfl rfl 7 (by decide) (hts _ zk_X0_wayNext_0) (fun _ h9 => h9) rfl dX0_wayNext_33 ?_
    refine lv_iconst (v := (1 : Int32)) hx hb dX0_wayNext_36 (by decide) ?_
    refine lv_iadd hx hb dX0_wayNext_37 ?_
    obtain ⟨r12, g13, h⟩ := bo1 h
    refine zb_callS (As := [.int r6, .int r8, .int r10, .int ((bt_step B) + (1 : Int32))]) (rest := []) ⟨hx, hb, hml, hown, hts⟩ (zc_X0_wayBy l D cI r6 r8 r10 ((bt_step B) + (1 : Int32)) r12 g13) (va_cwS 4 hts gX0_wayNext_X0_wayBy rfl rfl rfl hd_X0_wayBy.2 ⟨Nat.le_of_ble_eq_true rfl, Nat.le_of_ble_eq_true rfl⟩) hK hP hD hS hA (zb_none _) rfl hl.1 rfl (Nat.le_of_ble_eq_true rfl) dX0_wayNext_38 ⟨Nat.le_refl _, Nat.le_refl _⟩ (fun H locs hP hD hS => ?_)
    obtain rfl := re1 h
    exact zb_iret hx hb hr hlk hP hS dX0_wayNext_41
  · replace h := it_t c5 h
    refine lv_bipush (v := ((-9) : Int32)) hx hb dX0_wayNext_14 (by decide) ?_
    obtain rfl := re1 h
    exact zb_iret hx hb hr hlk hP hS dX0_wayNext_16
abbrev rm_X0_follow : Room := { frames := 1, cells := 0, slots := 0, locals := 24 }
theorem hd_X0_follow : yX0_follow.cls = RX0 ∧ yX0_follow.cls ≠ "java/lang/invoke/MethodHandle" ∧ yX0_follow.cls ≠ "java/lang/invoke/VarHandle" ∧ (parseMethodDescriptor yX0_follow.desc).map (fun d => d.parameters.length) = some 1 := by decide +kernel
theorem zi_X0_follow_X0 : ∀ w ∈ wsX00, w ∈ wsX0_follow := fun _ h => List.mem_cons_of_mem _ (List.mem_append_right _ h)
theorem zk_X0_follow_0 : Cond.fieldLink RX0 21 "GroutingIsFollowed$Bath" "place" "[I" ∈ wsX0_follow := by decide +kernel
theorem zk_X0_follow_1 : Cond.fieldLink RX0 18 "GroutingIsFollowed$Bath" "wet" "[I" ∈ wsX0_follow := by decide +kernel
theorem zk_X0_follow_2 : Cond.fieldLink RX0 9 "GroutingIsFollowed$Bath" "kind" "[I" ∈ wsX0_follow := by decide +kernel
theorem zk_X0_follow_3 : Cond.fieldLink RX0 15 "GroutingIsFollowed$Bath" "figure" "[I" ∈ wsX0_follow := by decide +kernel
theorem zk_X0_follow_4 : Cond.fieldLink RX0 24 "GroutingIsFollowed$Bath" "heading" "[I" ∈ wsX0_follow := by decide +kernel
theorem zk_X0_follow_5 : Cond.fieldLink RX0 46 "GroutingIsFollowed$Bath" "step" "I" ∈ wsX0_follow := by decide +kernel
theorem zk_X0_follow_6 : Cond.fieldLink RX0 27 "GroutingIsFollowed$Bath" "helped" "[I" ∈ wsX0_follow := by decide +kernel
theorem zk_X0_follow_7 : Cond.methodLink RX0 87 Lib.Math.min.name ∈ wsX0_follow := by decide +kernel
theorem zk_X0_follow_8 : Cond.static Lib.Math.min.name ∈ wsX0_follow := by decide +kernel
theorem zk_X0_follow_9 : Cond.initialized "java/lang/Math" ∈ wsX0_follow := by decide +kernel
theorem zk_X0_follow_10 : Cond.code Lib.Math.min.name Lib.Math.min.code 2 (some .int) ∈ wsX0_follow := by decide +kernel
theorem zk_X0_follow_11 : Cond.initialized RX1 ∈ wsX0_follow := by decide +kernel
theorem zk_X0_follow_12 : Cond.static yX1_isNode ∈ wsX0_follow := by decide +kernel
theorem zk_X0_follow_13 : Cond.static yX1_nodeThatWay ∈ wsX0_follow := by decide +kernel
set_option maxHeartbeats 4000000 in
set_option maxRecDepth 100000 in
theorem zc_X0_follow (l : Launch) (D : va_G) (cI : ClassId) (b0 b1 b2 b3 b4 b5 b6 : Nat) (B : BT) (v1 : Int32) (w_B : BT) (h : zf_X0_follow B v1 = some w_B) : Cn l D cI yX0_follow wsX0_follow rm_X0_follow [.ref b0, .int v1] (zb_B cI b0 b1 b2 b3 b4 b5 b6 B) none (zb_B cI b0 b1 b2 b3 b4 b5 b6 w_B) := by
  refine zb_ofW (cc := cX0_follow) (maxL := 5) (ret := none) (by decide) rfl (Nat.le_of_ble_eq_true rfl) ?_
  intro p e s m args below meth c A ls hx hb hr hml hts hown hlk hK hP hD hA hl
  have hS : va_S A s.heap s.heap [] := va_S.rf
  have hl : lv_has ls 5 [(0, .ref b0), (1, .int v1)] := hl
  unfold zf_X0_follow at h
  refine lv_aload_n hx hb dX0_follow_0 rfl (lv_at hl 0 rfl) ?_
  refine lv_iload_n hx hb dX0_follow_1 rfl (lv_at hl 1 rfl) ?_
  obtain ⟨r1, g2, h⟩ := bo1 h
  refine zb_callV (As := [.int v1]) (rest := []) ⟨hx, hb, hml, hown, hts⟩ (zc_X0_has l D cI b0 b1 b2 b3 b4 b5 b6 B v1 r1 g2) (cwV 1 hts gX0_follow_X0_has rfl rfl rfl hd_X0_has ⟨Nat.le_of_ble_eq_true rfl, Nat.le_of_ble_eq_true rfl⟩) hK hP hD hS hA (zb_sB) (q0 := 0) rfl rfl rfl hl.1 rfl (Nat.le_of_ble_eq_true rfl) dX0_follow_2 ⟨Nat.le_refl _, Nat.le_refl _⟩ (fun H locs hP hD hS => ?_)
  refine lv_if_ne (tgt := 9) hx hb dX0_follow_5 (by decide) (fun c3 => ?_) (fun c3 => ?_)
  · replace h := it_f c3 h
    refine lv_aload_n hx hb dX0_follow_9 rfl (lv_at hl 0 rfl) ?_
    refine va_get (D := D) (ci := 0) (v := .ref b4) (C := RX0) (T := TX0) (N := 8) hx hb hts zi_X0_follow_X0 hown hK.1 hP 0 rfl rfl 3 (by decide) (hts _ zk_X0_follow_0) (fun _ h9 => h9) rfl dX0_follow_10 ?_
    refine lv_iload_n hx hb dX0_follow_13 rfl (lv_at hl 1 rfl) ?_
    obtain ⟨h4, h⟩ := it_g h
    refine va_iald hx hb hK.1 hP 4 0 rfl rfl h4 dX0_follow_14 ?_
    refine lv_istore_n (lv' := [(2, .int ((bt_place B) v1.toNatClampNeg)), (0, .ref b0), (1, .int v1)]) hx hb dX0_follow_15 rfl hl (by decide) rfl (fun ls hl => ?_)
    refine lv_iload_n hx hb dX0_follow_16 rfl (lv_at hl 0 rfl) ?_
    obtain ⟨r5, g6, h⟩ := bo1 h
    refine zb_callSN (As := [.int ((bt_place B) v1.toNatClampNeg)]) (rest := []) ⟨hx, hb, hml, hown, hts⟩ (zc_X1_isNode l D cI ((bt_place B) v1.toNatClampNeg) r5 g6) ⟨va_cnB 1 hts gX0_follow_X1_isNode_n49 rfl rfl rfl hK.2.1 (hts _ zk_X0_follow_11) hd_X1_isNode.2 ⟨Nat.le_of_ble_eq_true rfl, Nat.le_of_ble_eq_true rfl⟩, hts _ zk_X0_follow_12, trivial⟩ hK hP hD hS hA (zb_none _) rfl hl.1 rfl (Nat.le_of_ble_eq_true rfl) dX0_follow_17 ⟨Nat.le_refl _, Nat.le_refl _⟩ (fun H locs hP hD hS => ?_)
    refine lv_if_eq (tgt := 32) hx hb dX0_follow_20 (by decide) (fun c7 => ?_) (fun c7 => ?_)
    · replace h := it_t c7 h
      obtain rfl := re1 h
      exact zb_vret hx hb hr hlk hP hS dX0_follow_32
    · replace h := it_f c7 h
      refine lv_aload_n hx hb dX0_follow_23 rfl (lv_at hl 1 rfl) ?_
      refine va_get (D := D) (ci := 0) (v := .ref b3) (C := RX0) (T := TX0) (N := 8) hx hb hts zi_X0_follow_X0 hown hK.1 hP 0 rfl rfl 2 (by decide) (hts _ zk_X0_follow_1) (fun _ h9 => h9) rfl dX0_follow_24 ?_
      refine lv_iload_n hx hb dX0_follow_27 rfl (lv_at hl 0 rfl) ?_
      obtain ⟨h8, h⟩ := it_g h
      refine va_iald hx hb hK.1 hP 3 0 rfl rfl h8 dX0_follow_28 ?_
      refine lv_if_ne (tgt := 33) hx hb dX0_follow_29 (by decide) (fun c9 => ?_) (fun c9 => ?_)
      · replace h := it_f c9 h
        refine lv_aload_n hx hb dX0_follow_33 rfl (lv_at hl 1 rfl) ?_
        refine va_get (D := D) (ci := 0) (v := .ref b1) (C := RX0) (T := TX0) (N := 8) hx hb hts zi_X0_follow_X0 hown hK.1 hP 0 rfl rfl 0 (by decide) (hts _ zk_X0_follow_2) (fun _ h9 => h9) rfl dX0_follow_34 ?_
        refine lv_iload_n hx hb dX0_follow_37 rfl (lv_at hl 0 rfl) ?_
        obtain ⟨h10, h⟩ := it_g h
        refine va_iald hx hb hK.1 hP 1 0 rfl rfl h10 dX0_follow_38 ?_
        refine lv_aload_n hx hb dX0_follow_39 rfl (lv_at hl 1 rfl) ?_
        refine va_get (D := D) (ci := 0) (v := .ref b2) (C := RX0) (T := TX0) (N := 8) hx hb hts zi_X0_follow_X0 hown hK.1 hP 0 rfl rfl 1 (by decide) (hts _ zk_X0_follow_3) (fun _ h9 => h9) rfl dX0_follow_40 ?_
        refine lv_iload_n hx hb dX0_follow_43 rfl (lv_at hl 0 rfl) ?_
        obtain ⟨h11, h⟩ := it_g h
        refine va_iald hx hb hK.1 hP 2 0 rfl rfl h11 dX0_follow_44 ?_
        refine lv_aload_n hx hb dX0_follow_45 rfl (lv_at hl 1 rfl) ?_
        refine va_get (D := D) (ci := 0) (v := .ref b5) (C := RX0) (T := TX0) (N := 8) hx hb hts zi_X0_follow_X0 hown hK.1 hP 0 rfl rfl 4 (by decide) (hts _ zk_X0_follow_4) (fun _ h9 => h9) rfl dX0_follow_46 ?_
        refine lv_iload_n hx hb dX0_follow_49 rfl (lv_at hl 2 rfl) ?_
        obtain ⟨h12, h⟩ := it_g h
        refine va_iald hx hb hK.1 hP 5 0 rfl rfl h12 dX0_follow_50 ?_
        refine lv_aload_n hx hb dX0_follow_51 rfl (lv_at hl 1 rfl) ?_
        refine va_get (D := D) (ci := 0) (v := .int (bt_step B)) (C := RX0) (T := TX0) (N := 8) hx hb hts zi_X0_follow_X0 hown hK.1 hP 0 rfl rfl 7 (by decide) (hts _ zk_X0_follow_5) (fun _ h9 => h9) rfl dX0_follow_52 ?_
        obtain ⟨r13, g14, h⟩ := bo1 h
        refine zb_callS (As := [.int ((bt_kind B) ((bt_place B) v1.toNatClampNeg).toNatClampNeg), .int ((bt_figure B) ((bt_place B) v1.toNatClampNeg).toNatClampNeg), .int ((bt_heading B) v1.toNatClampNeg), .int (bt_step B)]) (rest := []) ⟨hx, hb, hml, hown, hts⟩ (zc_X0_wayBy l D cI ((bt_kind B) ((bt_place B) v1.toNatClampNeg).toNatClampNeg) ((bt_figure B) ((bt_place B) v1.toNatClampNeg).toNatClampNeg) ((bt_heading B) v1.toNatClampNeg) (bt_step B) r13 g14) (va_cwS 4 hts gX0_follow_X0_wayBy rfl rfl rfl hd_X0_wayBy.2 ⟨Nat.le_of_ble_eq_true rfl, Nat.le_of_ble_eq_true rfl⟩) hK hP hD hS hA (zb_none _) rfl hl.1 rfl (Nat.le_of_ble_eq_true rfl) dX0_follow_55 ⟨Nat.le_refl _, Nat.le_refl _⟩ (fun H locs hP hD hS => ?_)
        refine lv_istore_n (lv' := [(3, .int r13), (2, .int ((bt_place B) v1.toNatClampNeg)), (0, .ref b0), (1, .int v1)]) hx hb dX0_follow_58 rfl hl (by decide) rfl (fun ls hl => ?_)
        refine lv_iload_n hx hb dX0_follow_59 rfl (lv_at hl 1 rfl) ?_
        refine lv_iload_n hx hb dX0_follow_60 rfl (lv_at hl 0 rfl) ?_
        obtain ⟨r15, g16, h⟩ := bo1 h
        refine zb_callSN (As := [.int ((bt_place B) v1.toNatClampNeg), .int r13]) (rest := []) ⟨hx, hb, hml, hown, hts⟩ (zc_X1_nodeThatWay l D cI ((bt_place B) v1.toNatClampNeg) r13 r15 g16) ⟨va_cnB 2 hts gX0_follow_X1_nodeThatWay_n83 rfl rfl rfl hK.2.2 (hts _ zk_X0_follow_11) hd_X1_nodeThatWay.2 ⟨Nat.le_of_ble_eq_true rfl, Nat.le_of_ble_eq_true rfl⟩, hts _ zk_X0_follow_13, trivial⟩ hK hP hD hS hA (zb_none _) rfl hl.1 rfl (Nat.le_of_ble_eq_true rfl) dX0_follow_61 ⟨Nat.le_refl _, Nat.le_refl _⟩ (fun H locs hP hD hS => ?_)
        refine lv_istore (lv' := [(4, .int r15), (3, .int r13), (2, .int ((bt_place B) v1.toNatClampNeg)), (0, .ref b0), (1, .int v1)]) hx hb dX0_follow_64 hl (by decide) rfl (fun ls hl => ?_)
        refine lv_iload hx hb dX0_follow_66 (lv_at hl 0 rfl) ?_
        refine lv_if_ge (tgt := 104) hx hb dX0_follow_68 (by decide) (fun c17 => ?_) (fun c17 => ?_)
        · replace h := it_t c17 h
          refine lv_aload_n hx hb dX0_follow_104 rfl (lv_at hl 3 rfl) ?_
          refine va_get (D := D) (ci := 0) (v := .ref b5) (C := RX0) (T := TX0) (N := 8) hx hb hts zi_X0_follow_X0 hown hK.1 hP 0 rfl rfl 4 (by decide) (hts _ zk_X0_follow_4) (fun _ h9 => h9) rfl dX0_follow_105 ?_
          refine lv_iload_n hx hb dX0_follow_108 rfl (lv_at hl 4 rfl) ?_
          refine lv_iload_n hx hb dX0_follow_109 rfl (lv_at hl 1 rfl) ?_
          obtain ⟨h18, h⟩ := it_g h
          refine va_iast hx hb hK.1 hP hD hS 5 0 rfl rfl h18 dX0_follow_110 (fun H locs hP hD hS => ?_)
          have hP : va_P D zb_cl (zb_B cI b0 b1 b2 b3 b4 b5 b6 (bs_heading B (upd (bt_heading B) v1.toNatClampNeg r13))) H := hP
          have hD : va_D A (zb_B cI b0 b1 b2 b3 b4 b5 b6 (bs_heading B (upd (bt_heading B) v1.toNatClampNeg r13))) := hD
          refine lv_aload_n hx hb dX0_follow_111 rfl (lv_at hl 3 rfl) ?_
          refine va_get (D := D) (ci := 0) (v := .ref b4) (C := RX0) (T := TX0) (N := 8) hx hb hts zi_X0_follow_X0 hown hK.1 hP 0 rfl rfl 3 (by decide) (hts _ zk_X0_follow_0) (fun _ h9 => h9) rfl dX0_follow_112 ?_
          refine lv_iload_n hx hb dX0_follow_115 rfl (lv_at hl 4 rfl) ?_
          refine lv_iload hx hb dX0_follow_116 (lv_at hl 0 rfl) ?_
          obtain ⟨h19, h⟩ := it_g h
          refine va_iast hx hb hK.1 hP hD hS 4 0 rfl rfl h19 dX0_follow_118 (fun H locs hP hD hS => ?_)
          have hP : va_P D zb_cl (zb_B cI b0 b1 b2 b3 b4 b5 b6 (bs_place (bs_heading B (upd (bt_heading B) v1.toNatClampNeg r13)) (upd (bt_place B) v1.toNatClampNeg r15))) H := hP
          have hD : va_D A (zb_B cI b0 b1 b2 b3 b4 b5 b6 (bs_place (bs_heading B (upd (bt_heading B) v1.toNatClampNeg r13)) (upd (bt_place B) v1.toNatClampNeg r15))) := hD
          refine lv_aload_n hx hb dX0_follow_119 rfl (lv_at hl 3 rfl) ?_
          refine va_get (D := D) (ci := 0) (v := .int (bt_step B)) (C := RX0) (T := TX0) (N := 8) hx hb hts zi_X0_follow_X0 hown hK.1 hP 0 rfl rfl 7 (by decide) (hts _ zk_X0_follow_5) (fun _ h9 => h9) rfl dX0_follow_120 ?_
          refine lv_iconst (v := (2 : Int32)) hx hb dX0_follow_123 (by decide) ?_
          refine lv_irem hx hb dX0_follow_124 (by decide) ?_
          refine lv_if_ne (tgt := 138) hx hb dX0_follow_125 (by decide) (fun c20 => ?_) (fun c20 => ?_)
          · replace h := it_f c20 h
            obtain rfl := re1 h
            exact zb_vret hx hb hr hlk hP hS dX0_follow_138
          · replace h := it_t c20 h
            refine lv_aload_n hx hb dX0_follow_128 rfl (lv_at hl 3 rfl) ?_
            refine va_get (D := D) (ci := 0) (v := .ref b3) (C := RX0) (T := TX0) (N := 8) hx hb hts zi_X0_follow_X0 hown hK.1 hP 0 rfl rfl 2 (by decide) (hts _ zk_X0_follow_1) (fun _ h9 => h9) rfl dX0_follow_129 ?_
            refine lv_iload_n hx hb dX0_follow_132 rfl (lv_at hl 2 rfl) ?_
            refine lv_dup2_11 hx hb dX0_follow_133 rfl rfl ?_
            obtain ⟨h21, h⟩ := it_g h
            refine va_iald hx hb hK.1 hP 3 0 rfl rfl h21 dX0_follow_134 ?_
            refine lv_iconst (v := (1 : Int32)) hx hb dX0_follow_135 (by decide) ?_
            refine lv_isub hx hb dX0_follow_136 ?_
            obtain ⟨h22, h⟩ := it_g h
            refine va_iast hx hb hK.1 hP hD hS 3 0 rfl rfl h22 dX0_follow_137 (fun H locs hP hD hS => ?_)
            have hP : va_P D zb_cl (zb_B cI b0 b1 b2 b3 b4 b5 b6 (bs_wet (bs_place (bs_heading B (upd (bt_heading B) v1.toNatClampNeg r13)) (upd (bt_place B) v1.toNatClampNeg r15)) (upd (bt_wet B) ((bt_place B) v1.toNatClampNeg).toNatClampNeg (((bt_wet B) ((bt_place B) v1.toNatClampNeg).toNatClampNeg) - (1 : Int32))))) H := hP
            have hD : va_D A (zb_B cI b0 b1 b2 b3 b4 b5 b6 (bs_wet (bs_place (bs_heading B (upd (bt_heading B) v1.toNatClampNeg r13)) (upd (bt_place B) v1.toNatClampNeg r15)) (upd (bt_wet B) ((bt_place B) v1.toNatClampNeg).toNatClampNeg (((bt_wet B) ((bt_place B) v1.toNatClampNeg).toNatClampNeg) - (1 : Int32))))) := hD
            obtain rfl := re1 h
            exact zb_vret hx hb hr hlk hP hS dX0_follow_138
        · replace h := it_f c17 h
          refine lv_aload_n hx hb dX0_follow_71 rfl (lv_at hl 3 rfl) ?_
          refine va_get (D := D) (ci := 0) (v := .ref b5) (C := RX0) (T := TX0) (N := 8) hx hb hts zi_X0_follow_X0 hown hK.1 hP 0 rfl rfl 4 (by decide) (hts _ zk_X0_follow_4) (fun _ h9 => h9) rfl dX0_follow_72 ?_
          refine lv_iload_n hx hb dX0_follow_75 rfl (lv_at hl 4 rfl) ?_
          refine lv_iload_n hx hb dX0_follow_76 rfl (lv_at hl 1 rfl) ?_
          refine lv_iconst (v := (2 : Int32)) hx hb dX0_follow_77 (by decide) ?_
          refine lv_iadd hx hb dX0_follow_78 ?_
          refine lv_iconst (v := (4 : Int32)) hx hb dX0_follow_79 (by decide) ?_
          refine lv_irem hx hb dX0_follow_80 (by decide) ?_
          obtain ⟨h23, h⟩ := it_g h
          refine va_iast hx hb hK.1 hP hD hS 5 0 rfl rfl h23 dX0_follow_81 (fun H locs hP hD hS => ?_)
          have hP : va_P D zb_cl (zb_B cI b0 b1 b2 b3 b4 b5 b6 (bs_heading B (upd (bt_heading B) v1.toNatClampNeg (jr (r13 + (2 : Int32)) (4 : Int32))))) H := hP
          have hD : va_D A (zb_B cI b0 b1 b2 b3 b4 b5 b6 (bs_heading B (upd (bt_heading B) v1.toNatClampNeg (jr (r13 + (2 : Int32)) (4 : Int32))))) := hD
          refine lv_aload_n hx hb dX0_follow_82 rfl (lv_at hl 3 rfl) ?_
          refine va_get (D := D) (ci := 0) (v := .ref b6) (C := RX0) (T := TX0) (N := 8) hx hb hts zi_X0_follow_X0 hown hK.1 hP 0 rfl rfl 5 (by decide) (hts _ zk_X0_follow_6) (fun _ h9 => h9) rfl dX0_follow_83 ?_
          refine lv_iload_n hx hb dX0_follow_86 rfl (lv_at hl 4 rfl) ?_
          refine lv_bipush (v := (99 : Int32)) hx hb dX0_follow_87 (by decide) ?_
          refine lv_aload_n hx hb dX0_follow_89 rfl (lv_at hl 3 rfl) ?_
          refine va_get (D := D) (ci := 0) (v := .ref b6) (C := RX0) (T := TX0) (N := 8) hx hb hts zi_X0_follow_X0 hown hK.1 hP 0 rfl rfl 5 (by decide) (hts _ zk_X0_follow_6) (fun _ h9 => h9) rfl dX0_follow_90 ?_
          refine lv_iload_n hx hb dX0_follow_93 rfl (lv_at hl 4 rfl) ?_
          obtain ⟨h24, h⟩ := it_g h
          refine va_iald hx hb hK.1 hP 6 0 rfl rfl h24 dX0_follow_94 ?_
          refine lv_iconst (v := (1 : Int32)) hx hb dX0_follow_95 (by decide) ?_
          refine lv_iadd hx hb dX0_follow_96 ?_
          refine va_mmin hx hb (hml.trans hl.1.symm) hown (hts _ zk_X0_follow_7) (hts _ zk_X0_follow_8) (hts _ zk_X0_follow_9) (hts _ zk_X0_follow_10) (Nat.le_of_ble_eq_true rfl) (Nat.le_of_ble_eq_true rfl) (Nat.zero_le _) (Nat.zero_le _) dX0_follow_97 ?_
          obtain ⟨h25, h⟩ := it_g h
          refine va_iast hx hb hK.1 hP hD hS 6 0 rfl rfl h25 dX0_follow_100 (fun H locs hP hD hS => ?_)
          have hP : va_P D zb_cl (zb_B cI b0 b1 b2 b3 b4 b5 b6 (bs_helped (bs_heading B (upd (bt_heading B) v1.toNatClampNeg (jr (r13 + (2 : Int32)) (4 : Int32)))) (upd (bt_helped B) v1.toNatClampNeg (if (((bt_helped B) v1.toNatClampNeg) + (1 : Int32)) < (99 : Int32) then (((bt_helped B) v1.toNatClampNeg) + (1 : Int32)) else (99 : Int32))))) H := hP
          have hD : va_D A (zb_B cI b0 b1 b2 b3 b4 b5 b6 (bs_helped (bs_heading B (upd (bt_heading B) v1.toNatClampNeg (jr (r13 + (2 : Int32)) (4 : Int32)))) (upd (bt_helped B) v1.toNatClampNeg (if (((bt_helped B) v1.toNatClampNeg) + (1 : Int32)) < (99 : Int32) then (((bt_helped B) v1.toNatClampNeg) + (1 : Int32)) else (99 : Int32))))) := hD
          refine lv_goto (tgt := 138) hx hb dX0_follow_101 (by decide) ?_
          obtain rfl := re1 h
          exact zb_vret hx hb hr hlk hP hS dX0_follow_138
      · replace h := it_t c9 h
        obtain rfl := re1 h
        exact zb_vret hx hb hr hlk hP hS dX0_follow_32
  · replace h := it_t c3 h
    obtain rfl := re1 h
    exact zb_vret hx hb hr hlk hP hS dX0_follow_8
abbrev rm_X0_goOn : Room := { frames := 2, cells := 0, slots := 0, locals := 48 }
theorem hd_X0_goOn : yX0_goOn.cls = RX0 ∧ yX0_goOn.cls ≠ "java/lang/invoke/MethodHandle" ∧ yX0_goOn.cls ≠ "java/lang/invoke/VarHandle" ∧ (parseMethodDescriptor yX0_goOn.desc).map (fun d => d.parameters.length) = some 2 := by decide +kernel
theorem zi_X0_goOn_X0 : ∀ w ∈ wsX00, w ∈ wsX0_goOn := fun _ h => List.mem_cons_of_mem _ (List.mem_append_right _ h)
theorem zk_X0_goOn_0 : Cond.fieldLink RX0 46 "GroutingIsFollowed$Bath" "step" "I" ∈ wsX0_goOn := by decide +kernel
theorem zk_X0_goOn_1 : Cond.fieldLink RX0 42 "GroutingIsFollowed$Bath" "people" "I" ∈ wsX0_goOn := by decide +kernel
set_option maxHeartbeats 4000000 in
set_option maxRecDepth 100000 in
theorem zc_X0_goOn (l : Launch) (D : va_G) (cI : ClassId) (b0 b1 b2 b3 b4 b5 b6 : Nat) (B : BT) (v1 : Int32) (v2 : Int32) (w_B : BT) (h : zf_X0_goOn B v1 v2 = some w_B) : Cn l D cI yX0_goOn wsX0_goOn rm_X0_goOn [.ref b0, .int v1, .int v2] (zb_B cI b0 b1 b2 b3 b4 b5 b6 B) none (zb_B cI b0 b1 b2 b3 b4 b5 b6 w_B) := by
  refine zb_ofW (cc := cX0_goOn) (maxL := 5) (ret := none) (by decide) rfl (Nat.le_of_ble_eq_true rfl) ?_
  intro p e s m args below meth c A ls hx hb hr hml hts hown hlk hK hP hD hA hl
  have hS : va_S A s.heap s.heap [] := va_S.rf
  have hl : lv_has ls 5 [(0, .ref b0), (1, .int v1), (2, .int v2)] := hl
  unfold zf_X0_goOn at h
  refine lv_iconst (v := (0 : Int32)) hx hb dX0_goOn_0 (by decide) ?_
  refine lv_istore_n (lv' := [(3, .int (0 : Int32)), (0, .ref b0), (1, .int v1), (2, .int v2)]) hx hb dX0_goOn_1 rfl hl (by decide) rfl (fun ls hl => ?_)
  have lp3 : ∀ (fu3 : Nat) (x1 : Int32) (x2 : BT) (H : Heap) (locs : List Loc) (hP : va_P D zb_cl (zb_B cI b0 b1 b2 b3 b4 b5 b6 x2) H) (hD : va_D A (zb_B cI b0 b1 b2 b3 b4 b5 b6 x2)) (hS : va_S A s.heap H locs) (ls : Array Slot) (hl : lv_has ls 5 [(0, .ref b0), (1, .int v1), (2, .int v2), (3, .int x1)]) (h : zl2 (zf_X0_goOn_b2 v1 v2) fu3 x1 x2 = some w_B), W p l e rm_X0_goOn s m args below meth c H locs 0 0 (zb_Q below D none (zb_B cI b0 b1 b2 b3 b4 b5 b6 w_B) A args s) (F0 m 2 ls []) := by
    intro fu3
    induction fu3 with
    | zero => intro x1 x2 H locs hP hD hS ls hl h; exact zb_no h
    | succ fu3 ih3 =>
      intro x1 x2 H locs hP hD hS ls hl h
      replace h : zf_X0_goOn_b2 v1 v2 (zl2 (zf_X0_goOn_b2 v1 v2) fu3) x1 x2 = some w_B := h
      unfold zf_X0_goOn_b2 at h
      refine lv_iload_n hx hb dX0_goOn_2 rfl (lv_at hl 3 rfl) ?_
      refine lv_iload_n hx hb dX0_goOn_3 rfl (lv_at hl 1 rfl) ?_
      refine lv_icmp_ge (tgt := 56) hx hb dX0_goOn_4 (by decide) (fun c4 => ?_) (fun c4 => ?_)
      · replace h := it_t c4 h
        obtain rfl := re1 h
        exact zb_vret hx hb hr hlk hP hS dX0_goOn_56
      · replace h := it_f c4 h
        refine lv_aload_n hx hb dX0_goOn_7 rfl (lv_at hl 0 rfl) ?_
        refine lv_dup hx hb dX0_goOn_8 rfl ?_
        refine va_get (D := D) (ci := 0) (v := .int (bt_step x2)) (C := RX0) (T := TX0) (N := 8) hx hb hts zi_X0_goOn_X0 hown hK.1 hP 0 rfl rfl 7 (by decide) (hts _ zk_X0_goOn_0) (fun _ h9 => h9) rfl dX0_goOn_9 ?_
        refine lv_iconst (v := (1 : Int32)) hx hb dX0_goOn_12 (by decide) ?_
        refine lv_iadd hx hb dX0_goOn_13 ?_
        refine va_put (D := D) (ci := 0) (v := .int ((bt_step x2) + (1 : Int32))) (ty := .int) (C := RX0) (T := TX0) (N := 8) hx hb hts zi_X0_goOn_X0 tyX0 tyX0_ok nmX0 hown hK.1 hP hD hS 0 rfl rfl 7 (by decide) (hts _ zk_X0_goOn_0) (fun _ h9 => h9) rfl (by decide +kernel) rfl rfl (Nat.le_of_ble_eq_true rfl) dX0_goOn_14 (fun H locs hP hD hS => ?_)
        have hP : va_P D zb_cl (zb_B cI b0 b1 b2 b3 b4 b5 b6 (bs_step x2 ((bt_step x2) + (1 : Int32)))) H := hP
        have hD : va_D A (zb_B cI b0 b1 b2 b3 b4 b5 b6 (bs_step x2 ((bt_step x2) + (1 : Int32)))) := hD
        refine lv_iconst (v := (0 : Int32)) hx hb dX0_goOn_17 (by decide) ?_
        refine lv_istore (lv' := [(4, .int (0 : Int32)), (0, .ref b0), (1, .int v1), (2, .int v2), (3, .int x1)]) hx hb dX0_goOn_18 hl (by decide) rfl (fun ls hl => ?_)
        have lp7 : ∀ (fu7 : Nat) (x5 : Int32) (x6 : BT) (H : Heap) (locs : List Loc) (hP : va_P D zb_cl (zb_B cI b0 b1 b2 b3 b4 b5 b6 x6) H) (hD : va_D A (zb_B cI b0 b1 b2 b3 b4 b5 b6 x6)) (hS : va_S A s.heap H locs) (ls : Array Slot) (hl : lv_has ls 5 [(0, .ref b0), (1, .int v1), (2, .int v2), (3, .int x1), (4, .int x5)]) (h : zl2 (zf_X0_goOn_b20 (zl2 (zf_X0_goOn_b2 v1 v2) fu3) v2 x1) fu7 x5 x6 = some w_B), W p l e rm_X0_goOn s m args below meth c H locs 0 0 (zb_Q below D none (zb_B cI b0 b1 b2 b3 b4 b5 b6 w_B) A args s) (F0 m 20 ls []) := by
          intro fu7
          induction fu7 with
          | zero => intro x5 x6 H locs hP hD hS ls hl h; exact zb_no h
          | succ fu7 ih7 =>
            intro x5 x6 H locs hP hD hS ls hl h
            replace h : zf_X0_goOn_b20 (zl2 (zf_X0_goOn_b2 v1 v2) fu3) v2 x1 (zl2 (zf_X0_goOn_b20 (zl2 (zf_X0_goOn_b2 v1 v2) fu3) v2 x1) fu7) x5 x6 = some w_B := h
            unfold zf_X0_goOn_b20 at h
            refine lv_iload hx hb dX0_goOn_20 (lv_at hl 4 rfl) ?_
            refine lv_aload_n hx hb dX0_goOn_22 rfl (lv_at hl 0 rfl) ?_
            refine va_get (D := D) (ci := 0) (v := .int (bt_people x6)) (C := RX0) (T := TX0) (N := 8) hx hb hts zi_X0_goOn_X0 hown hK.1 hP 0 rfl rfl 6 (by decide) (hts _ zk_X0_goOn_1) (fun _ h9 => h9) rfl dX0_goOn_23 ?_
            refine lv_icmp_ge (tgt := 50) hx hb dX0_goOn_26 (by decide) (fun c8 => ?_) (fun c8 => ?_)
            · replace h := it_t c8 h
              refine lv_iinc (v := (x1 + (1 : Int32))) (lv' := [(3, .int (x1 + (1 : Int32))), (0, .ref b0), (1, .int v1), (2, .int v2), (4, .int x5)]) hx hb dX0_goOn_50 hl (k := 3) rfl (by first | rfl | decide) (by decide) rfl (fun ls hl => ?_)
              refine lv_goto (tgt := 2) hx hb dX0_goOn_53 (by decide) ?_
              exact ih3 (x1 + (1 : Int32)) x6 _ _ hP hD hS ls (lv_sub hl [1, 2, 3, 0] rfl) h
            · replace h := it_f c8 h
              refine lv_iload_n hx hb dX0_goOn_29 rfl (lv_at hl 2 rfl) ?_
              refine lv_iload hx hb dX0_goOn_30 (lv_at hl 4 rfl) ?_
              refine lv_ishr hx hb dX0_goOn_32 ?_
              refine lv_iconst (v := (1 : Int32)) hx hb dX0_goOn_33 (by decide) ?_
              refine lv_iand hx hb dX0_goOn_34 ?_
              refine lv_if_ne (tgt := 44) hx hb dX0_goOn_35 (by decide) (fun c9 => ?_) (fun c9 => ?_)
              · replace h := it_f c9 h
                refine lv_iinc (v := (x5 + (1 : Int32))) (lv' := [(4, .int (x5 + (1 : Int32))), (0, .ref b0), (1, .int v1), (2, .int v2), (3, .int x1)]) hx hb dX0_goOn_44 hl (k := 4) rfl (by first | rfl | decide) (by decide) rfl (fun ls hl => ?_)
                refine lv_goto (tgt := 20) hx hb dX0_goOn_47 (by decide) ?_
                exact ih7 (x5 + (1 : Int32)) x6 _ _ hP hD hS ls (lv_sub hl [1, 2, 3, 4, 0] rfl) h
              · replace h := it_t c9 h
                refine lv_aload_n hx hb dX0_goOn_38 rfl (lv_at hl 0 rfl) ?_
                refine lv_iload hx hb dX0_goOn_39 (lv_at hl 4 rfl) ?_
                obtain ⟨n10, g11, h⟩ := bo1 h
                refine zb_callV (As := [.int x5]) (rest := []) ⟨hx, hb, hml, hown, hts⟩ (zc_X0_follow l D cI b0 b1 b2 b3 b4 b5 b6 x6 x5 n10 g11) (cwV 1 hts gX0_goOn_X0_follow rfl rfl rfl hd_X0_follow ⟨Nat.le_of_ble_eq_true rfl, Nat.le_of_ble_eq_true rfl⟩) hK hP hD hS hA (zb_sB) (q0 := 0) rfl rfl rfl hl.1 rfl (Nat.le_of_ble_eq_true rfl) dX0_goOn_41 ⟨Nat.le_refl _, Nat.le_refl _⟩ (fun H locs hP hD hS => ?_)
                refine lv_iinc (v := (x5 + (1 : Int32))) (lv' := [(4, .int (x5 + (1 : Int32))), (0, .ref b0), (1, .int v1), (2, .int v2), (3, .int x1)]) hx hb dX0_goOn_44 hl (k := 4) rfl (by first | rfl | decide) (by decide) rfl (fun ls hl => ?_)
                refine lv_goto (tgt := 20) hx hb dX0_goOn_47 (by decide) ?_
                exact ih7 (x5 + (1 : Int32)) n10 _ _ hP hD hS ls (lv_sub hl [1, 2, 3, 4, 0] rfl) h
        exact lp7 zb_FU (0 : Int32) (bs_step x2 ((bt_step x2) + (1 : Int32))) _ _ hP hD hS ls (lv_sub hl [1, 2, 3, 4, 0] rfl) h
  exact lp3 zb_FU (0 : Int32) B _ _ hP hD hS ls (lv_sub hl [1, 2, 3, 0] rfl) h
abbrev rm_X0_soonestAt : Room := { frames := 3, cells := 0, slots := 0, locals := 72 }
theorem hd_X0_soonestAt : yX0_soonestAt.cls = RX0 ∧ yX0_soonestAt.cls ≠ "java/lang/invoke/MethodHandle" ∧ yX0_soonestAt.cls ≠ "java/lang/invoke/VarHandle" ∧ (parseMethodDescriptor yX0_soonestAt.desc).map (fun d => d.parameters.length) = some 2 := by decide +kernel
set_option maxHeartbeats 4000000 in
set_option maxRecDepth 100000 in
theorem zc_X0_soonestAt (l : Launch) (D : va_G) (cI : ClassId) (b0 b1 b2 b3 b4 b5 b6 : Nat) (B : BT) (v1 : Int32) (v2 : Int32) (r0 : Int32) (w_B : BT) (h : zf_X0_soonestAt B v1 v2 = some (r0, w_B)) : Cn l D cI yX0_soonestAt wsX0_soonestAt rm_X0_soonestAt [.ref b0, .int v1, .int v2] (zb_B cI b0 b1 b2 b3 b4 b5 b6 B) (some (.int r0)) (zb_B cI b0 b1 b2 b3 b4 b5 b6 w_B) := by
  refine zb_ofW (cc := cX0_soonestAt) (maxL := 4) (ret := (some .int)) (by decide) rfl (Nat.le_of_ble_eq_true rfl) ?_
  intro p e s m args below meth c A ls hx hb hr hml hts hown hlk hK hP hD hA hl
  have hS : va_S A s.heap s.heap [] := va_S.rf
  have hl : lv_has ls 4 [(0, .ref b0), (1, .int v1), (2, .int v2)] := hl
  unfold zf_X0_soonestAt at h
  refine lv_iconst (v := (0 : Int32)) hx hb dX0_soonestAt_0 (by decide) ?_
  refine lv_istore_n (lv' := [(3, .int (0 : Int32)), (0, .ref b0), (1, .int v1), (2, .int v2)]) hx hb dX0_soonestAt_1 rfl hl (by decide) rfl (fun ls hl => ?_)
  have lp3 : ∀ (fu3 : Nat) (x1 : Int32) (x2 : BT) (H : Heap) (locs : List Loc) (hP : va_P D zb_cl (zb_B cI b0 b1 b2 b3 b4 b5 b6 x2) H) (hD : va_D A (zb_B cI b0 b1 b2 b3 b4 b5 b6 x2)) (hS : va_S A s.heap H locs) (ls : Array Slot) (hl : lv_has ls 4 [(0, .ref b0), (1, .int v1), (2, .int v2), (3, .int x1)]) (h : zl2 (zf_X0_soonestAt_b2 v1 v2) fu3 x1 x2 = some (r0, w_B)), W p l e rm_X0_soonestAt s m args below meth c H locs 0 0 (zb_Q below D (some (.int r0)) (zb_B cI b0 b1 b2 b3 b4 b5 b6 w_B) A args s) (F0 m 2 ls []) := by
    intro fu3
    induction fu3 with
    | zero => intro x1 x2 H locs hP hD hS ls hl h; exact zb_no h
    | succ fu3 ih3 =>
      intro x1 x2 H locs hP hD hS ls hl h
      replace h : zf_X0_soonestAt_b2 v1 v2 (zl2 (zf_X0_soonestAt_b2 v1 v2) fu3) x1 x2 = some (r0, w_B) := h
      unfold zf_X0_soonestAt_b2 at h
      refine lv_iload_n hx hb dX0_soonestAt_2 rfl (lv_at hl 3 rfl) ?_
      refine lv_bipush (v := (60 : Int32)) hx hb dX0_soonestAt_3 (by decide) ?_
      refine lv_icmp_gt (tgt := 31) hx hb dX0_soonestAt_5 (by decide) (fun c4 => ?_) (fun c4 => ?_)
      · replace h := it_t c4 h
        refine lv_bipush (v := ((-9) : Int32)) hx hb dX0_soonestAt_31 (by decide) ?_
        obtain ⟨rfl, rfl⟩ := re2 h
        exact zb_iret hx hb hr hlk hP hS dX0_soonestAt_33
      · replace h := it_f c4 h
        refine lv_aload_n hx hb dX0_soonestAt_8 rfl (lv_at hl 0 rfl) ?_
        refine lv_iload_n hx hb dX0_soonestAt_9 rfl (lv_at hl 1 rfl) ?_
        obtain ⟨r5, g6, h⟩ := bo1 h
        refine zb_callV (As := [.int v1]) (rest := []) ⟨hx, hb, hml, hown, hts⟩ (zc_X0_placeOf l D cI b0 b1 b2 b3 b4 b5 b6 x2 v1 r5 g6) (cwV 1 hts gX0_soonestAt_X0_placeOf rfl rfl rfl hd_X0_placeOf ⟨Nat.le_of_ble_eq_true rfl, Nat.le_of_ble_eq_true rfl⟩) hK hP hD hS hA (zb_sB) (q0 := 0) rfl rfl rfl hl.1 rfl (Nat.le_of_ble_eq_true rfl) dX0_soonestAt_10 ⟨Nat.le_refl _, Nat.le_refl _⟩ (fun H locs hP hD hS => ?_)
        refine lv_iload_n hx hb dX0_soonestAt_13 rfl (lv_at hl 2 rfl) ?_
        refine lv_icmp_ne (tgt := 19) hx hb dX0_soonestAt_14 (by decide) (fun c7 => ?_) (fun c7 => ?_)
        · replace h := it_f c7 h
          refine lv_aload_n hx hb dX0_soonestAt_19 rfl (lv_at hl 0 rfl) ?_
          refine lv_iconst (v := (1 : Int32)) hx hb dX0_soonestAt_20 (by decide) ?_
          refine lv_iconst (v := (0 : Int32)) hx hb dX0_soonestAt_21 (by decide) ?_
          obtain ⟨n8, g9, h⟩ := bo1 h
          refine zb_callV (As := [.int (1 : Int32), .int (0 : Int32)]) (rest := []) ⟨hx, hb, hml, hown, hts⟩ (zc_X0_goOn l D cI b0 b1 b2 b3 b4 b5 b6 x2 (1 : Int32) (0 : Int32) n8 g9) (cwV 2 hts gX0_soonestAt_X0_goOn rfl rfl rfl hd_X0_goOn ⟨Nat.le_of_ble_eq_true rfl, Nat.le_of_ble_eq_true rfl⟩) hK hP hD hS hA (zb_sB) (q0 := 0) rfl rfl rfl hl.1 rfl (Nat.le_of_ble_eq_true rfl) dX0_soonestAt_22 ⟨Nat.le_refl _, Nat.le_refl _⟩ (fun H locs hP hD hS => ?_)
          refine lv_iinc (v := (x1 + (1 : Int32))) (lv' := [(3, .int (x1 + (1 : Int32))), (0, .ref b0), (1, .int v1), (2, .int v2)]) hx hb dX0_soonestAt_25 hl (k := 3) rfl (by first | rfl | decide) (by decide) rfl (fun ls hl => ?_)
          refine lv_goto (tgt := 2) hx hb dX0_soonestAt_28 (by decide) ?_
          exact ih3 (x1 + (1 : Int32)) n8 _ _ hP hD hS ls (lv_sub hl [1, 2, 3, 0] rfl) h
        · replace h := it_t c7 h
          refine lv_iload_n hx hb dX0_soonestAt_17 rfl (lv_at hl 3 rfl) ?_
          obtain ⟨rfl, rfl⟩ := re2 h
          exact zb_iret hx hb hr hlk hP hS dX0_soonestAt_18
  exact lp3 zb_FU (0 : Int32) B _ _ hP hD hS ls (lv_sub hl [1, 2, 3, 0] rfl) h
abbrev rm_X0_visitsIn : Room := { frames := 3, cells := 0, slots := 0, locals := 72 }
theorem hd_X0_visitsIn : yX0_visitsIn.cls = RX0 ∧ yX0_visitsIn.cls ≠ "java/lang/invoke/MethodHandle" ∧ yX0_visitsIn.cls ≠ "java/lang/invoke/VarHandle" ∧ (parseMethodDescriptor yX0_visitsIn.desc).map (fun d => d.parameters.length) = some 2 := by decide +kernel
set_option maxHeartbeats 4000000 in
set_option maxRecDepth 100000 in
theorem zc_X0_visitsIn (l : Launch) (D : va_G) (cI : ClassId) (b0 b1 b2 b3 b4 b5 b6 : Nat) (B : BT) (v1 : Int32) (v2 : Int32) (r0 : Int32) (w_B : BT) (h : zf_X0_visitsIn B v1 v2 = some (r0, w_B)) : Cn l D cI yX0_visitsIn wsX0_visitsIn rm_X0_visitsIn [.ref b0, .int v1, .int v2] (zb_B cI b0 b1 b2 b3 b4 b5 b6 B) (some (.int r0)) (zb_B cI b0 b1 b2 b3 b4 b5 b6 w_B) := by
  refine zb_ofW (cc := cX0_visitsIn) (maxL := 5) (ret := (some .int)) (by decide) rfl (Nat.le_of_ble_eq_true rfl) ?_
  intro p e s m args below meth c A ls hx hb hr hml hts hown hlk hK hP hD hA hl
  have hS : va_S A s.heap s.heap [] := va_S.rf
  have hl : lv_has ls 5 [(0, .ref b0), (1, .int v1), (2, .int v2)] := hl
  unfold zf_X0_visitsIn at h
  refine lv_iconst (v := (1 : Int32)) hx hb dX0_visitsIn_0 (by decide) ?_
  refine lv_aload_n hx hb dX0_visitsIn_1 rfl (lv_at hl 0 rfl) ?_
  refine lv_iload_n hx hb dX0_visitsIn_2 rfl (lv_at hl 1 rfl) ?_
  obtain ⟨r1, g2, h⟩ := bo1 h
  refine zb_callV (As := [.int v1]) (rest := [.int (1 : Int32)]) ⟨hx, hb, hml, hown, hts⟩ (zc_X0_placeOf l D cI b0 b1 b2 b3 b4 b5 b6 B v1 r1 g2) (cwV 1 hts gX0_visitsIn_X0_placeOf rfl rfl rfl hd_X0_placeOf ⟨Nat.le_of_ble_eq_true rfl, Nat.le_of_ble_eq_true rfl⟩) hK hP hD hS hA (zb_sB) (q0 := 0) rfl rfl rfl hl.1 rfl (Nat.le_of_ble_eq_true rfl) dX0_visitsIn_3 ⟨Nat.le_refl _, Nat.le_refl _⟩ (fun H locs hP hD hS => ?_)
  refine lv_ishl hx hb dX0_visitsIn_6 ?_
  refine lv_istore_n (lv' := [(3, .int ((1 : Int32) <<< (r1 &&& 31))), (0, .ref b0), (1, .int v1), (2, .int v2)]) hx hb dX0_visitsIn_7 rfl hl (by decide) rfl (fun ls hl => ?_)
  refine lv_iconst (v := (0 : Int32)) hx hb dX0_visitsIn_8 (by decide) ?_
  refine lv_istore (lv' := [(4, .int (0 : Int32)), (3, .int ((1 : Int32) <<< (r1 &&& 31))), (0, .ref b0), (1, .int v1), (2, .int v2)]) hx hb dX0_visitsIn_9 hl (by decide) rfl (fun ls hl => ?_)
  have lp6 : ∀ (fu6 : Nat) (x3 : Int32) (x4 : Int32) (x5 : BT) (H : Heap) (locs : List Loc) (hP : va_P D zb_cl (zb_B cI b0 b1 b2 b3 b4 b5 b6 x5) H) (hD : va_D A (zb_B cI b0 b1 b2 b3 b4 b5 b6 x5)) (hS : va_S A s.heap H locs) (ls : Array Slot) (hl : lv_has ls 5 [(0, .ref b0), (1, .int v1), (2, .int v2), (3, .int x3), (4, .int x4)]) (h : zl3 (zf_X0_visitsIn_b11 v1 v2) fu6 x3 x4 x5 = some (r0, w_B)), W p l e rm_X0_visitsIn s m args below meth c H locs 0 0 (zb_Q below D (some (.int r0)) (zb_B cI b0 b1 b2 b3 b4 b5 b6 w_B) A args s) (F0 m 11 ls []) := by
    intro fu6
    induction fu6 with
    | zero => intro x3 x4 x5 H locs hP hD hS ls hl h; exact zb_no h
    | succ fu6 ih6 =>
      intro x3 x4 x5 H locs hP hD hS ls hl h
      replace h : zf_X0_visitsIn_b11 v1 v2 (zl3 (zf_X0_visitsIn_b11 v1 v2) fu6) x3 x4 x5 = some (r0, w_B) := h
      unfold zf_X0_visitsIn_b11 at h
      refine lv_iload hx hb dX0_visitsIn_11 (lv_at hl 4 rfl) ?_
      refine lv_iload_n hx hb dX0_visitsIn_13 rfl (lv_at hl 2 rfl) ?_
      refine lv_icmp_ge (tgt := 39) hx hb dX0_visitsIn_14 (by decide) (fun c7 => ?_) (fun c7 => ?_)
      · replace h := it_t c7 h
        refine lv_iload_n hx hb dX0_visitsIn_39 rfl (lv_at hl 3 rfl) ?_
        obtain ⟨r8, g9, h⟩ := bo1 h
        refine zb_callS (As := [.int x3]) (rest := []) ⟨hx, hb, hml, hown, hts⟩ (zc_J6_bitCount_0f7a4 l D cI x3 r8 g9) (va_cwS 1 hts gX0_visitsIn_J6_bitCount_0f7a4 rfl rfl rfl hd_J6_bitCount_0f7a4.2 ⟨Nat.le_of_ble_eq_true rfl, Nat.le_of_ble_eq_true rfl⟩) hK hP hD hS hA (zb_none _) rfl hl.1 rfl (Nat.le_of_ble_eq_true rfl) dX0_visitsIn_40 ⟨Nat.le_refl _, Nat.le_refl _⟩ (fun H locs hP hD hS => ?_)
        obtain ⟨rfl, rfl⟩ := re2 h
        exact zb_iret hx hb hr hlk hP hS dX0_visitsIn_43
      · replace h := it_f c7 h
        refine lv_aload_n hx hb dX0_visitsIn_17 rfl (lv_at hl 0 rfl) ?_
        refine lv_iconst (v := (1 : Int32)) hx hb dX0_visitsIn_18 (by decide) ?_
        refine lv_iconst (v := (0 : Int32)) hx hb dX0_visitsIn_19 (by decide) ?_
        obtain ⟨n10, g11, h⟩ := bo1 h
        refine zb_callV (As := [.int (1 : Int32), .int (0 : Int32)]) (rest := []) ⟨hx, hb, hml, hown, hts⟩ (zc_X0_goOn l D cI b0 b1 b2 b3 b4 b5 b6 x5 (1 : Int32) (0 : Int32) n10 g11) (cwV 2 hts gX0_visitsIn_X0_goOn rfl rfl rfl hd_X0_goOn ⟨Nat.le_of_ble_eq_true rfl, Nat.le_of_ble_eq_true rfl⟩) hK hP hD hS hA (zb_sB) (q0 := 0) rfl rfl rfl hl.1 rfl (Nat.le_of_ble_eq_true rfl) dX0_visitsIn_20 ⟨Nat.le_refl _, Nat.le_refl _⟩ (fun H locs hP hD hS => ?_)
        refine lv_iload_n hx hb dX0_visitsIn_23 rfl (lv_at hl 3 rfl) ?_
        refine lv_iconst (v := (1 : Int32)) hx hb dX0_visitsIn_24 (by decide) ?_
        refine lv_aload_n hx hb dX0_visitsIn_25 rfl (lv_at hl 0 rfl) ?_
        refine lv_iload_n hx hb dX0_visitsIn_26 rfl (lv_at hl 1 rfl) ?_
        obtain ⟨r12, g13, h⟩ := bo1 h
        refine zb_callV (As := [.int v1]) (rest := [.int (1 : Int32), .int x3]) ⟨hx, hb, hml, hown, hts⟩ (zc_X0_placeOf l D cI b0 b1 b2 b3 b4 b5 b6 n10 v1 r12 g13) (cwV 1 hts gX0_visitsIn_X0_placeOf rfl rfl rfl hd_X0_placeOf ⟨Nat.le_of_ble_eq_true rfl, Nat.le_of_ble_eq_true rfl⟩) hK hP hD hS hA (zb_sB) (q0 := 0) rfl rfl rfl hl.1 rfl (Nat.le_of_ble_eq_true rfl) dX0_visitsIn_27 ⟨Nat.le_refl _, Nat.le_refl _⟩ (fun H locs hP hD hS => ?_)
        refine lv_ishl hx hb dX0_visitsIn_30 ?_
        refine lv_ior hx hb dX0_visitsIn_31 ?_
        refine lv_istore_n (lv' := [(3, .int (x3 ||| ((1 : Int32) <<< (r12 &&& 31)))), (0, .ref b0), (1, .int v1), (2, .int v2), (4, .int x4)]) hx hb dX0_visitsIn_32 rfl hl (by decide) rfl (fun ls hl => ?_)
        refine lv_iinc (v := (x4 + (1 : Int32))) (lv' := [(4, .int (x4 + (1 : Int32))), (3, .int (x3 ||| ((1 : Int32) <<< (r12 &&& 31)))), (0, .ref b0), (1, .int v1), (2, .int v2)]) hx hb dX0_visitsIn_33 hl (k := 4) rfl (by first | rfl | decide) (by decide) rfl (fun ls hl => ?_)
        refine lv_goto (tgt := 11) hx hb dX0_visitsIn_36 (by decide) ?_
        exact ih6 (x3 ||| ((1 : Int32) <<< (r12 &&& 31))) (x4 + (1 : Int32)) n10 _ _ hP hD hS ls (lv_sub hl [2, 3, 4, 1, 0] rfl) h
  exact lp6 zb_FU ((1 : Int32) <<< (r1 &&& 31)) (0 : Int32) B _ _ hP hD hS ls (lv_sub hl [2, 3, 4, 1, 0] rfl) h
