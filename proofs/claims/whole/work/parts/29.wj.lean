abbrev rm_J0_isLatin1_aae02 : Room := { frames := 0, cells := 0, slots := 0, locals := 0 }
theorem hd_J0_isLatin1_aae02 : yJ0_isLatin1_aae02.cls = RJ0 ∧ yJ0_isLatin1_aae02.cls ≠ "java/lang/invoke/MethodHandle" ∧ yJ0_isLatin1_aae02.cls ≠ "java/lang/invoke/VarHandle" ∧ (parseMethodDescriptor yJ0_isLatin1_aae02.desc).map (fun d => d.parameters.length) = some 0 := by decide +kernel
theorem zk_J0_isLatin1_aae02_0 : Cond.fieldLink RJ0 38 "java/lang/String" "COMPACT_STRINGS" "Z" ∈ wsJ0_isLatin1_aae02 := by decide +kernel
theorem zk_J0_isLatin1_aae02_1 : Cond.fieldLink RJ0 15 "java/lang/String" "coder" "B" ∈ wsJ0_isLatin1_aae02 := by decide +kernel
set_option maxHeartbeats 4000000 in
set_option maxRecDepth 100000 in
theorem zc_J0_isLatin1_aae02 (l : Launch) (D : va_G) (cI : ClassId) (aK aV : Nat → Nat)  (k0 : Nat) (r0 : Int32) (h : zf_J0_isLatin1_aae02 k0 = some r0) : CnE l D cI aK aV yJ0_isLatin1_aae02 wsJ0_isLatin1_aae02 rm_J0_isLatin1_aae02 [.ref (aK k0)] ([]) (some (.int r0)) ([]) := by
  refine zb_ofWE (cc := cJ0_isLatin1_aae02) (maxL := 1) (ret := (some .boolean)) (by decide) rfl (Nat.le_of_ble_eq_true rfl) ?_
  intro p e s m args below meth c A ls hx hb hr hml hts hown hlk hK hE hP hD hA hl
  have hS : va_S A s.heap s.heap [] := va_S.rf
  have hl : lv_has ls 1 [(0, .ref (aK k0))] := hl
  unfold zf_J0_isLatin1_aae02 at h
  refine va_gets hx hb hE.2.1 hS hown (hts _ zk_J0_isLatin1_aae02_0) (fun _ h9 => h9) dJ0_isLatin1_aae02_0 ?_
  refine lv_if_eq (tgt := 17) hx hb dJ0_isLatin1_aae02_3 (by decide) (fun c1 => absurd c1 (by decide)) (fun _ => ?_)
  refine lv_aload_n hx hb dJ0_isLatin1_aae02_6 rfl (lv_at hl 0 rfl) ?_
  obtain ⟨h2, h⟩ := it_n h
  refine vk_getf (v := .int 0) hx hb (hE.1.1 k0 (Nat.lt_of_not_le h2)).2.1 hS hown (hts _ zk_J0_isLatin1_aae02_1) (fun _ h9 => h9) dJ0_isLatin1_aae02_7 ?_
  refine lv_if_ne (tgt := 17) hx hb dJ0_isLatin1_aae02_10 (by decide) (fun c3 => absurd c3 (by decide)) (fun _ => ?_)
  refine lv_iconst (v := (1 : Int32)) hx hb dJ0_isLatin1_aae02_13 (by decide) ?_
  refine lv_goto (tgt := 18) hx hb dJ0_isLatin1_aae02_14 (by decide) ?_
  obtain rfl := re1 h
  exact zb_zret hx hb hr hlk rfl hP hS dJ0_isLatin1_aae02_18
abbrev rm_J3_checkIndex_8e157 : Room := { frames := 0, cells := 0, slots := 0, locals := 0 }
theorem hd_J3_checkIndex_8e157 : yJ3_checkIndex_8e157.cls = RJ3 ∧ yJ3_checkIndex_8e157.cls ≠ "java/lang/invoke/MethodHandle" ∧ yJ3_checkIndex_8e157.cls ≠ "java/lang/invoke/VarHandle" ∧ (parseMethodDescriptor yJ3_checkIndex_8e157.desc).map (fun d => d.parameters.length) = some 3 := by decide +kernel
set_option maxHeartbeats 4000000 in
set_option maxRecDepth 100000 in
theorem zc_J3_checkIndex_8e157 (l : Launch) (D : va_G) (cI : ClassId)  (v0 : Int32) (v1 : Int32) (v2 : (Option Nat)) (r0 : Int32) (h : zf_J3_checkIndex_8e157 v0 v1 v2 = some r0) : Cn l D cI yJ3_checkIndex_8e157 wsJ3_checkIndex_8e157 rm_J3_checkIndex_8e157 [.int v0, .int v1, va_rf v2] ([]) (some (.int r0)) ([]) := by
  refine zb_ofW (cc := cJ3_checkIndex_8e157) (maxL := 3) (ret := (some .int)) (by decide) rfl (by cases v2 <;> exact Nat.le_of_ble_eq_true rfl) ?_
  intro p e s m args below meth c A ls hx hb hr hml hts hown hlk hK hP hD hA hl
  have hS : va_S A s.heap s.heap [] := va_S.rf
  have hl : lv_has ls 3 [(0, .int v0), (1, .int v1), (2, va_rf v2)] := hl
  unfold zf_J3_checkIndex_8e157 at h
  refine lv_iload_n hx hb dJ3_checkIndex_8e157_0 rfl (lv_at hl 0 rfl) ?_
  refine lv_if_lt (tgt := 9) hx hb dJ3_checkIndex_8e157_1 (by decide) (fun c1 => ?_) (fun c1 => ?_)
  · replace h := it_t c1 h
    exact zb_no h
  · replace h := it_f c1 h
    refine lv_iload_n hx hb dJ3_checkIndex_8e157_4 rfl (lv_at hl 0 rfl) ?_
    refine lv_iload_n hx hb dJ3_checkIndex_8e157_5 rfl (lv_at hl 1 rfl) ?_
    refine lv_icmp_lt (tgt := 16) hx hb dJ3_checkIndex_8e157_6 (by decide) (fun c2 => ?_) (fun c2 => ?_)
    · replace h := it_t c2 h
      refine lv_iload_n hx hb dJ3_checkIndex_8e157_16 rfl (lv_at hl 0 rfl) ?_
      obtain rfl := re1 h
      exact zb_iret hx hb hr hlk hP hS dJ3_checkIndex_8e157_17
    · replace h := it_f c2 h
      exact zb_no h
abbrev rm_J0_checkIndex_df160 : Room := { frames := 1, cells := 0, slots := 0, locals := 22 }
theorem hd_J0_checkIndex_df160 : yJ0_checkIndex_df160.cls = RJ0 ∧ yJ0_checkIndex_df160.cls ≠ "java/lang/invoke/MethodHandle" ∧ yJ0_checkIndex_df160.cls ≠ "java/lang/invoke/VarHandle" ∧ (parseMethodDescriptor yJ0_checkIndex_df160.desc).map (fun d => d.parameters.length) = some 2 := by decide +kernel
theorem zk_J0_checkIndex_df160_0 : Cond.fieldLink RJ0 1053 "jdk/internal/util/Preconditions" "SIOOBE_FORMATTER" "Ljava/util/function/BiFunction;" ∈ wsJ0_checkIndex_df160 := by decide +kernel
set_option maxHeartbeats 4000000 in
set_option maxRecDepth 100000 in
theorem zc_J0_checkIndex_df160 (l : Launch) (D : va_G) (cI : ClassId) (aK aV : Nat → Nat)  (v0 : Int32) (v1 : Int32) (h : zf_J0_checkIndex_df160 v0 v1 = some ()) : CnE l D cI aK aV yJ0_checkIndex_df160 wsJ0_checkIndex_df160 rm_J0_checkIndex_df160 [.int v0, .int v1] ([]) none ([]) := by
  refine zb_ofWE (cc := cJ0_checkIndex_df160) (maxL := 2) (ret := none) (by decide) rfl (Nat.le_of_ble_eq_true rfl) ?_
  intro p e s m args below meth c A ls hx hb hr hml hts hown hlk hK hE hP hD hA hl
  have hS : va_S A s.heap s.heap [] := va_S.rf
  have hl : lv_has ls 2 [(0, .int v0), (1, .int v1)] := hl
  unfold zf_J0_checkIndex_df160 at h
  refine lv_iload_n hx hb dJ0_checkIndex_df160_0 rfl (lv_at hl 0 rfl) ?_
  refine lv_iload_n hx hb dJ0_checkIndex_df160_1 rfl (lv_at hl 1 rfl) ?_
  obtain ⟨rq, hq⟩ := zb_rf hE.2.2.1
  refine va_gets hx hb hq hS hown (hts _ zk_J0_checkIndex_df160_0) (fun _ h9 => h9) dJ0_checkIndex_df160_2 ?_
  obtain ⟨r1, g2, h⟩ := bo1 h
  refine zb_callS (As := [.int v0, .int v1, va_rf rq]) (rest := []) ⟨hx, hb, hml, hown, hts⟩ (zc_J3_checkIndex_8e157 l D cI v0 v1 rq r1 g2) (va_cwS 3 hts gJ0_checkIndex_df160_J3_checkIndex_8e157 rfl rfl rfl hd_J3_checkIndex_8e157.2 ⟨Nat.le_of_ble_eq_true rfl, Nat.le_of_ble_eq_true rfl⟩) hK hP hD hS hA (zb_none _) rfl hl.1 rfl (Nat.le_of_ble_eq_true rfl) dJ0_checkIndex_df160_5 ⟨Nat.le_refl _, Nat.le_refl _⟩ (fun H locs hP hD hS => ?_)
  refine lv_pop hx hb dJ0_checkIndex_df160_8 rfl ?_
  exact zb_vret hx hb hr hlk hP hS dJ0_checkIndex_df160_9
abbrev rm_J1_charAt_3b067 : Room := { frames := 2, cells := 0, slots := 0, locals := 43 }
theorem hd_J1_charAt_3b067 : yJ1_charAt_3b067.cls = RJ1 ∧ yJ1_charAt_3b067.cls ≠ "java/lang/invoke/MethodHandle" ∧ yJ1_charAt_3b067.cls ≠ "java/lang/invoke/VarHandle" ∧ (parseMethodDescriptor yJ1_charAt_3b067.desc).map (fun d => d.parameters.length) = some 2 := by decide +kernel
set_option maxHeartbeats 4000000 in
set_option maxRecDepth 100000 in
theorem zc_J1_charAt_3b067 (l : Launch) (D : va_G) (cI : ClassId) (aK aV : Nat → Nat)  (v0 : Nat) (v1 : Int32) (r0 : Int32) (h : zf_J1_charAt_3b067 v0 v1 = some r0) : CnE l D cI aK aV yJ1_charAt_3b067 wsJ1_charAt_3b067 rm_J1_charAt_3b067 [.ref (aV v0), .int v1] ([]) (some (.int r0)) ([]) := by
  refine zb_ofWE (cc := cJ1_charAt_3b067) (maxL := 2) (ret := (some .char)) (by decide) rfl (Nat.le_of_ble_eq_true rfl) ?_
  intro p e s m args below meth c A ls hx hb hr hml hts hown hlk hK hE hP hD hA hl
  have hS : va_S A s.heap s.heap [] := va_S.rf
  have hl : lv_has ls 2 [(0, .ref (aV v0)), (1, .int v1)] := hl
  unfold zf_J1_charAt_3b067 at h
  refine lv_iload_n hx hb dJ1_charAt_3b067_0 rfl (lv_at hl 1 rfl) ?_
  refine lv_aload_n hx hb dJ1_charAt_3b067_1 rfl (lv_at hl 0 rfl) ?_
  obtain ⟨h1, h⟩ := it_n h
  refine va_tlen (v := (zs_L v0)) hx hb (hE.1.1 v0 (Nat.lt_of_not_le h1)).2.2.2 hS rfl dJ1_charAt_3b067_2 ?_
  obtain ⟨_, g2, h⟩ := bo1 h
  refine zb_callSE (As := [.int v1, .int (zs_L v0)]) (rest := []) ⟨hx, hb, hml, hown, hts⟩ (zc_J0_checkIndex_df160 l D cI aK aV v1 (zs_L v0) g2) (va_cwS 2 hts gJ1_charAt_3b067_J0_checkIndex_df160 rfl rfl rfl hd_J0_checkIndex_df160.2 ⟨Nat.le_of_ble_eq_true rfl, Nat.le_of_ble_eq_true rfl⟩) hK hE hP hD hS hA (zb_none _) rfl hl.1 rfl (Nat.le_of_ble_eq_true rfl) dJ1_charAt_3b067_3 ⟨Nat.le_refl _, Nat.le_refl _⟩ (fun H locs hP hD hS => ?_)
  refine lv_aload_n hx hb dJ1_charAt_3b067_6 rfl (lv_at hl 0 rfl) ?_
  refine lv_iload_n hx hb dJ1_charAt_3b067_7 rfl (lv_at hl 1 rfl) ?_
  obtain ⟨h3, h⟩ := it_n h
  obtain ⟨h4, h⟩ := it_g h
  refine va_tb (v := .int (zs_C v0 v1.toNatClampNeg)) hx hb (hE.1.1 v0 (Nat.lt_of_not_le h3)).2.2.2 hS h4 rfl dJ1_charAt_3b067_8 ?_
  refine lv_sipush (v := (255 : Int32)) hx hb dJ1_charAt_3b067_9 (by decide) ?_
  refine lv_iand hx hb dJ1_charAt_3b067_12 ?_
  refine lv_i2c (v := (((zs_C v0 v1.toNatClampNeg) &&& (255 : Int32)).toUInt32 % 65536).toInt32) hx hb dJ1_charAt_3b067_13 rfl ?_
  obtain ⟨hz, h⟩ := it_c h
  obtain rfl := re1 h
  exact zb_zret hx hb hr hlk hz hP hS dJ1_charAt_3b067_14
abbrev rm_J0_charAt_5068e : Room := { frames := 3, cells := 0, slots := 0, locals := 64 }
theorem hd_J0_charAt_5068e : yJ0_charAt_5068e.cls = RJ0 ∧ yJ0_charAt_5068e.cls ≠ "java/lang/invoke/MethodHandle" ∧ yJ0_charAt_5068e.cls ≠ "java/lang/invoke/VarHandle" ∧ (parseMethodDescriptor yJ0_charAt_5068e.desc).map (fun d => d.parameters.length) = some 1 := by decide +kernel
theorem zk_J0_charAt_5068e_0 : Cond.fieldLink RJ0 9 "java/lang/String" "value" "[B" ∈ wsJ0_charAt_5068e := by decide +kernel
set_option maxHeartbeats 4000000 in
set_option maxRecDepth 100000 in
theorem zc_J0_charAt_5068e (l : Launch) (D : va_G) (cI : ClassId) (aK aV : Nat → Nat)  (k0 : Nat) (v1 : Int32) (r0 : Int32) (h : zf_J0_charAt_5068e k0 v1 = some r0) : CnE l D cI aK aV yJ0_charAt_5068e wsJ0_charAt_5068e rm_J0_charAt_5068e [.ref (aK k0), .int v1] ([]) (some (.int r0)) ([]) := by
  refine zb_ofWE (cc := cJ0_charAt_5068e) (maxL := 2) (ret := (some .char)) (by decide) rfl (Nat.le_of_ble_eq_true rfl) ?_
  intro p e s m args below meth c A ls hx hb hr hml hts hown hlk hK hE hP hD hA hl
  have hS : va_S A s.heap s.heap [] := va_S.rf
  have hl : lv_has ls 2 [(0, .ref (aK k0)), (1, .int v1)] := hl
  unfold zf_J0_charAt_5068e at h
  refine lv_aload_n hx hb dJ0_charAt_5068e_0 rfl (lv_at hl 0 rfl) ?_
  obtain ⟨h1, h⟩ := it_n h
  obtain ⟨r2, g3, h⟩ := bo1 h
  refine zb_callVS (k := k0) (As := []) (rest := []) ⟨hx, hb, hml, hown, hts⟩ (zc_J0_isLatin1_aae02 l D cI aK aV k0 r2 g3) (cwV 0 hts gJ0_charAt_5068e_J0_isLatin1_aae02 rfl rfl rfl hd_J0_isLatin1_aae02 ⟨Nat.le_of_ble_eq_true rfl, Nat.le_of_ble_eq_true rfl⟩) hK hE hP hD hS hA (zb_none _) (Nat.lt_of_not_le h1) rfl hl.1 rfl (Nat.le_of_ble_eq_true rfl) dJ0_charAt_5068e_1 ⟨Nat.le_refl _, Nat.le_refl _⟩ (fun H locs hP hD hS => ?_)
  refine lv_if_eq (tgt := 16) hx hb dJ0_charAt_5068e_4 (by decide) (fun c4 => ?_) (fun c4 => ?_)
  · replace h := it_t c4 h
    refine lv_aload_n hx hb dJ0_charAt_5068e_16 rfl (lv_at hl 0 rfl) ?_
    obtain ⟨h5, h⟩ := it_n h
    refine vk_getf (v := .ref (aV k0)) hx hb (hE.1.1 k0 (Nat.lt_of_not_le h5)).2.2.1 hS hown (hts _ zk_J0_charAt_5068e_0) (fun _ h9 => h9) dJ0_charAt_5068e_17 ?_
    refine lv_iload_n hx hb dJ0_charAt_5068e_20 rfl (lv_at hl 1 rfl) ?_
    exact zb_no h
  · replace h := it_f c4 h
    refine lv_aload_n hx hb dJ0_charAt_5068e_7 rfl (lv_at hl 0 rfl) ?_
    obtain ⟨h6, h⟩ := it_n h
    refine vk_getf (v := .ref (aV k0)) hx hb (hE.1.1 k0 (Nat.lt_of_not_le h6)).2.2.1 hS hown (hts _ zk_J0_charAt_5068e_0) (fun _ h9 => h9) dJ0_charAt_5068e_8 ?_
    refine lv_iload_n hx hb dJ0_charAt_5068e_11 rfl (lv_at hl 1 rfl) ?_
    obtain ⟨r7, g8, h⟩ := bo1 h
    refine zb_callSE (As := [.ref (aV k0), .int v1]) (rest := []) ⟨hx, hb, hml, hown, hts⟩ (zc_J1_charAt_3b067 l D cI aK aV k0 v1 r7 g8) (va_cwS 2 hts gJ0_charAt_5068e_J1_charAt_3b067 rfl rfl rfl hd_J1_charAt_3b067.2 ⟨Nat.le_of_ble_eq_true rfl, Nat.le_of_ble_eq_true rfl⟩) hK hE hP hD hS hA (zb_none _) rfl hl.1 rfl (Nat.le_of_ble_eq_true rfl) dJ0_charAt_5068e_12 ⟨Nat.le_refl _, Nat.le_refl _⟩ (fun H locs hP hD hS => ?_)
    obtain ⟨hz, h⟩ := it_c h
    obtain rfl := re1 h
    exact zb_zret hx hb hr hlk hz hP hS dJ0_charAt_5068e_15
abbrev rm_J0_isEmpty_aae02 : Room := { frames := 0, cells := 0, slots := 0, locals := 0 }
theorem hd_J0_isEmpty_aae02 : yJ0_isEmpty_aae02.cls = RJ0 ∧ yJ0_isEmpty_aae02.cls ≠ "java/lang/invoke/MethodHandle" ∧ yJ0_isEmpty_aae02.cls ≠ "java/lang/invoke/VarHandle" ∧ (parseMethodDescriptor yJ0_isEmpty_aae02.desc).map (fun d => d.parameters.length) = some 0 := by decide +kernel
theorem zk_J0_isEmpty_aae02_0 : Cond.fieldLink RJ0 9 "java/lang/String" "value" "[B" ∈ wsJ0_isEmpty_aae02 := by decide +kernel
set_option maxHeartbeats 4000000 in
set_option maxRecDepth 100000 in
theorem zc_J0_isEmpty_aae02 (l : Launch) (D : va_G) (cI : ClassId) (aK aV : Nat → Nat)  (k0 : Nat) (r0 : Int32) (h : zf_J0_isEmpty_aae02 k0 = some r0) : CnE l D cI aK aV yJ0_isEmpty_aae02 wsJ0_isEmpty_aae02 rm_J0_isEmpty_aae02 [.ref (aK k0)] ([]) (some (.int r0)) ([]) := by
  refine zb_ofWE (cc := cJ0_isEmpty_aae02) (maxL := 1) (ret := (some .boolean)) (by decide) rfl (Nat.le_of_ble_eq_true rfl) ?_
  intro p e s m args below meth c A ls hx hb hr hml hts hown hlk hK hE hP hD hA hl
  have hS : va_S A s.heap s.heap [] := va_S.rf
  have hl : lv_has ls 1 [(0, .ref (aK k0))] := hl
  unfold zf_J0_isEmpty_aae02 at h
  refine lv_aload_n hx hb dJ0_isEmpty_aae02_0 rfl (lv_at hl 0 rfl) ?_
  obtain ⟨h1, h⟩ := it_n h
  refine vk_getf (v := .ref (aV k0)) hx hb (hE.1.1 k0 (Nat.lt_of_not_le h1)).2.2.1 hS hown (hts _ zk_J0_isEmpty_aae02_0) (fun _ h9 => h9) dJ0_isEmpty_aae02_1 ?_
  obtain ⟨h2, h⟩ := it_n h
  refine va_tlen (v := (zs_L k0)) hx hb (hE.1.1 k0 (Nat.lt_of_not_le h2)).2.2.2 hS rfl dJ0_isEmpty_aae02_4 ?_
  refine lv_if_ne (tgt := 12) hx hb dJ0_isEmpty_aae02_5 (by decide) (fun c3 => ?_) (fun c3 => ?_)
  · replace h := it_f c3 h
    refine lv_iconst (v := (0 : Int32)) hx hb dJ0_isEmpty_aae02_12 (by decide) ?_
    obtain rfl := re1 h
    exact zb_zret hx hb hr hlk rfl hP hS dJ0_isEmpty_aae02_13
  · replace h := it_t c3 h
    refine lv_iconst (v := (1 : Int32)) hx hb dJ0_isEmpty_aae02_8 (by decide) ?_
    refine lv_goto (tgt := 13) hx hb dJ0_isEmpty_aae02_9 (by decide) ?_
    obtain rfl := re1 h
    exact zb_zret hx hb hr hlk rfl hP hS dJ0_isEmpty_aae02_13
abbrev rm_J0_coder_7d493 : Room := { frames := 0, cells := 0, slots := 0, locals := 0 }
theorem hd_J0_coder_7d493 : yJ0_coder_7d493.cls = RJ0 ∧ yJ0_coder_7d493.cls ≠ "java/lang/invoke/MethodHandle" ∧ yJ0_coder_7d493.cls ≠ "java/lang/invoke/VarHandle" ∧ (parseMethodDescriptor yJ0_coder_7d493.desc).map (fun d => d.parameters.length) = some 0 := by decide +kernel
theorem zk_J0_coder_7d493_0 : Cond.fieldLink RJ0 38 "java/lang/String" "COMPACT_STRINGS" "Z" ∈ wsJ0_coder_7d493 := by decide +kernel
theorem zk_J0_coder_7d493_1 : Cond.fieldLink RJ0 15 "java/lang/String" "coder" "B" ∈ wsJ0_coder_7d493 := by decide +kernel
set_option maxHeartbeats 4000000 in
set_option maxRecDepth 100000 in
theorem zc_J0_coder_7d493 (l : Launch) (D : va_G) (cI : ClassId) (aK aV : Nat → Nat)  (k0 : Nat) (r0 : Int32) (h : zf_J0_coder_7d493 k0 = some r0) : CnE l D cI aK aV yJ0_coder_7d493 wsJ0_coder_7d493 rm_J0_coder_7d493 [.ref (aK k0)] ([]) (some (.int r0)) ([]) := by
  refine zb_ofWE (cc := cJ0_coder_7d493) (maxL := 1) (ret := (some .byte)) (by decide) rfl (Nat.le_of_ble_eq_true rfl) ?_
  intro p e s m args below meth c A ls hx hb hr hml hts hown hlk hK hE hP hD hA hl
  have hS : va_S A s.heap s.heap [] := va_S.rf
  have hl : lv_has ls 1 [(0, .ref (aK k0))] := hl
  unfold zf_J0_coder_7d493 at h
  refine va_gets hx hb hE.2.1 hS hown (hts _ zk_J0_coder_7d493_0) (fun _ h9 => h9) dJ0_coder_7d493_0 ?_
  refine lv_if_eq (tgt := 13) hx hb dJ0_coder_7d493_3 (by decide) (fun c1 => absurd c1 (by decide)) (fun _ => ?_)
  refine lv_aload_n hx hb dJ0_coder_7d493_6 rfl (lv_at hl 0 rfl) ?_
  obtain ⟨h2, h⟩ := it_n h
  refine vk_getf (v := .int 0) hx hb (hE.1.1 k0 (Nat.lt_of_not_le h2)).2.1 hS hown (hts _ zk_J0_coder_7d493_1) (fun _ h9 => h9) dJ0_coder_7d493_7 ?_
  refine lv_goto (tgt := 14) hx hb dJ0_coder_7d493_10 (by decide) ?_
  obtain rfl := re1 h
  exact zb_zret hx hb hr hlk rfl hP hS dJ0_coder_7d493_14
abbrev rm_J0_length_8abf5 : Room := { frames := 1, cells := 0, slots := 0, locals := 20 }
theorem hd_J0_length_8abf5 : yJ0_length_8abf5.cls = RJ0 ∧ yJ0_length_8abf5.cls ≠ "java/lang/invoke/MethodHandle" ∧ yJ0_length_8abf5.cls ≠ "java/lang/invoke/VarHandle" ∧ (parseMethodDescriptor yJ0_length_8abf5.desc).map (fun d => d.parameters.length) = some 0 := by decide +kernel
theorem zk_J0_length_8abf5_0 : Cond.fieldLink RJ0 9 "java/lang/String" "value" "[B" ∈ wsJ0_length_8abf5 := by decide +kernel
set_option maxHeartbeats 4000000 in
set_option maxRecDepth 100000 in
theorem zc_J0_length_8abf5 (l : Launch) (D : va_G) (cI : ClassId) (aK aV : Nat → Nat)  (k0 : Nat) (r0 : Int32) (h : zf_J0_length_8abf5 k0 = some r0) : CnE l D cI aK aV yJ0_length_8abf5 wsJ0_length_8abf5 rm_J0_length_8abf5 [.ref (aK k0)] ([]) (some (.int r0)) ([]) := by
  refine zb_ofWE (cc := cJ0_length_8abf5) (maxL := 1) (ret := (some .int)) (by decide) rfl (Nat.le_of_ble_eq_true rfl) ?_
  intro p e s m args below meth c A ls hx hb hr hml hts hown hlk hK hE hP hD hA hl
  have hS : va_S A s.heap s.heap [] := va_S.rf
  have hl : lv_has ls 1 [(0, .ref (aK k0))] := hl
  unfold zf_J0_length_8abf5 at h
  refine lv_aload_n hx hb dJ0_length_8abf5_0 rfl (lv_at hl 0 rfl) ?_
  obtain ⟨h1, h⟩ := it_n h
  refine vk_getf (v := .ref (aV k0)) hx hb (hE.1.1 k0 (Nat.lt_of_not_le h1)).2.2.1 hS hown (hts _ zk_J0_length_8abf5_0) (fun _ h9 => h9) dJ0_length_8abf5_1 ?_
  obtain ⟨h2, h⟩ := it_n h
  refine va_tlen (v := (zs_L k0)) hx hb (hE.1.1 k0 (Nat.lt_of_not_le h2)).2.2.2 hS rfl dJ0_length_8abf5_4 ?_
  refine lv_aload_n hx hb dJ0_length_8abf5_5 rfl (lv_at hl 0 rfl) ?_
  obtain ⟨h3, h⟩ := it_n h
  obtain ⟨r4, g5, h⟩ := bo1 h
  refine zb_callVS (k := k0) (As := []) (rest := [.int (zs_L k0)]) ⟨hx, hb, hml, hown, hts⟩ (zc_J0_coder_7d493 l D cI aK aV k0 r4 g5) (cwV 0 hts gJ0_length_8abf5_J0_coder_7d493 rfl rfl rfl hd_J0_coder_7d493 ⟨Nat.le_of_ble_eq_true rfl, Nat.le_of_ble_eq_true rfl⟩) hK hE hP hD hS hA (zb_none _) (Nat.lt_of_not_le h3) rfl hl.1 rfl (Nat.le_of_ble_eq_true rfl) dJ0_length_8abf5_6 ⟨Nat.le_refl _, Nat.le_refl _⟩ (fun H locs hP hD hS => ?_)
  refine lv_ishr hx hb dJ0_length_8abf5_9 ?_
  obtain rfl := re1 h
  exact zb_iret hx hb hr hlk hP hS dJ0_length_8abf5_10
abbrev rm_J1_canEncode_9a6ad : Room := { frames := 0, cells := 0, slots := 0, locals := 0 }
theorem hd_J1_canEncode_9a6ad : yJ1_canEncode_9a6ad.cls = RJ1 ∧ yJ1_canEncode_9a6ad.cls ≠ "java/lang/invoke/MethodHandle" ∧ yJ1_canEncode_9a6ad.cls ≠ "java/lang/invoke/VarHandle" ∧ (parseMethodDescriptor yJ1_canEncode_9a6ad.desc).map (fun d => d.parameters.length) = some 1 := by decide +kernel
set_option maxHeartbeats 4000000 in
set_option maxRecDepth 100000 in
theorem zc_J1_canEncode_9a6ad (l : Launch) (D : va_G) (cI : ClassId)  (v0 : Int32) (r0 : Int32) (h : zf_J1_canEncode_9a6ad v0 = some r0) : Cn l D cI yJ1_canEncode_9a6ad wsJ1_canEncode_9a6ad rm_J1_canEncode_9a6ad [.int v0] ([]) (some (.int r0)) ([]) := by
  refine zb_ofW (cc := cJ1_canEncode_9a6ad) (maxL := 1) (ret := (some .boolean)) (by decide) rfl (Nat.le_of_ble_eq_true rfl) ?_
  intro p e s m args below meth c A ls hx hb hr hml hts hown hlk hK hP hD hA hl
  have hS : va_S A s.heap s.heap [] := va_S.rf
  have hl : lv_has ls 1 [(0, .int v0)] := hl
  unfold zf_J1_canEncode_9a6ad at h
  refine lv_iload_n hx hb dJ1_canEncode_9a6ad_0 rfl (lv_at hl 0 rfl) ?_
  refine lv_if_lt (tgt := 15) hx hb dJ1_canEncode_9a6ad_1 (by decide) (fun c1 => ?_) (fun c1 => ?_)
  · replace h := it_t c1 h
    refine lv_iconst (v := (0 : Int32)) hx hb dJ1_canEncode_9a6ad_15 (by decide) ?_
    obtain rfl := re1 h
    exact zb_zret hx hb hr hlk rfl hP hS dJ1_canEncode_9a6ad_16
  · replace h := it_f c1 h
    refine lv_iload_n hx hb dJ1_canEncode_9a6ad_4 rfl (lv_at hl 0 rfl) ?_
    refine lv_sipush (v := (255 : Int32)) hx hb dJ1_canEncode_9a6ad_5 (by decide) ?_
    refine lv_icmp_gt (tgt := 15) hx hb dJ1_canEncode_9a6ad_8 (by decide) (fun c2 => ?_) (fun c2 => ?_)
    · replace h := it_t c2 h
      refine lv_iconst (v := (0 : Int32)) hx hb dJ1_canEncode_9a6ad_15 (by decide) ?_
      obtain rfl := re1 h
      exact zb_zret hx hb hr hlk rfl hP hS dJ1_canEncode_9a6ad_16
    · replace h := it_f c2 h
      refine lv_iconst (v := (1 : Int32)) hx hb dJ1_canEncode_9a6ad_11 (by decide) ?_
      refine lv_goto (tgt := 16) hx hb dJ1_canEncode_9a6ad_12 (by decide) ?_
      obtain rfl := re1 h
      exact zb_zret hx hb hr hlk rfl hP hS dJ1_canEncode_9a6ad_16
abbrev rm_J1_indexOfChar_4cfef : Room := { frames := 0, cells := 0, slots := 0, locals := 0 }
theorem hd_J1_indexOfChar_4cfef : yJ1_indexOfChar_4cfef.cls = RJ1 ∧ yJ1_indexOfChar_4cfef.cls ≠ "java/lang/invoke/MethodHandle" ∧ yJ1_indexOfChar_4cfef.cls ≠ "java/lang/invoke/VarHandle" ∧ (parseMethodDescriptor yJ1_indexOfChar_4cfef.desc).map (fun d => d.parameters.length) = some 4 := by decide +kernel
set_option maxHeartbeats 4000000 in
set_option maxRecDepth 100000 in
theorem zc_J1_indexOfChar_4cfef (l : Launch) (D : va_G) (cI : ClassId) (aK aV : Nat → Nat)  (v0 : Nat) (v1 : Int32) (v2 : Int32) (v3 : Int32) (r0 : Int32) (h : zf_J1_indexOfChar_4cfef v0 v1 v2 v3 = some r0) : CnE l D cI aK aV yJ1_indexOfChar_4cfef wsJ1_indexOfChar_4cfef rm_J1_indexOfChar_4cfef [.ref (aV v0), .int v1, .int v2, .int v3] ([]) (some (.int r0)) ([]) := by
  refine zb_ofWE (cc := cJ1_indexOfChar_4cfef) (maxL := 6) (ret := (some .int)) (by decide) rfl (Nat.le_of_ble_eq_true rfl) ?_
  intro p e s m args below meth c A ls hx hb hr hml hts hown hlk hK hE hP hD hA hl
  have hS : va_S A s.heap s.heap [] := va_S.rf
  have hl : lv_has ls 6 [(0, .ref (aV v0)), (1, .int v1), (2, .int v2), (3, .int v3)] := hl
  unfold zf_J1_indexOfChar_4cfef at h
  refine lv_iload_n hx hb dJ1_indexOfChar_4cfef_0 rfl (lv_at hl 1 rfl) ?_
  refine lv_i2b (v := v1.toInt8.toInt32) hx hb dJ1_indexOfChar_4cfef_1 rfl ?_
  refine lv_istore (lv' := [(4, .int v1.toInt8.toInt32), (0, .ref (aV v0)), (1, .int v1), (2, .int v2), (3, .int v3)]) hx hb dJ1_indexOfChar_4cfef_2 hl (by decide) rfl (fun ls hl => ?_)
  refine lv_iload_n hx hb dJ1_indexOfChar_4cfef_4 rfl (lv_at hl 3 rfl) ?_
  refine lv_istore (lv' := [(5, .int v2), (4, .int v1.toInt8.toInt32), (0, .ref (aV v0)), (1, .int v1), (2, .int v2), (3, .int v3)]) hx hb dJ1_indexOfChar_4cfef_5 hl (by decide) rfl (fun ls hl => ?_)
  have lp2 : ∀ (fu2 : Nat) (x1 : Int32) (H : Heap) (locs : List Loc) (hP : va_P D zb_cl ([]) H) (hD : va_D A ([])) (hS : va_S A s.heap H locs) (ls : Array Slot) (hl : lv_has ls 6 [(0, .ref (aV v0)), (3, .int v3), (4, .int v1.toInt8.toInt32), (5, .int x1)]) (h : zl1 (zf_J1_indexOfChar_4cfef_b7 v0 v3 v1.toInt8.toInt32) fu2 x1 = some r0), W p l e rm_J1_indexOfChar_4cfef s m args below meth c H locs 0 0 (zb_Q below D (some (.int r0)) ([]) A args s) (F0 m 7 ls []) := by
    intro fu2
    induction fu2 with
    | zero => intro x1 H locs hP hD hS ls hl h; exact zb_no h
    | succ fu2 ih2 =>
      intro x1 H locs hP hD hS ls hl h
      replace h : zf_J1_indexOfChar_4cfef_b7 v0 v3 v1.toInt8.toInt32 (zl1 (zf_J1_indexOfChar_4cfef_b7 v0 v3 v1.toInt8.toInt32) fu2) x1 = some r0 := h
      unfold zf_J1_indexOfChar_4cfef_b7 at h
      refine lv_iload hx hb dJ1_indexOfChar_4cfef_7 (lv_at hl 3 rfl) ?_
      refine lv_iload_n hx hb dJ1_indexOfChar_4cfef_9 rfl (lv_at hl 1 rfl) ?_
      refine lv_icmp_ge (tgt := 31) hx hb dJ1_indexOfChar_4cfef_10 (by decide) (fun c3 => ?_) (fun c3 => ?_)
      · replace h := it_t c3 h
        refine lv_iconst (v := ((-1) : Int32)) hx hb dJ1_indexOfChar_4cfef_31 (by decide) ?_
        obtain rfl := re1 h
        exact zb_iret hx hb hr hlk hP hS dJ1_indexOfChar_4cfef_32
      · replace h := it_f c3 h
        refine lv_aload_n hx hb dJ1_indexOfChar_4cfef_13 rfl (lv_at hl 0 rfl) ?_
        refine lv_iload hx hb dJ1_indexOfChar_4cfef_14 (lv_at hl 3 rfl) ?_
        obtain ⟨h4, h⟩ := it_n h
        obtain ⟨h5, h⟩ := it_g h
        refine va_tb (v := .int (zs_C v0 x1.toNatClampNeg)) hx hb (hE.1.1 v0 (Nat.lt_of_not_le h4)).2.2.2 hS h5 rfl dJ1_indexOfChar_4cfef_16 ?_
        refine lv_iload hx hb dJ1_indexOfChar_4cfef_17 (lv_at hl 2 rfl) ?_
        refine lv_icmp_ne (tgt := 25) hx hb dJ1_indexOfChar_4cfef_19 (by decide) (fun c6 => ?_) (fun c6 => ?_)
        · replace h := it_f c6 h
          refine lv_iinc (v := (x1 + (1 : Int32))) (lv' := [(5, .int (x1 + (1 : Int32))), (0, .ref (aV v0)), (3, .int v3), (4, .int v1.toInt8.toInt32)]) hx hb dJ1_indexOfChar_4cfef_25 hl (k := 3) rfl (by first | rfl | decide) (by decide) rfl (fun ls hl => ?_)
          refine lv_goto (tgt := 7) hx hb dJ1_indexOfChar_4cfef_28 (by decide) ?_
          exact ih2 (x1 + (1 : Int32)) _ _ hP hD hS ls (lv_sub hl [1, 2, 3, 0] rfl) h
        · replace h := it_t c6 h
          refine lv_iload hx hb dJ1_indexOfChar_4cfef_22 (lv_at hl 3 rfl) ?_
          obtain rfl := re1 h
          exact zb_iret hx hb hr hlk hP hS dJ1_indexOfChar_4cfef_24
  exact lp2 zb_FU v2 _ _ hP hD hS ls (lv_sub hl [2, 5, 1, 0] rfl) h
abbrev rm_J1_indexOf_4cfef : Room := { frames := 1, cells := 0, slots := 0, locals := 25 }
theorem hd_J1_indexOf_4cfef : yJ1_indexOf_4cfef.cls = RJ1 ∧ yJ1_indexOf_4cfef.cls ≠ "java/lang/invoke/MethodHandle" ∧ yJ1_indexOf_4cfef.cls ≠ "java/lang/invoke/VarHandle" ∧ (parseMethodDescriptor yJ1_indexOf_4cfef.desc).map (fun d => d.parameters.length) = some 4 := by decide +kernel
theorem zk_J1_indexOf_4cfef_0 : Cond.methodLink RJ1 92 Lib.Math.max.name ∈ wsJ1_indexOf_4cfef := by decide +kernel
theorem zk_J1_indexOf_4cfef_1 : Cond.static Lib.Math.max.name ∈ wsJ1_indexOf_4cfef := by decide +kernel
theorem zk_J1_indexOf_4cfef_2 : Cond.initialized "java/lang/Math" ∈ wsJ1_indexOf_4cfef := by decide +kernel
theorem zk_J1_indexOf_4cfef_3 : Cond.code Lib.Math.max.name Lib.Math.max.code 2 (some .int) ∈ wsJ1_indexOf_4cfef := by decide +kernel
theorem zk_J1_indexOf_4cfef_4 : Cond.methodLink RJ1 38 Lib.Math.min.name ∈ wsJ1_indexOf_4cfef := by decide +kernel
theorem zk_J1_indexOf_4cfef_5 : Cond.static Lib.Math.min.name ∈ wsJ1_indexOf_4cfef := by decide +kernel
theorem zk_J1_indexOf_4cfef_6 : Cond.code Lib.Math.min.name Lib.Math.min.code 2 (some .int) ∈ wsJ1_indexOf_4cfef := by decide +kernel
set_option maxHeartbeats 4000000 in
set_option maxRecDepth 100000 in
theorem zc_J1_indexOf_4cfef (l : Launch) (D : va_G) (cI : ClassId) (aK aV : Nat → Nat)  (v0 : Nat) (v1 : Int32) (v2 : Int32) (v3 : Int32) (r0 : Int32) (h : zf_J1_indexOf_4cfef v0 v1 v2 v3 = some r0) : CnE l D cI aK aV yJ1_indexOf_4cfef wsJ1_indexOf_4cfef rm_J1_indexOf_4cfef [.ref (aV v0), .int v1, .int v2, .int v3] ([]) (some (.int r0)) ([]) := by
  refine zb_ofWE (cc := cJ1_indexOf_4cfef) (maxL := 4) (ret := (some .int)) (by decide) rfl (Nat.le_of_ble_eq_true rfl) ?_
  intro p e s m args below meth c A ls hx hb hr hml hts hown hlk hK hE hP hD hA hl
  have hS : va_S A s.heap s.heap [] := va_S.rf
  have hl : lv_has ls 4 [(0, .ref (aV v0)), (1, .int v1), (2, .int v2), (3, .int v3)] := hl
  unfold zf_J1_indexOf_4cfef at h
  refine lv_iload_n hx hb dJ1_indexOf_4cfef_0 rfl (lv_at hl 1 rfl) ?_
  obtain ⟨r1, g2, h⟩ := bo1 h
  refine zb_callS (As := [.int v1]) (rest := []) ⟨hx, hb, hml, hown, hts⟩ (zc_J1_canEncode_9a6ad l D cI v1 r1 g2) (va_cwS 1 hts gJ1_indexOf_4cfef_J1_canEncode_9a6ad rfl rfl rfl hd_J1_canEncode_9a6ad.2 ⟨Nat.le_of_ble_eq_true rfl, Nat.le_of_ble_eq_true rfl⟩) hK hP hD hS hA (zb_none _) rfl hl.1 rfl (Nat.le_of_ble_eq_true rfl) dJ1_indexOf_4cfef_1 ⟨Nat.le_refl _, Nat.le_refl _⟩ (fun H locs hP hD hS => ?_)
  refine lv_if_ne (tgt := 9) hx hb dJ1_indexOf_4cfef_4 (by decide) (fun c3 => ?_) (fun c3 => ?_)
  · replace h := it_f c3 h
    refine lv_iload_n hx hb dJ1_indexOf_4cfef_9 rfl (lv_at hl 2 rfl) ?_
    refine lv_iconst (v := (0 : Int32)) hx hb dJ1_indexOf_4cfef_10 (by decide) ?_
    refine va_mmax hx hb (hml.trans hl.1.symm) hown (hts _ zk_J1_indexOf_4cfef_0) (hts _ zk_J1_indexOf_4cfef_1) (hts _ zk_J1_indexOf_4cfef_2) (hts _ zk_J1_indexOf_4cfef_3) (Nat.le_of_ble_eq_true rfl) (Nat.le_of_ble_eq_true rfl) (Nat.zero_le _) (Nat.zero_le _) dJ1_indexOf_4cfef_11 ?_
    refine lv_istore_n (lv' := [(2, .int (if v2 < (0 : Int32) then (0 : Int32) else v2)), (0, .ref (aV v0)), (1, .int v1), (3, .int v3)]) hx hb dJ1_indexOf_4cfef_14 rfl hl (by decide) rfl (fun ls hl => ?_)
    refine lv_iload_n hx hb dJ1_indexOf_4cfef_15 rfl (lv_at hl 3 rfl) ?_
    refine lv_aload_n hx hb dJ1_indexOf_4cfef_16 rfl (lv_at hl 1 rfl) ?_
    obtain ⟨h4, h⟩ := it_n h
    refine va_tlen (v := (zs_L v0)) hx hb (hE.1.1 v0 (Nat.lt_of_not_le h4)).2.2.2 hS rfl dJ1_indexOf_4cfef_17 ?_
    refine va_mmin hx hb (hml.trans hl.1.symm) hown (hts _ zk_J1_indexOf_4cfef_4) (hts _ zk_J1_indexOf_4cfef_5) (hts _ zk_J1_indexOf_4cfef_2) (hts _ zk_J1_indexOf_4cfef_6) (Nat.le_of_ble_eq_true rfl) (Nat.le_of_ble_eq_true rfl) (Nat.zero_le _) (Nat.zero_le _) dJ1_indexOf_4cfef_18 ?_
    refine lv_istore_n (lv' := [(3, .int (if (zs_L v0) < v3 then (zs_L v0) else v3)), (2, .int (if v2 < (0 : Int32) then (0 : Int32) else v2)), (0, .ref (aV v0)), (1, .int v1)]) hx hb dJ1_indexOf_4cfef_21 rfl hl (by decide) rfl (fun ls hl => ?_)
    refine lv_iload_n hx hb dJ1_indexOf_4cfef_22 rfl (lv_at hl 1 rfl) ?_
    refine lv_iload_n hx hb dJ1_indexOf_4cfef_23 rfl (lv_at hl 0 rfl) ?_
    refine lv_icmp_lt (tgt := 29) hx hb dJ1_indexOf_4cfef_24 (by decide) (fun c5 => ?_) (fun c5 => ?_)
    · replace h := it_t c5 h
      refine lv_aload_n hx hb dJ1_indexOf_4cfef_29 rfl (lv_at hl 2 rfl) ?_
      refine lv_iload_n hx hb dJ1_indexOf_4cfef_30 rfl (lv_at hl 3 rfl) ?_
      refine lv_iload_n hx hb dJ1_indexOf_4cfef_31 rfl (lv_at hl 1 rfl) ?_
      refine lv_iload_n hx hb dJ1_indexOf_4cfef_32 rfl (lv_at hl 0 rfl) ?_
      obtain ⟨r6, g7, h⟩ := bo1 h
      refine zb_callSE (As := [.ref (aV v0), .int v1, .int (if v2 < (0 : Int32) then (0 : Int32) else v2), .int (if (zs_L v0) < v3 then (zs_L v0) else v3)]) (rest := []) ⟨hx, hb, hml, hown, hts⟩ (zc_J1_indexOfChar_4cfef l D cI aK aV v0 v1 (if v2 < (0 : Int32) then (0 : Int32) else v2) (if (zs_L v0) < v3 then (zs_L v0) else v3) r6 g7) (va_cwS 4 hts gJ1_indexOf_4cfef_J1_indexOfChar_4cfef rfl rfl rfl hd_J1_indexOfChar_4cfef.2 ⟨Nat.le_of_ble_eq_true rfl, Nat.le_of_ble_eq_true rfl⟩) hK hE hP hD hS hA (zb_none _) rfl hl.1 rfl (Nat.le_of_ble_eq_true rfl) dJ1_indexOf_4cfef_33 ⟨Nat.le_refl _, Nat.le_refl _⟩ (fun H locs hP hD hS => ?_)
      obtain rfl := re1 h
      exact zb_iret hx hb hr hlk hP hS dJ1_indexOf_4cfef_36
    · replace h := it_f c5 h
      refine lv_iconst (v := ((-1) : Int32)) hx hb dJ1_indexOf_4cfef_27 (by decide) ?_
      obtain rfl := re1 h
      exact zb_iret hx hb hr hlk hP hS dJ1_indexOf_4cfef_28
  · replace h := it_t c3 h
    refine lv_iconst (v := ((-1) : Int32)) hx hb dJ1_indexOf_4cfef_7 (by decide) ?_
    obtain rfl := re1 h
    exact zb_iret hx hb hr hlk hP hS dJ1_indexOf_4cfef_8
abbrev rm_J0_indexOf_7cf53 : Room := { frames := 2, cells := 0, slots := 0, locals := 48 }
theorem hd_J0_indexOf_7cf53 : yJ0_indexOf_7cf53.cls = RJ0 ∧ yJ0_indexOf_7cf53.cls ≠ "java/lang/invoke/MethodHandle" ∧ yJ0_indexOf_7cf53.cls ≠ "java/lang/invoke/VarHandle" ∧ (parseMethodDescriptor yJ0_indexOf_7cf53.desc).map (fun d => d.parameters.length) = some 2 := by decide +kernel
theorem zk_J0_indexOf_7cf53_0 : Cond.fieldLink RJ0 9 "java/lang/String" "value" "[B" ∈ wsJ0_indexOf_7cf53 := by decide +kernel
set_option maxHeartbeats 4000000 in
set_option maxRecDepth 100000 in
theorem zc_J0_indexOf_7cf53 (l : Launch) (D : va_G) (cI : ClassId) (aK aV : Nat → Nat)  (k0 : Nat) (v1 : Int32) (v2 : Int32) (r0 : Int32) (h : zf_J0_indexOf_7cf53 k0 v1 v2 = some r0) : CnE l D cI aK aV yJ0_indexOf_7cf53 wsJ0_indexOf_7cf53 rm_J0_indexOf_7cf53 [.ref (aK k0), .int v1, .int v2] ([]) (some (.int r0)) ([]) := by
  refine zb_ofWE (cc := cJ0_indexOf_7cf53) (maxL := 3) (ret := (some .int)) (by decide) rfl (Nat.le_of_ble_eq_true rfl) ?_
  intro p e s m args below meth c A ls hx hb hr hml hts hown hlk hK hE hP hD hA hl
  have hS : va_S A s.heap s.heap [] := va_S.rf
  have hl : lv_has ls 3 [(0, .ref (aK k0)), (1, .int v1), (2, .int v2)] := hl
  unfold zf_J0_indexOf_7cf53 at h
  refine lv_aload_n hx hb dJ0_indexOf_7cf53_0 rfl (lv_at hl 0 rfl) ?_
  obtain ⟨h1, h⟩ := it_n h
  obtain ⟨r2, g3, h⟩ := bo1 h
  refine zb_callVS (k := k0) (As := []) (rest := []) ⟨hx, hb, hml, hown, hts⟩ (zc_J0_isLatin1_aae02 l D cI aK aV k0 r2 g3) (cwV 0 hts gJ0_indexOf_7cf53_J0_isLatin1_aae02 rfl rfl rfl hd_J0_isLatin1_aae02 ⟨Nat.le_of_ble_eq_true rfl, Nat.le_of_ble_eq_true rfl⟩) hK hE hP hD hS hA (zb_none _) (Nat.lt_of_not_le h1) rfl hl.1 rfl (Nat.le_of_ble_eq_true rfl) dJ0_indexOf_7cf53_1 ⟨Nat.le_refl _, Nat.le_refl _⟩ (fun H locs hP hD hS => ?_)
  refine lv_if_eq (tgt := 23) hx hb dJ0_indexOf_7cf53_4 (by decide) (fun c4 => ?_) (fun c4 => ?_)
  · replace h := it_t c4 h
    refine lv_aload_n hx hb dJ0_indexOf_7cf53_23 rfl (lv_at hl 0 rfl) ?_
    obtain ⟨h5, h⟩ := it_n h
    refine vk_getf (v := .ref (aV k0)) hx hb (hE.1.1 k0 (Nat.lt_of_not_le h5)).2.2.1 hS hown (hts _ zk_J0_indexOf_7cf53_0) (fun _ h9 => h9) dJ0_indexOf_7cf53_24 ?_
    refine lv_iload_n hx hb dJ0_indexOf_7cf53_27 rfl (lv_at hl 1 rfl) ?_
    refine lv_iload_n hx hb dJ0_indexOf_7cf53_28 rfl (lv_at hl 2 rfl) ?_
    refine lv_aload_n hx hb dJ0_indexOf_7cf53_29 rfl (lv_at hl 0 rfl) ?_
    obtain ⟨h6, h⟩ := it_n h
    obtain ⟨r7, g8, h⟩ := bo1 h
    refine zb_callVS (k := k0) (As := []) (rest := [.int v2, .int v1, .ref (aV k0)]) ⟨hx, hb, hml, hown, hts⟩ (zc_J0_length_8abf5 l D cI aK aV k0 r7 g8) (cwV 0 hts gJ0_indexOf_7cf53_J0_length_8abf5 rfl rfl rfl hd_J0_length_8abf5 ⟨Nat.le_of_ble_eq_true rfl, Nat.le_of_ble_eq_true rfl⟩) hK hE hP hD hS hA (zb_none _) (Nat.lt_of_not_le h6) rfl hl.1 rfl (Nat.le_of_ble_eq_true rfl) dJ0_indexOf_7cf53_30 ⟨Nat.le_refl _, Nat.le_refl _⟩ (fun H locs hP hD hS => ?_)
    exact zb_no h
  · replace h := it_f c4 h
    refine lv_aload_n hx hb dJ0_indexOf_7cf53_7 rfl (lv_at hl 0 rfl) ?_
    obtain ⟨h9, h⟩ := it_n h
    refine vk_getf (v := .ref (aV k0)) hx hb (hE.1.1 k0 (Nat.lt_of_not_le h9)).2.2.1 hS hown (hts _ zk_J0_indexOf_7cf53_0) (fun _ h9 => h9) dJ0_indexOf_7cf53_8 ?_
    refine lv_iload_n hx hb dJ0_indexOf_7cf53_11 rfl (lv_at hl 1 rfl) ?_
    refine lv_iload_n hx hb dJ0_indexOf_7cf53_12 rfl (lv_at hl 2 rfl) ?_
    refine lv_aload_n hx hb dJ0_indexOf_7cf53_13 rfl (lv_at hl 0 rfl) ?_
    obtain ⟨h10, h⟩ := it_n h
    obtain ⟨r11, g12, h⟩ := bo1 h
    refine zb_callVS (k := k0) (As := []) (rest := [.int v2, .int v1, .ref (aV k0)]) ⟨hx, hb, hml, hown, hts⟩ (zc_J0_length_8abf5 l D cI aK aV k0 r11 g12) (cwV 0 hts gJ0_indexOf_7cf53_J0_length_8abf5 rfl rfl rfl hd_J0_length_8abf5 ⟨Nat.le_of_ble_eq_true rfl, Nat.le_of_ble_eq_true rfl⟩) hK hE hP hD hS hA (zb_none _) (Nat.lt_of_not_le h10) rfl hl.1 rfl (Nat.le_of_ble_eq_true rfl) dJ0_indexOf_7cf53_14 ⟨Nat.le_refl _, Nat.le_refl _⟩ (fun H locs hP hD hS => ?_)
    obtain ⟨r13, g14, h⟩ := bo1 h
    refine zb_callSE (As := [.ref (aV k0), .int v1, .int v2, .int r11]) (rest := []) ⟨hx, hb, hml, hown, hts⟩ (zc_J1_indexOf_4cfef l D cI aK aV k0 v1 v2 r11 r13 g14) (va_cwS 4 hts gJ0_indexOf_7cf53_J1_indexOf_4cfef rfl rfl rfl hd_J1_indexOf_4cfef.2 ⟨Nat.le_of_ble_eq_true rfl, Nat.le_of_ble_eq_true rfl⟩) hK hE hP hD hS hA (zb_none _) rfl hl.1 rfl (Nat.le_of_ble_eq_true rfl) dJ0_indexOf_7cf53_17 ⟨Nat.le_refl _, Nat.le_refl _⟩ (fun H locs hP hD hS => ?_)
    refine lv_goto (tgt := 36) hx hb dJ0_indexOf_7cf53_20 (by decide) ?_
    obtain rfl := re1 h
    exact zb_iret hx hb hr hlk hP hS dJ0_indexOf_7cf53_36
abbrev rm_J0_indexOf_0f7a4 : Room := { frames := 3, cells := 0, slots := 0, locals := 70 }
theorem hd_J0_indexOf_0f7a4 : yJ0_indexOf_0f7a4.cls = RJ0 ∧ yJ0_indexOf_0f7a4.cls ≠ "java/lang/invoke/MethodHandle" ∧ yJ0_indexOf_0f7a4.cls ≠ "java/lang/invoke/VarHandle" ∧ (parseMethodDescriptor yJ0_indexOf_0f7a4.desc).map (fun d => d.parameters.length) = some 1 := by decide +kernel
set_option maxHeartbeats 4000000 in
set_option maxRecDepth 100000 in
theorem zc_J0_indexOf_0f7a4 (l : Launch) (D : va_G) (cI : ClassId) (aK aV : Nat → Nat)  (k0 : Nat) (v1 : Int32) (r0 : Int32) (h : zf_J0_indexOf_0f7a4 k0 v1 = some r0) : CnE l D cI aK aV yJ0_indexOf_0f7a4 wsJ0_indexOf_0f7a4 rm_J0_indexOf_0f7a4 [.ref (aK k0), .int v1] ([]) (some (.int r0)) ([]) := by
  refine zb_ofWE (cc := cJ0_indexOf_0f7a4) (maxL := 2) (ret := (some .int)) (by decide) rfl (Nat.le_of_ble_eq_true rfl) ?_
  intro p e s m args below meth c A ls hx hb hr hml hts hown hlk hK hE hP hD hA hl
  have hS : va_S A s.heap s.heap [] := va_S.rf
  have hl : lv_has ls 2 [(0, .ref (aK k0)), (1, .int v1)] := hl
  unfold zf_J0_indexOf_0f7a4 at h
  refine lv_aload_n hx hb dJ0_indexOf_0f7a4_0 rfl (lv_at hl 0 rfl) ?_
  refine lv_iload_n hx hb dJ0_indexOf_0f7a4_1 rfl (lv_at hl 1 rfl) ?_
  refine lv_iconst (v := (0 : Int32)) hx hb dJ0_indexOf_0f7a4_2 (by decide) ?_
  obtain ⟨h1, h⟩ := it_n h
  obtain ⟨r2, g3, h⟩ := bo1 h
  refine zb_callVS (k := k0) (As := [.int v1, .int (0 : Int32)]) (rest := []) ⟨hx, hb, hml, hown, hts⟩ (zc_J0_indexOf_7cf53 l D cI aK aV k0 v1 (0 : Int32) r2 g3) (cwV 2 hts gJ0_indexOf_0f7a4_J0_indexOf_7cf53 rfl rfl rfl hd_J0_indexOf_7cf53 ⟨Nat.le_of_ble_eq_true rfl, Nat.le_of_ble_eq_true rfl⟩) hK hE hP hD hS hA (zb_none _) (Nat.lt_of_not_le h1) rfl hl.1 rfl (Nat.le_of_ble_eq_true rfl) dJ0_indexOf_0f7a4_3 ⟨Nat.le_refl _, Nat.le_refl _⟩ (fun H locs hP hD hS => ?_)
  obtain rfl := re1 h
  exact zb_iret hx hb hr hlk hP hS dJ0_indexOf_0f7a4_6
