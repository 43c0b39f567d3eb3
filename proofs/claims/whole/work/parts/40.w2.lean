abbrev rm_X2_isIn : Room := { frames := 0, cells := 0, slots := 0, locals := 0 }
theorem hd_X2_isIn : yX2_isIn.cls = RX2 ∧ yX2_isIn.cls ≠ "java/lang/invoke/MethodHandle" ∧ yX2_isIn.cls ≠ "java/lang/invoke/VarHandle" ∧ (parseMethodDescriptor yX2_isIn.desc).map (fun d => d.parameters.length) = some 3 := by decide +kernel
set_option maxHeartbeats 4000000 in
set_option maxRecDepth 100000 in
theorem zc_X2_isIn (l : Launch) (D : va_G) (cI : ClassId)  (v0 : Int32) (v1 : Int32) (v2 : Int32) (r0 : Int32) (h : zf_X2_isIn v0 v1 v2 = some r0) : Cn l D cI yX2_isIn wsX2_isIn rm_X2_isIn [.int v0, .int v1, .int v2] ([]) (some (.int r0)) ([]) := by
  refine zb_ofW (cc := cX2_isIn) (maxL := 3) (ret := (some .boolean)) (by decide) rfl (Nat.le_of_ble_eq_true rfl) ?_
  intro p e s m args below meth c A ls hx hb hr hml hts hown hlk hK hP hD hA hl
  have hS : va_S A s.heap s.heap [] := va_S.rf
  have hl : lv_has ls 3 [(0, .int v0), (1, .int v1), (2, .int v2)] := hl
  unfold zf_X2_isIn at h
  refine lv_iload_n hx hb dX2_isIn_0 rfl (lv_at hl 0 rfl) ?_
  refine lv_iload_n hx hb dX2_isIn_1 rfl (lv_at hl 1 rfl) ?_
  refine lv_icmp_lt (tgt := 14) hx hb dX2_isIn_2 (by decide) (fun c1 => ?_) (fun c1 => ?_)
  · replace h := it_t c1 h
    refine lv_iconst (v := (0 : Int32)) hx hb dX2_isIn_14 (by decide) ?_
    obtain rfl := re1 h
    exact zb_zret hx hb hr hlk rfl hP hS dX2_isIn_15
  · replace h := it_f c1 h
    refine lv_iload_n hx hb dX2_isIn_5 rfl (lv_at hl 0 rfl) ?_
    refine lv_iload_n hx hb dX2_isIn_6 rfl (lv_at hl 2 rfl) ?_
    refine lv_icmp_gt (tgt := 14) hx hb dX2_isIn_7 (by decide) (fun c2 => ?_) (fun c2 => ?_)
    · replace h := it_t c2 h
      refine lv_iconst (v := (0 : Int32)) hx hb dX2_isIn_14 (by decide) ?_
      obtain rfl := re1 h
      exact zb_zret hx hb hr hlk rfl hP hS dX2_isIn_15
    · replace h := it_f c2 h
      refine lv_iconst (v := (1 : Int32)) hx hb dX2_isIn_10 (by decide) ?_
      refine lv_goto (tgt := 15) hx hb dX2_isIn_11 (by decide) ?_
      obtain rfl := re1 h
      exact zb_zret hx hb hr hlk rfl hP hS dX2_isIn_15
abbrev rm_X2_least : Room := { frames := 0, cells := 0, slots := 0, locals := 0 }
theorem hd_X2_least : yX2_least.cls = RX2 ∧ yX2_least.cls ≠ "java/lang/invoke/MethodHandle" ∧ yX2_least.cls ≠ "java/lang/invoke/VarHandle" ∧ (parseMethodDescriptor yX2_least.desc).map (fun d => d.parameters.length) = some 2 := by decide +kernel
set_option maxHeartbeats 4000000 in
set_option maxRecDepth 100000 in
theorem zc_X2_least (l : Launch) (D : va_G) (cI : ClassId)  (v0 : Int32) (v1 : Int32) (r0 : Int32) (h : zf_X2_least v0 v1 = some r0) : Cn l D cI yX2_least wsX2_least rm_X2_least [.int v0, .int v1] ([]) (some (.int r0)) ([]) := by
  refine zb_ofW (cc := cX2_least) (maxL := 2) (ret := (some .int)) (by decide) rfl (Nat.le_of_ble_eq_true rfl) ?_
  intro p e s m args below meth c A ls hx hb hr hml hts hown hlk hK hP hD hA hl
  have hS : va_S A s.heap s.heap [] := va_S.rf
  have hl : lv_has ls 2 [(0, .int v0), (1, .int v1)] := hl
  unfold zf_X2_least at h
  refine lv_iload_n hx hb dX2_least_0 rfl (lv_at hl 0 rfl) ?_
  refine lv_iload_n hx hb dX2_least_1 rfl (lv_at hl 1 rfl) ?_
  refine lv_icmp_ge (tgt := 9) hx hb dX2_least_2 (by decide) (fun c1 => ?_) (fun c1 => ?_)
  · replace h := it_t c1 h
    refine lv_iload_n hx hb dX2_least_9 rfl (lv_at hl 1 rfl) ?_
    obtain rfl := re1 h
    exact zb_iret hx hb hr hlk hP hS dX2_least_10
  · replace h := it_f c1 h
    refine lv_iload_n hx hb dX2_least_5 rfl (lv_at hl 0 rfl) ?_
    refine lv_goto (tgt := 10) hx hb dX2_least_6 (by decide) ?_
    obtain rfl := re1 h
    exact zb_iret hx hb hr hlk hP hS dX2_least_10
abbrev rm_X2_apart : Room := { frames := 0, cells := 0, slots := 0, locals := 0 }
theorem hd_X2_apart : yX2_apart.cls = RX2 ∧ yX2_apart.cls ≠ "java/lang/invoke/MethodHandle" ∧ yX2_apart.cls ≠ "java/lang/invoke/VarHandle" ∧ (parseMethodDescriptor yX2_apart.desc).map (fun d => d.parameters.length) = some 2 := by decide +kernel
set_option maxHeartbeats 4000000 in
set_option maxRecDepth 100000 in
theorem zc_X2_apart (l : Launch) (D : va_G) (cI : ClassId)  (v0 : Int32) (v1 : Int32) (r0 : Int32) (h : zf_X2_apart v0 v1 = some r0) : Cn l D cI yX2_apart wsX2_apart rm_X2_apart [.int v0, .int v1] ([]) (some (.int r0)) ([]) := by
  refine zb_ofW (cc := cX2_apart) (maxL := 2) (ret := (some .int)) (by decide) rfl (Nat.le_of_ble_eq_true rfl) ?_
  intro p e s m args below meth c A ls hx hb hr hml hts hown hlk hK hP hD hA hl
  have hS : va_S A s.heap s.heap [] := va_S.rf
  have hl : lv_has ls 2 [(0, .int v0), (1, .int v1)] := hl
  unfold zf_X2_apart at h
  refine lv_iload_n hx hb dX2_apart_0 rfl (lv_at hl 0 rfl) ?_
  refine lv_iload_n hx hb dX2_apart_1 rfl (lv_at hl 1 rfl) ?_
  refine lv_icmp_ge (tgt := 11) hx hb dX2_apart_2 (by decide) (fun c1 => ?_) (fun c1 => ?_)
  · replace h := it_t c1 h
    refine lv_iload_n hx hb dX2_apart_11 rfl (lv_at hl 0 rfl) ?_
    refine lv_iload_n hx hb dX2_apart_12 rfl (lv_at hl 1 rfl) ?_
    refine lv_isub hx hb dX2_apart_13 ?_
    obtain rfl := re1 h
    exact zb_iret hx hb hr hlk hP hS dX2_apart_14
  · replace h := it_f c1 h
    refine lv_iload_n hx hb dX2_apart_5 rfl (lv_at hl 1 rfl) ?_
    refine lv_iload_n hx hb dX2_apart_6 rfl (lv_at hl 0 rfl) ?_
    refine lv_isub hx hb dX2_apart_7 ?_
    refine lv_goto (tgt := 14) hx hb dX2_apart_8 (by decide) ?_
    obtain rfl := re1 h
    exact zb_iret hx hb hr hlk hP hS dX2_apart_14
abbrev rm_X2_copies : Room := { frames := 0, cells := 0, slots := 0, locals := 0 }
theorem hd_X2_copies : yX2_copies.cls = RX2 ∧ yX2_copies.cls ≠ "java/lang/invoke/MethodHandle" ∧ yX2_copies.cls ≠ "java/lang/invoke/VarHandle" ∧ (parseMethodDescriptor yX2_copies.desc).map (fun d => d.parameters.length) = some 2 := by decide +kernel
set_option maxHeartbeats 4000000 in
set_option maxRecDepth 100000 in
theorem zc_X2_copies (l : Launch) (D : va_G) (cI : ClassId) (a b : Nat) (r : (Nat → Int32)) (q : (Nat → Int32)) (w_q : (Nat → Int32)) (h : zf_X2_copies r q = some w_q) : Cn l D cI yX2_copies wsX2_copies rm_X2_copies [.ref a, .ref b] (zb_AA cI a b r q) none (zb_AA cI a b r w_q) := by
  refine zb_ofW (cc := cX2_copies) (maxL := 3) (ret := none) (by decide) rfl (Nat.le_of_ble_eq_true rfl) ?_
  intro p e s m args below meth c A ls hx hb hr hml hts hown hlk hK hP hD hA hl
  have hS : va_S A s.heap s.heap [] := va_S.rf
  have hl : lv_has ls 3 [(0, .ref a), (1, .ref b)] := hl
  unfold zf_X2_copies at h
  refine lv_iconst (v := (0 : Int32)) hx hb dX2_copies_0 (by decide) ?_
  refine lv_istore_n (lv' := [(2, .int (0 : Int32)), (0, .ref a), (1, .ref b)]) hx hb dX2_copies_1 rfl hl (by decide) rfl (fun ls hl => ?_)
  have lp3 : ∀ (fu3 : Nat) (x1 : Int32) (x2 : (Nat → Int32)) (H : Heap) (locs : List Loc) (hP : va_P D zb_cl (zb_AA cI a b r x2) H) (hD : va_D A (zb_AA cI a b r x2)) (hS : va_S A s.heap H locs) (ls : Array Slot) (hl : lv_has ls 3 [(0, .ref a), (1, .ref b), (2, .int x1)]) (h : zl2 (zf_X2_copies_b2 r) fu3 x1 x2 = some w_q), W p l e rm_X2_copies s m args below meth c H locs 0 0 (zb_Q below D none (zb_AA cI a b r w_q) A args s) (F0 m 2 ls []) := by
    intro fu3
    induction fu3 with
    | zero => intro x1 x2 H locs hP hD hS ls hl h; exact zb_no h
    | succ fu3 ih3 =>
      intro x1 x2 H locs hP hD hS ls hl h
      replace h : zf_X2_copies_b2 r (zl2 (zf_X2_copies_b2 r) fu3) x1 x2 = some w_q := h
      unfold zf_X2_copies_b2 at h
      refine lv_iload_n hx hb dX2_copies_2 rfl (lv_at hl 2 rfl) ?_
      refine lv_bipush (v := (105 : Int32)) hx hb dX2_copies_3 (by decide) ?_
      refine lv_icmp_ge (tgt := 20) hx hb dX2_copies_5 (by decide) (fun c4 => ?_) (fun c4 => ?_)
      · replace h := it_t c4 h
        obtain rfl := re1 h
        exact zb_vret hx hb hr hlk hP hS dX2_copies_20
      · replace h := it_f c4 h
        refine lv_aload_n hx hb dX2_copies_8 rfl (lv_at hl 1 rfl) ?_
        refine lv_iload_n hx hb dX2_copies_9 rfl (lv_at hl 2 rfl) ?_
        refine lv_aload_n hx hb dX2_copies_10 rfl (lv_at hl 0 rfl) ?_
        refine lv_iload_n hx hb dX2_copies_11 rfl (lv_at hl 2 rfl) ?_
        obtain ⟨h5, h⟩ := it_g h
        refine va_iald hx hb hK.1 hP 0 0 rfl rfl h5 dX2_copies_12 ?_
        obtain ⟨h6, h⟩ := it_g h
        refine va_iast hx hb hK.1 hP hD hS 1 0 rfl rfl h6 dX2_copies_13 (fun H locs hP hD hS => ?_)
        have hP : va_P D zb_cl (zb_AA cI a b r (upd x2 x1.toNatClampNeg (r x1.toNatClampNeg))) H := hP
        have hD : va_D A (zb_AA cI a b r (upd x2 x1.toNatClampNeg (r x1.toNatClampNeg))) := hD
        refine lv_iinc (v := (x1 + (1 : Int32))) (lv' := [(2, .int (x1 + (1 : Int32))), (0, .ref a), (1, .ref b)]) hx hb dX2_copies_14 hl (k := 2) rfl (by first | rfl | decide) (by decide) rfl (fun ls hl => ?_)
        refine lv_goto (tgt := 2) hx hb dX2_copies_17 (by decide) ?_
        exact ih3 (x1 + (1 : Int32)) (upd x2 x1.toNatClampNeg (r x1.toNatClampNeg)) _ _ hP hD hS ls (lv_sub hl [1, 2, 0] rfl) h
  exact lp3 zb_FU (0 : Int32) q _ _ hP hD hS ls (lv_sub hl [1, 2, 0] rfl) h
abbrev rm_X2_no : Room := { frames := 0, cells := 0, slots := 0, locals := 0 }
theorem hd_X2_no : yX2_no.cls = RX2 ∧ yX2_no.cls ≠ "java/lang/invoke/MethodHandle" ∧ yX2_no.cls ≠ "java/lang/invoke/VarHandle" ∧ (parseMethodDescriptor yX2_no.desc).map (fun d => d.parameters.length) = some 1 := by decide +kernel
theorem zi_X2_no_X2 : ∀ w ∈ wsX20, w ∈ wsX2_no := fun _ h => List.mem_cons_of_mem _ (List.mem_append_right _ h)
theorem zk_X2_no_0 : Cond.fieldLink RX2 28 "GroutingIsFollowedModel" "refused" "[I" ∈ wsX2_no := by decide +kernel
set_option maxHeartbeats 4000000 in
set_option maxRecDepth 100000 in
theorem zc_X2_no (l : Launch) (D : va_G) (cI : ClassId) (ad : Nat → Nat) (m_s : (Nat → Int32)) (m_m : (Nat → Int32)) (m_image : (Nat → Int32)) (m_was : (Nat → Int32)) (m_hasImage : Int32) (m_letters : (Nat → Int32)) (m_row : (Nat → Int32)) (m_refused : (Nat → Int32)) (m_letterMany : Int32) (m_rowMany : Int32) (m_place : Int32) (m_numbers : (Nat → Int32)) (m_cost : (Nat → Int32)) (m_seed : Int32) (v1 : Int32) (r0 : Int32) (w_m_refused : (Nat → Int32)) (h : zf_X2_no m_refused v1 = some (r0, w_m_refused)) : Cn l D cI yX2_no wsX2_no rm_X2_no [.ref (ad 0), .int v1] (zb_M cI ad m_s m_m m_image m_was m_hasImage m_letters m_row m_refused m_letterMany m_rowMany m_place m_numbers m_cost m_seed) (some (.int r0)) (zb_M cI ad m_s m_m m_image m_was m_hasImage m_letters m_row w_m_refused m_letterMany m_rowMany m_place m_numbers m_cost m_seed) := by
  refine zb_ofW (cc := cX2_no) (maxL := 2) (ret := (some .int)) (by decide) rfl (Nat.le_of_ble_eq_true rfl) ?_
  intro p e s m args below meth c A ls hx hb hr hml hts hown hlk hK hP hD hA hl
  have hS : va_S A s.heap s.heap [] := va_S.rf
  have hl : lv_has ls 2 [(0, .ref (ad 0)), (1, .int v1)] := hl
  unfold zf_X2_no at h
  refine lv_aload_n hx hb dX2_no_0 rfl (lv_at hl 0 rfl) ?_
  refine va_get (D := D) (ci := 2) (v := .ref (ad 7)) (C := RX2) (T := TX2) (N := 14) hx hb hts zi_X2_no_X2 hown hK.1 hP 0 rfl rfl 7 (by decide) (hts _ zk_X2_no_0) (fun _ h9 => h9) rfl dX2_no_1 ?_
  refine lv_iload_n hx hb dX2_no_4 rfl (lv_at hl 1 rfl) ?_
  refine lv_ineg hx hb dX2_no_5 ?_
  refine lv_dup2_11 hx hb dX2_no_6 rfl rfl ?_
  obtain ⟨h1, h⟩ := it_g h
  refine va_iald hx hb hK.1 hP 7 0 rfl rfl h1 dX2_no_7 ?_
  refine lv_iconst (v := (1 : Int32)) hx hb dX2_no_8 (by decide) ?_
  refine lv_iadd hx hb dX2_no_9 ?_
  obtain ⟨h2, h⟩ := it_g h
  refine va_iast hx hb hK.1 hP hD hS 7 0 rfl rfl h2 dX2_no_10 (fun H locs hP hD hS => ?_)
  have hP : va_P D zb_cl (zb_M cI ad m_s m_m m_image m_was m_hasImage m_letters m_row (upd m_refused (-v1).toNatClampNeg ((m_refused (-v1).toNatClampNeg) + (1 : Int32))) m_letterMany m_rowMany m_place m_numbers m_cost m_seed) H := hP
  have hD : va_D A (zb_M cI ad m_s m_m m_image m_was m_hasImage m_letters m_row (upd m_refused (-v1).toNatClampNeg ((m_refused (-v1).toNatClampNeg) + (1 : Int32))) m_letterMany m_rowMany m_place m_numbers m_cost m_seed) := hD
  refine lv_iload_n hx hb dX2_no_11 rfl (lv_at hl 1 rfl) ?_
  obtain ⟨rfl, rfl⟩ := re2 h
  exact zb_iret hx hb hr hlk hP hS dX2_no_12
abbrev rm_X2_noWide : Room := { frames := 1, cells := 0, slots := 0, locals := 21 }
theorem hd_X2_noWide : yX2_noWide.cls = RX2 ∧ yX2_noWide.cls ≠ "java/lang/invoke/MethodHandle" ∧ yX2_noWide.cls ≠ "java/lang/invoke/VarHandle" ∧ (parseMethodDescriptor yX2_noWide.desc).map (fun d => d.parameters.length) = some 1 := by decide +kernel
theorem zk_X2_noWide_0 : Cond.constantLong RX2 37 (4000000000000000000) ∈ wsX2_noWide := by decide +kernel
set_option maxHeartbeats 4000000 in
set_option maxRecDepth 100000 in
theorem zc_X2_noWide (l : Launch) (D : va_G) (cI : ClassId) (ad : Nat → Nat) (m_s : (Nat → Int32)) (m_m : (Nat → Int32)) (m_image : (Nat → Int32)) (m_was : (Nat → Int32)) (m_hasImage : Int32) (m_letters : (Nat → Int32)) (m_row : (Nat → Int32)) (m_refused : (Nat → Int32)) (m_letterMany : Int32) (m_rowMany : Int32) (m_place : Int32) (m_numbers : (Nat → Int32)) (m_cost : (Nat → Int32)) (m_seed : Int32) (v1 : Int32) (r0 : Int64) (w_m_refused : (Nat → Int32)) (h : zf_X2_noWide m_refused v1 = some (r0, w_m_refused)) : Cn l D cI yX2_noWide wsX2_noWide rm_X2_noWide [.ref (ad 0), .int v1] (zb_M cI ad m_s m_m m_image m_was m_hasImage m_letters m_row m_refused m_letterMany m_rowMany m_place m_numbers m_cost m_seed) (some (.long r0)) (zb_M cI ad m_s m_m m_image m_was m_hasImage m_letters m_row w_m_refused m_letterMany m_rowMany m_place m_numbers m_cost m_seed) := by
  refine zb_ofW (cc := cX2_noWide) (maxL := 2) (ret := (some .long)) (by decide) rfl (Nat.le_of_ble_eq_true rfl) ?_
  intro p e s m args below meth c A ls hx hb hr hml hts hown hlk hK hP hD hA hl
  have hS : va_S A s.heap s.heap [] := va_S.rf
  have hl : lv_has ls 2 [(0, .ref (ad 0)), (1, .int v1)] := hl
  unfold zf_X2_noWide at h
  refine lv_ldc2 (v := (4000000000000000000 : Int64)) hx hb hown (hts _ zk_X2_noWide_0) dX2_noWide_0 ?_
  refine lv_aload_n hx hb dX2_noWide_3 rfl (lv_at hl 0 rfl) ?_
  refine lv_iload_n hx hb dX2_noWide_4 rfl (lv_at hl 1 rfl) ?_
  obtain ⟨r1, n2, g3, h⟩ := bo2 h
  refine zb_callV (As := [.int v1]) (rest := [.long (4000000000000000000 : Int64)]) ⟨hx, hb, hml, hown, hts⟩ (zc_X2_no l D cI ad m_s m_m m_image m_was m_hasImage m_letters m_row m_refused m_letterMany m_rowMany m_place m_numbers m_cost m_seed v1 r1 n2 g3) (cwV 1 hts gX2_noWide_X2_no rfl rfl rfl hd_X2_no ⟨Nat.le_of_ble_eq_true rfl, Nat.le_of_ble_eq_true rfl⟩) hK hP hD hS hA (zb_sM) (q0 := 0) rfl rfl rfl hl.1 rfl (Nat.le_of_ble_eq_true rfl) dX2_noWide_5 ⟨Nat.le_refl _, Nat.le_refl _⟩ (fun H locs hP hD hS => ?_)
  refine lv_i2l (v := r1.toInt64) hx hb dX2_noWide_8 rfl ?_
  refine lv_lsub hx hb dX2_noWide_9 ?_
  obtain ⟨rfl, rfl⟩ := re2 h
  exact zb_lret hx hb hr hlk hP hS dX2_noWide_10
abbrev rm_X2_of : Room := { frames := 0, cells := 0, slots := 0, locals := 0 }
theorem hd_X2_of : yX2_of.cls = RX2 ∧ yX2_of.cls ≠ "java/lang/invoke/MethodHandle" ∧ yX2_of.cls ≠ "java/lang/invoke/VarHandle" ∧ (parseMethodDescriptor yX2_of.desc).map (fun d => d.parameters.length) = some 2 := by decide +kernel
set_option maxHeartbeats 4000000 in
set_option maxRecDepth 100000 in
theorem zc_X2_of (l : Launch) (D : va_G) (cI : ClassId)  (v0 : Int32) (v1 : Int32) (r0 : Int32) (h : zf_X2_of v0 v1 = some r0) : Cn l D cI yX2_of wsX2_of rm_X2_of [.int v0, .int v1] ([]) (some (.int r0)) ([]) := by
  refine zb_ofW (cc := cX2_of) (maxL := 2) (ret := (some .int)) (by decide) rfl (Nat.le_of_ble_eq_true rfl) ?_
  intro p e s m args below meth c A ls hx hb hr hml hts hown hlk hK hP hD hA hl
  have hS : va_S A s.heap s.heap [] := va_S.rf
  have hl : lv_has ls 2 [(0, .int v0), (1, .int v1)] := hl
  unfold zf_X2_of at h
  refine lv_bipush (v := (93 : Int32)) hx hb dX2_of_0 (by decide) ?_
  refine lv_iconst (v := (3 : Int32)) hx hb dX2_of_2 (by decide) ?_
  refine lv_iload_n hx hb dX2_of_3 rfl (lv_at hl 0 rfl) ?_
  refine lv_imul hx hb dX2_of_4 ?_
  refine lv_iadd hx hb dX2_of_5 ?_
  refine lv_iload_n hx hb dX2_of_6 rfl (lv_at hl 1 rfl) ?_
  refine lv_iadd hx hb dX2_of_7 ?_
  obtain rfl := re1 h
  exact zb_iret hx hb hr hlk hP hS dX2_of_8
abbrev rm_X2_isPerson : Room := { frames := 1, cells := 0, slots := 0, locals := 22 }
theorem hd_X2_isPerson : yX2_isPerson.cls = RX2 ∧ yX2_isPerson.cls ≠ "java/lang/invoke/MethodHandle" ∧ yX2_isPerson.cls ≠ "java/lang/invoke/VarHandle" ∧ (parseMethodDescriptor yX2_isPerson.desc).map (fun d => d.parameters.length) = some 1 := by decide +kernel
theorem zi_X2_isPerson_X2 : ∀ w ∈ wsX20, w ∈ wsX2_isPerson := fun _ h => List.mem_cons_of_mem _ (List.mem_append_right _ h)
theorem zk_X2_isPerson_0 : Cond.fieldLink RX2 9 "GroutingIsFollowedModel" "s" "[I" ∈ wsX2_isPerson := by decide +kernel
set_option maxHeartbeats 4000000 in
set_option maxRecDepth 100000 in
theorem zc_X2_isPerson (l : Launch) (D : va_G) (cI : ClassId) (ad : Nat → Nat) (m_s : (Nat → Int32)) (m_m : (Nat → Int32)) (m_image : (Nat → Int32)) (m_was : (Nat → Int32)) (m_hasImage : Int32) (m_letters : (Nat → Int32)) (m_row : (Nat → Int32)) (m_refused : (Nat → Int32)) (m_letterMany : Int32) (m_rowMany : Int32) (m_place : Int32) (m_numbers : (Nat → Int32)) (m_cost : (Nat → Int32)) (m_seed : Int32) (v1 : Int32) (r0 : Int32) (h : zf_X2_isPerson m_s v1 = some r0) : Cn l D cI yX2_isPerson wsX2_isPerson rm_X2_isPerson [.ref (ad 0), .int v1] (zb_M cI ad m_s m_m m_image m_was m_hasImage m_letters m_row m_refused m_letterMany m_rowMany m_place m_numbers m_cost m_seed) (some (.int r0)) (zb_M cI ad m_s m_m m_image m_was m_hasImage m_letters m_row m_refused m_letterMany m_rowMany m_place m_numbers m_cost m_seed) := by
  refine zb_ofW (cc := cX2_isPerson) (maxL := 2) (ret := (some .boolean)) (by decide) rfl (Nat.le_of_ble_eq_true rfl) ?_
  intro p e s m args below meth c A ls hx hb hr hml hts hown hlk hK hP hD hA hl
  have hS : va_S A s.heap s.heap [] := va_S.rf
  have hl : lv_has ls 2 [(0, .ref (ad 0)), (1, .int v1)] := hl
  unfold zf_X2_isPerson at h
  refine lv_iload_n hx hb dX2_isPerson_0 rfl (lv_at hl 1 rfl) ?_
  refine lv_iconst (v := (0 : Int32)) hx hb dX2_isPerson_1 (by decide) ?_
  refine lv_aload_n hx hb dX2_isPerson_2 rfl (lv_at hl 0 rfl) ?_
  refine va_get (D := D) (ci := 2) (v := .ref (ad 1)) (C := RX2) (T := TX2) (N := 14) hx hb hts zi_X2_isPerson_X2 hown hK.1 hP 0 rfl rfl 0 (by decide) (hts _ zk_X2_isPerson_0) (fun _ h9 => h9) rfl dX2_isPerson_3 ?_
  refine lv_iconst (v := (0 : Int32)) hx hb dX2_isPerson_6 (by decide) ?_
  refine va_iald hx hb hK.1 hP 1 0 rfl rfl (vl_in (by decide)) dX2_isPerson_7 ?_
  refine lv_iconst (v := (1 : Int32)) hx hb dX2_isPerson_8 (by decide) ?_
  refine lv_isub hx hb dX2_isPerson_9 ?_
  obtain ⟨r1, g2, h⟩ := bo1 h
  refine zb_callS (As := [.int v1, .int (0 : Int32), .int ((m_s (0 : Int32).toNatClampNeg) - (1 : Int32))]) (rest := []) ⟨hx, hb, hml, hown, hts⟩ (zc_X2_isIn l D cI v1 (0 : Int32) ((m_s (0 : Int32).toNatClampNeg) - (1 : Int32)) r1 g2) (va_cwS 3 hts gX2_isPerson_X2_isIn rfl rfl rfl hd_X2_isIn.2 ⟨Nat.le_of_ble_eq_true rfl, Nat.le_of_ble_eq_true rfl⟩) hK hP hD hS hA (zb_none _) rfl hl.1 rfl (Nat.le_of_ble_eq_true rfl) dX2_isPerson_10 ⟨Nat.le_refl _, Nat.le_refl _⟩ (fun H locs hP hD hS => ?_)
  obtain ⟨hz, h⟩ := it_z h
  obtain rfl := re1 h
  exact zb_zret hx hb hr hlk hz hP hS dX2_isPerson_13
abbrev rm_X2_isNode : Room := { frames := 1, cells := 0, slots := 0, locals := 22 }
theorem hd_X2_isNode : yX2_isNode.cls = RX2 ∧ yX2_isNode.cls ≠ "java/lang/invoke/MethodHandle" ∧ yX2_isNode.cls ≠ "java/lang/invoke/VarHandle" ∧ (parseMethodDescriptor yX2_isNode.desc).map (fun d => d.parameters.length) = some 1 := by decide +kernel
set_option maxHeartbeats 4000000 in
set_option maxRecDepth 100000 in
theorem zc_X2_isNode (l : Launch) (D : va_G) (cI : ClassId)  (v0 : Int32) (r0 : Int32) (h : zf_X2_isNode v0 = some r0) : Cn l D cI yX2_isNode wsX2_isNode rm_X2_isNode [.int v0] ([]) (some (.int r0)) ([]) := by
  refine zb_ofW (cc := cX2_isNode) (maxL := 1) (ret := (some .boolean)) (by decide) rfl (Nat.le_of_ble_eq_true rfl) ?_
  intro p e s m args below meth c A ls hx hb hr hml hts hown hlk hK hP hD hA hl
  have hS : va_S A s.heap s.heap [] := va_S.rf
  have hl : lv_has ls 1 [(0, .int v0)] := hl
  unfold zf_X2_isNode at h
  refine lv_iload_n hx hb dX2_isNode_0 rfl (lv_at hl 0 rfl) ?_
  refine lv_iconst (v := (0 : Int32)) hx hb dX2_isNode_1 (by decide) ?_
  refine lv_bipush (v := (29 : Int32)) hx hb dX2_isNode_2 (by decide) ?_
  obtain ⟨r1, g2, h⟩ := bo1 h
  refine zb_callS (As := [.int v0, .int (0 : Int32), .int (29 : Int32)]) (rest := []) ⟨hx, hb, hml, hown, hts⟩ (zc_X2_isIn l D cI v0 (0 : Int32) (29 : Int32) r1 g2) (va_cwS 3 hts gX2_isNode_X2_isIn rfl rfl rfl hd_X2_isIn.2 ⟨Nat.le_of_ble_eq_true rfl, Nat.le_of_ble_eq_true rfl⟩) hK hP hD hS hA (zb_none _) rfl hl.1 rfl (Nat.le_of_ble_eq_true rfl) dX2_isNode_4 ⟨Nat.le_refl _, Nat.le_refl _⟩ (fun H locs hP hD hS => ?_)
  obtain ⟨hz, h⟩ := it_z h
  obtain rfl := re1 h
  exact zb_zret hx hb hr hlk hz hP hS dX2_isNode_7
abbrev rm_X2_isWay : Room := { frames := 1, cells := 0, slots := 0, locals := 22 }
theorem hd_X2_isWay : yX2_isWay.cls = RX2 ∧ yX2_isWay.cls ≠ "java/lang/invoke/MethodHandle" ∧ yX2_isWay.cls ≠ "java/lang/invoke/VarHandle" ∧ (parseMethodDescriptor yX2_isWay.desc).map (fun d => d.parameters.length) = some 1 := by decide +kernel
set_option maxHeartbeats 4000000 in
set_option maxRecDepth 100000 in
theorem zc_X2_isWay (l : Launch) (D : va_G) (cI : ClassId)  (v0 : Int32) (r0 : Int32) (h : zf_X2_isWay v0 = some r0) : Cn l D cI yX2_isWay wsX2_isWay rm_X2_isWay [.int v0] ([]) (some (.int r0)) ([]) := by
  refine zb_ofW (cc := cX2_isWay) (maxL := 1) (ret := (some .boolean)) (by decide) rfl (Nat.le_of_ble_eq_true rfl) ?_
  intro p e s m args below meth c A ls hx hb hr hml hts hown hlk hK hP hD hA hl
  have hS : va_S A s.heap s.heap [] := va_S.rf
  have hl : lv_has ls 1 [(0, .int v0)] := hl
  unfold zf_X2_isWay at h
  refine lv_iload_n hx hb dX2_isWay_0 rfl (lv_at hl 0 rfl) ?_
  refine lv_iconst (v := (0 : Int32)) hx hb dX2_isWay_1 (by decide) ?_
  refine lv_iconst (v := (3 : Int32)) hx hb dX2_isWay_2 (by decide) ?_
  obtain ⟨r1, g2, h⟩ := bo1 h
  refine zb_callS (As := [.int v0, .int (0 : Int32), .int (3 : Int32)]) (rest := []) ⟨hx, hb, hml, hown, hts⟩ (zc_X2_isIn l D cI v0 (0 : Int32) (3 : Int32) r1 g2) (va_cwS 3 hts gX2_isWay_X2_isIn rfl rfl rfl hd_X2_isIn.2 ⟨Nat.le_of_ble_eq_true rfl, Nat.le_of_ble_eq_true rfl⟩) hK hP hD hS hA (zb_none _) rfl hl.1 rfl (Nat.le_of_ble_eq_true rfl) dX2_isWay_3 ⟨Nat.le_refl _, Nat.le_refl _⟩ (fun H locs hP hD hS => ?_)
  obtain ⟨hz, h⟩ := it_z h
  obtain rfl := re1 h
  exact zb_zret hx hb hr hlk hz hP hS dX2_isWay_6
abbrev rm_X2_has : Room := { frames := 0, cells := 0, slots := 0, locals := 0 }
theorem hd_X2_has : yX2_has.cls = RX2 ∧ yX2_has.cls ≠ "java/lang/invoke/MethodHandle" ∧ yX2_has.cls ≠ "java/lang/invoke/VarHandle" ∧ (parseMethodDescriptor yX2_has.desc).map (fun d => d.parameters.length) = some 2 := by decide +kernel
set_option maxHeartbeats 4000000 in
set_option maxRecDepth 100000 in
theorem zc_X2_has (l : Launch) (D : va_G) (cI : ClassId)  (v0 : Int32) (v1 : Int32) (r0 : Int32) (h : zf_X2_has v0 v1 = some r0) : Cn l D cI yX2_has wsX2_has rm_X2_has [.int v0, .int v1] ([]) (some (.int r0)) ([]) := by
  refine zb_ofW (cc := cX2_has) (maxL := 2) (ret := (some .boolean)) (by decide) rfl (Nat.le_of_ble_eq_true rfl) ?_
  intro p e s m args below meth c A ls hx hb hr hml hts hown hlk hK hP hD hA hl
  have hS : va_S A s.heap s.heap [] := va_S.rf
  have hl : lv_has ls 2 [(0, .int v0), (1, .int v1)] := hl
  unfold zf_X2_has at h
  refine lv_iload_n hx hb dX2_has_0 rfl (lv_at hl 0 rfl) ?_
  refine lv_iload_n hx hb dX2_has_1 rfl (lv_at hl 1 rfl) ?_
  refine lv_ishr hx hb dX2_has_2 ?_
  refine lv_iconst (v := (1 : Int32)) hx hb dX2_has_3 (by decide) ?_
  refine lv_iand hx hb dX2_has_4 ?_
  refine lv_iconst (v := (1 : Int32)) hx hb dX2_has_5 (by decide) ?_
  refine lv_icmp_ne (tgt := 13) hx hb dX2_has_6 (by decide) (fun c1 => ?_) (fun c1 => ?_)
  · replace h := it_f c1 h
    refine lv_iconst (v := (0 : Int32)) hx hb dX2_has_13 (by decide) ?_
    obtain rfl := re1 h
    exact zb_zret hx hb hr hlk rfl hP hS dX2_has_14
  · replace h := it_t c1 h
    refine lv_iconst (v := (1 : Int32)) hx hb dX2_has_9 (by decide) ?_
    refine lv_goto (tgt := 14) hx hb dX2_has_10 (by decide) ?_
    obtain rfl := re1 h
    exact zb_zret hx hb hr hlk rfl hP hS dX2_has_14
abbrev rm_X2_bits : Room := { frames := 0, cells := 0, slots := 0, locals := 0 }
theorem hd_X2_bits : yX2_bits.cls = RX2 ∧ yX2_bits.cls ≠ "java/lang/invoke/MethodHandle" ∧ yX2_bits.cls ≠ "java/lang/invoke/VarHandle" ∧ (parseMethodDescriptor yX2_bits.desc).map (fun d => d.parameters.length) = some 1 := by decide +kernel
set_option maxHeartbeats 4000000 in
set_option maxRecDepth 100000 in
theorem zc_X2_bits (l : Launch) (D : va_G) (cI : ClassId)  (v0 : Int32) (r0 : Int32) (h : zf_X2_bits v0 = some r0) : Cn l D cI yX2_bits wsX2_bits rm_X2_bits [.int v0] ([]) (some (.int r0)) ([]) := by
  refine zb_ofW (cc := cX2_bits) (maxL := 3) (ret := (some .int)) (by decide) rfl (Nat.le_of_ble_eq_true rfl) ?_
  intro p e s m args below meth c A ls hx hb hr hml hts hown hlk hK hP hD hA hl
  have hS : va_S A s.heap s.heap [] := va_S.rf
  have hl : lv_has ls 3 [(0, .int v0)] := hl
  unfold zf_X2_bits at h
  refine lv_iconst (v := (0 : Int32)) hx hb dX2_bits_0 (by decide) ?_
  refine lv_istore_n (lv' := [(1, .int (0 : Int32)), (0, .int v0)]) hx hb dX2_bits_1 rfl hl (by decide) rfl (fun ls hl => ?_)
  refine lv_iconst (v := (0 : Int32)) hx hb dX2_bits_2 (by decide) ?_
  refine lv_istore_n (lv' := [(2, .int (0 : Int32)), (1, .int (0 : Int32)), (0, .int v0)]) hx hb dX2_bits_3 rfl hl (by decide) rfl (fun ls hl => ?_)
  have lp3 : ∀ (fu3 : Nat) (x1 : Int32) (x2 : Int32) (H : Heap) (locs : List Loc) (hP : va_P D zb_cl ([]) H) (hD : va_D A ([])) (hS : va_S A s.heap H locs) (ls : Array Slot) (hl : lv_has ls 3 [(0, .int v0), (1, .int x1), (2, .int x2)]) (h : zl2 (zf_X2_bits_b4 v0) fu3 x1 x2 = some r0), W p l e rm_X2_bits s m args below meth c H locs 0 0 (zb_Q below D (some (.int r0)) ([]) A args s) (F0 m 4 ls []) := by
    intro fu3
    induction fu3 with
    | zero => intro x1 x2 H locs hP hD hS ls hl h; exact zb_no h
    | succ fu3 ih3 =>
      intro x1 x2 H locs hP hD hS ls hl h
      replace h : zf_X2_bits_b4 v0 (zl2 (zf_X2_bits_b4 v0) fu3) x1 x2 = some r0 := h
      unfold zf_X2_bits_b4 at h
      refine lv_iload_n hx hb dX2_bits_4 rfl (lv_at hl 2 rfl) ?_
      refine lv_bipush (v := (30 : Int32)) hx hb dX2_bits_5 (by decide) ?_
      refine lv_icmp_ge (tgt := 24) hx hb dX2_bits_7 (by decide) (fun c4 => ?_) (fun c4 => ?_)
      · replace h := it_t c4 h
        refine lv_iload_n hx hb dX2_bits_24 rfl (lv_at hl 1 rfl) ?_
        obtain rfl := re1 h
        exact zb_iret hx hb hr hlk hP hS dX2_bits_25
      · replace h := it_f c4 h
        refine lv_iload_n hx hb dX2_bits_10 rfl (lv_at hl 1 rfl) ?_
        refine lv_iload_n hx hb dX2_bits_11 rfl (lv_at hl 0 rfl) ?_
        refine lv_iload_n hx hb dX2_bits_12 rfl (lv_at hl 2 rfl) ?_
        refine lv_ishr hx hb dX2_bits_13 ?_
        refine lv_iconst (v := (1 : Int32)) hx hb dX2_bits_14 (by decide) ?_
        refine lv_iand hx hb dX2_bits_15 ?_
        refine lv_iadd hx hb dX2_bits_16 ?_
        refine lv_istore_n (lv' := [(1, .int (x1 + ((v0 >>> (x2 &&& 31)) &&& (1 : Int32)))), (0, .int v0), (2, .int x2)]) hx hb dX2_bits_17 rfl hl (by decide) rfl (fun ls hl => ?_)
        refine lv_iinc (v := (x2 + (1 : Int32))) (lv' := [(2, .int (x2 + (1 : Int32))), (1, .int (x1 + ((v0 >>> (x2 &&& 31)) &&& (1 : Int32)))), (0, .int v0)]) hx hb dX2_bits_18 hl (k := 2) rfl (by first | rfl | decide) (by decide) rfl (fun ls hl => ?_)
        refine lv_goto (tgt := 4) hx hb dX2_bits_21 (by decide) ?_
        exact ih3 (x1 + ((v0 >>> (x2 &&& 31)) &&& (1 : Int32))) (x2 + (1 : Int32)) _ _ hP hD hS ls (lv_sub hl [2, 1, 0] rfl) h
  exact lp3 zb_FU (0 : Int32) (0 : Int32) _ _ hP hD hS ls (lv_sub hl [2, 1, 0] rfl) h
abbrev rm_X2_nodeThere : Room := { frames := 0, cells := 0, slots := 0, locals := 0 }
theorem hd_X2_nodeThere : yX2_nodeThere.cls = RX2 ∧ yX2_nodeThere.cls ≠ "java/lang/invoke/MethodHandle" ∧ yX2_nodeThere.cls ≠ "java/lang/invoke/VarHandle" ∧ (parseMethodDescriptor yX2_nodeThere.desc).map (fun d => d.parameters.length) = some 2 := by decide +kernel
set_option maxHeartbeats 4000000 in
set_option maxRecDepth 100000 in
theorem zc_X2_nodeThere (l : Launch) (D : va_G) (cI : ClassId)  (v0 : Int32) (v1 : Int32) (r0 : Int32) (h : zf_X2_nodeThere v0 v1 = some r0) : Cn l D cI yX2_nodeThere wsX2_nodeThere rm_X2_nodeThere [.int v0, .int v1] ([]) (some (.int r0)) ([]) := by
  refine zb_ofW (cc := cX2_nodeThere) (maxL := 2) (ret := (some .int)) (by decide) rfl (Nat.le_of_ble_eq_true rfl) ?_
  intro p e s m args below meth c A ls hx hb hr hml hts hown hlk hK hP hD hA hl
  have hS : va_S A s.heap s.heap [] := va_S.rf
  have hl : lv_has ls 2 [(0, .int v0), (1, .int v1)] := hl
  unfold zf_X2_nodeThere at h
  refine lv_iload_n hx hb dX2_nodeThere_0 rfl (lv_at hl 1 rfl) ?_
  by_cases c1 : v1 = (0 : Int32)
  · replace h := it_t c1 h
    have e9 : v1.toInt = 0 := by rw [c1]; rfl
    refine lv_tableIn (tgt := 28) hx hb dX2_nodeThere_1 (by rw [e9]; decide) (by rw [e9]; decide) (by rw [e9]; rfl) (by decide) ?_
    refine lv_iload_n hx hb dX2_nodeThere_28 rfl (lv_at hl 0 rfl) ?_
    refine lv_bipush (v := (6 : Int32)) hx hb dX2_nodeThere_29 (by decide) ?_
    refine lv_icmp_ge (tgt := 39) hx hb dX2_nodeThere_31 (by decide) (fun c2 => ?_) (fun c2 => ?_)
    · replace h := it_t c2 h
      refine lv_iload_n hx hb dX2_nodeThere_39 rfl (lv_at hl 0 rfl) ?_
      refine lv_bipush (v := (6 : Int32)) hx hb dX2_nodeThere_40 (by decide) ?_
      refine lv_isub hx hb dX2_nodeThere_42 ?_
      obtain rfl := re1 h
      exact zb_iret hx hb hr hlk hP hS dX2_nodeThere_43
    · replace h := it_f c2 h
      refine lv_bipush (v := ((-9) : Int32)) hx hb dX2_nodeThere_34 (by decide) ?_
      refine lv_goto (tgt := 43) hx hb dX2_nodeThere_36 (by decide) ?_
      obtain rfl := re1 h
      exact zb_iret hx hb hr hlk hP hS dX2_nodeThere_43
  replace h := it_f c1 h
  by_cases c3 : v1 = (1 : Int32)
  · replace h := it_t c3 h
    have e9 : v1.toInt = 1 := by rw [c3]; rfl
    refine lv_tableIn (tgt := 44) hx hb dX2_nodeThere_1 (by rw [e9]; decide) (by rw [e9]; decide) (by rw [e9]; rfl) (by decide) ?_
    refine lv_iload_n hx hb dX2_nodeThere_44 rfl (lv_at hl 0 rfl) ?_
    refine lv_bipush (v := (6 : Int32)) hx hb dX2_nodeThere_45 (by decide) ?_
    refine lv_irem hx hb dX2_nodeThere_47 (by decide) ?_
    refine lv_iconst (v := (5 : Int32)) hx hb dX2_nodeThere_48 (by decide) ?_
    refine lv_icmp_ne (tgt := 57) hx hb dX2_nodeThere_49 (by decide) (fun c4 => ?_) (fun c4 => ?_)
    · replace h := it_f c4 h
      refine lv_iload_n hx hb dX2_nodeThere_57 rfl (lv_at hl 0 rfl) ?_
      refine lv_iconst (v := (1 : Int32)) hx hb dX2_nodeThere_58 (by decide) ?_
      refine lv_iadd hx hb dX2_nodeThere_59 ?_
      obtain rfl := re1 h
      exact zb_iret hx hb hr hlk hP hS dX2_nodeThere_60
    · replace h := it_t c4 h
      refine lv_bipush (v := ((-9) : Int32)) hx hb dX2_nodeThere_52 (by decide) ?_
      refine lv_goto (tgt := 60) hx hb dX2_nodeThere_54 (by decide) ?_
      obtain rfl := re1 h
      exact zb_iret hx hb hr hlk hP hS dX2_nodeThere_60
  replace h := it_f c3 h
  by_cases c5 : v1 = (2 : Int32)
  · replace h := it_t c5 h
    have e9 : v1.toInt = 2 := by rw [c5]; rfl
    refine lv_tableIn (tgt := 61) hx hb dX2_nodeThere_1 (by rw [e9]; decide) (by rw [e9]; decide) (by rw [e9]; rfl) (by decide) ?_
    refine lv_iload_n hx hb dX2_nodeThere_61 rfl (lv_at hl 0 rfl) ?_
    refine lv_bipush (v := (24 : Int32)) hx hb dX2_nodeThere_62 (by decide) ?_
    refine lv_icmp_lt (tgt := 72) hx hb dX2_nodeThere_64 (by decide) (fun c6 => ?_) (fun c6 => ?_)
    · replace h := it_t c6 h
      refine lv_iload_n hx hb dX2_nodeThere_72 rfl (lv_at hl 0 rfl) ?_
      refine lv_bipush (v := (6 : Int32)) hx hb dX2_nodeThere_73 (by decide) ?_
      refine lv_iadd hx hb dX2_nodeThere_75 ?_
      obtain rfl := re1 h
      exact zb_iret hx hb hr hlk hP hS dX2_nodeThere_76
    · replace h := it_f c6 h
      refine lv_bipush (v := ((-9) : Int32)) hx hb dX2_nodeThere_67 (by decide) ?_
      refine lv_goto (tgt := 76) hx hb dX2_nodeThere_69 (by decide) ?_
      obtain rfl := re1 h
      exact zb_iret hx hb hr hlk hP hS dX2_nodeThere_76
  replace h := it_f c5 h
  have e_c1 := sw_ne (k := 0) rfl c1
  have e_c3 := sw_ne (k := 1) rfl c3
  have e_c5 := sw_ne (k := 2) rfl c5
  refine lv_tableOut (tgt := 77) hx hb dX2_nodeThere_1 (by omega) (by decide) ?_
  refine lv_iload_n hx hb dX2_nodeThere_77 rfl (lv_at hl 0 rfl) ?_
  refine lv_bipush (v := (6 : Int32)) hx hb dX2_nodeThere_78 (by decide) ?_
  refine lv_irem hx hb dX2_nodeThere_80 (by decide) ?_
  refine lv_if_ne (tgt := 89) hx hb dX2_nodeThere_81 (by decide) (fun c7 => ?_) (fun c7 => ?_)
  · replace h := it_f c7 h
    refine lv_iload_n hx hb dX2_nodeThere_89 rfl (lv_at hl 0 rfl) ?_
    refine lv_iconst (v := (1 : Int32)) hx hb dX2_nodeThere_90 (by decide) ?_
    refine lv_isub hx hb dX2_nodeThere_91 ?_
    obtain rfl := re1 h
    exact zb_iret hx hb hr hlk hP hS dX2_nodeThere_92
  · replace h := it_t c7 h
    refine lv_bipush (v := ((-9) : Int32)) hx hb dX2_nodeThere_84 (by decide) ?_
    refine lv_goto (tgt := 92) hx hb dX2_nodeThere_86 (by decide) ?_
    obtain rfl := re1 h
    exact zb_iret hx hb hr hlk hP hS dX2_nodeThere_92
abbrev rm_X2_wayBy : Room := { frames := 0, cells := 0, slots := 0, locals := 0 }
theorem hd_X2_wayBy : yX2_wayBy.cls = RX2 ∧ yX2_wayBy.cls ≠ "java/lang/invoke/MethodHandle" ∧ yX2_wayBy.cls ≠ "java/lang/invoke/VarHandle" ∧ (parseMethodDescriptor yX2_wayBy.desc).map (fun d => d.parameters.length) = some 4 := by decide +kernel
set_option maxHeartbeats 4000000 in
set_option maxRecDepth 100000 in
theorem zc_X2_wayBy (l : Launch) (D : va_G) (cI : ClassId)  (v0 : Int32) (v1 : Int32) (v2 : Int32) (v3 : Int32) (r0 : Int32) (h : zf_X2_wayBy v0 v1 v2 v3 = some r0) : Cn l D cI yX2_wayBy wsX2_wayBy rm_X2_wayBy [.int v0, .int v1, .int v2, .int v3] ([]) (some (.int r0)) ([]) := by
  refine zb_ofW (cc := cX2_wayBy) (maxL := 4) (ret := (some .int)) (by decide) rfl (Nat.le_of_ble_eq_true rfl) ?_
  intro p e s m args below meth c A ls hx hb hr hml hts hown hlk hK hP hD hA hl
  have hS : va_S A s.heap s.heap [] := va_S.rf
  have hl : lv_has ls 4 [(0, .int v0), (1, .int v1), (2, .int v2), (3, .int v3)] := hl
  unfold zf_X2_wayBy at h
  refine lv_iload_n hx hb dX2_wayBy_0 rfl (lv_at hl 0 rfl) ?_
  by_cases c1 : v0 = (1 : Int32)
  · replace h := it_t c1 h
    have e9 : v0.toInt = 1 := by rw [c1]; rfl
    refine lv_tableIn (tgt := 36) hx hb dX2_wayBy_1 (by rw [e9]; decide) (by rw [e9]; decide) (by rw [e9]; rfl) (by decide) ?_
    refine lv_iload_n hx hb dX2_wayBy_36 rfl (lv_at hl 2 rfl) ?_
    refine lv_iconst (v := (3 : Int32)) hx hb dX2_wayBy_37 (by decide) ?_
    refine lv_iadd hx hb dX2_wayBy_38 ?_
    refine lv_iconst (v := (4 : Int32)) hx hb dX2_wayBy_39 (by decide) ?_
    refine lv_irem hx hb dX2_wayBy_40 (by decide) ?_
    obtain rfl := re1 h
    exact zb_iret hx hb hr hlk hP hS dX2_wayBy_41
  replace h := it_f c1 h
  by_cases c2 : v0 = (2 : Int32)
  · replace h := it_t c2 h
    have e9 : v0.toInt = 2 := by rw [c2]; rfl
    refine lv_tableIn (tgt := 42) hx hb dX2_wayBy_1 (by rw [e9]; decide) (by rw [e9]; decide) (by rw [e9]; rfl) (by decide) ?_
    refine lv_iload_n hx hb dX2_wayBy_42 rfl (lv_at hl 2 rfl) ?_
    refine lv_iconst (v := (1 : Int32)) hx hb dX2_wayBy_43 (by decide) ?_
    refine lv_iadd hx hb dX2_wayBy_44 ?_
    refine lv_iconst (v := (4 : Int32)) hx hb dX2_wayBy_45 (by decide) ?_
    refine lv_irem hx hb dX2_wayBy_46 (by decide) ?_
    obtain rfl := re1 h
    exact zb_iret hx hb hr hlk hP hS dX2_wayBy_47
  replace h := it_f c2 h
  by_cases c3 : v0 = (3 : Int32)
  · replace h := it_t c3 h
    have e9 : v0.toInt = 3 := by rw [c3]; rfl
    refine lv_tableIn (tgt := 48) hx hb dX2_wayBy_1 (by rw [e9]; decide) (by rw [e9]; decide) (by rw [e9]; rfl) (by decide) ?_
    refine lv_iload_n hx hb dX2_wayBy_48 rfl (lv_at hl 3 rfl) ?_
    refine lv_iconst (v := (4 : Int32)) hx hb dX2_wayBy_49 (by decide) ?_
    refine lv_irem hx hb dX2_wayBy_50 (by decide) ?_
    refine lv_if_ne (tgt := 60) hx hb dX2_wayBy_51 (by decide) (fun c4 => ?_) (fun c4 => ?_)
    · replace h := it_f c4 h
      refine lv_iload_n hx hb dX2_wayBy_60 rfl (lv_at hl 2 rfl) ?_
      obtain rfl := re1 h
      exact zb_iret hx hb hr hlk hP hS dX2_wayBy_61
    · replace h := it_t c4 h
      refine lv_iload_n hx hb dX2_wayBy_54 rfl (lv_at hl 1 rfl) ?_
      refine lv_iconst (v := (4 : Int32)) hx hb dX2_wayBy_55 (by decide) ?_
      refine lv_irem hx hb dX2_wayBy_56 (by decide) ?_
      refine lv_goto (tgt := 61) hx hb dX2_wayBy_57 (by decide) ?_
      obtain rfl := re1 h
      exact zb_iret hx hb hr hlk hP hS dX2_wayBy_61
  replace h := it_f c3 h
  by_cases c5 : v0 = (4 : Int32)
  · replace h := it_t c5 h
    have e9 : v0.toInt = 4 := by rw [c5]; rfl
    refine lv_tableIn (tgt := 62) hx hb dX2_wayBy_1 (by rw [e9]; decide) (by rw [e9]; decide) (by rw [e9]; rfl) (by decide) ?_
    refine lv_iload_n hx hb dX2_wayBy_62 rfl (lv_at hl 3 rfl) ?_
    refine lv_iconst (v := (2 : Int32)) hx hb dX2_wayBy_63 (by decide) ?_
    refine lv_irem hx hb dX2_wayBy_64 (by decide) ?_
    refine lv_iconst (v := (1 : Int32)) hx hb dX2_wayBy_65 (by decide) ?_
    refine lv_icmp_ne (tgt := 77) hx hb dX2_wayBy_66 (by decide) (fun c6 => ?_) (fun c6 => ?_)
    · replace h := it_f c6 h
      refine lv_iload_n hx hb dX2_wayBy_77 rfl (lv_at hl 2 rfl) ?_
      obtain rfl := re1 h
      exact zb_iret hx hb hr hlk hP hS dX2_wayBy_78
    · replace h := it_t c6 h
      refine lv_iload_n hx hb dX2_wayBy_69 rfl (lv_at hl 2 rfl) ?_
      refine lv_iconst (v := (3 : Int32)) hx hb dX2_wayBy_70 (by decide) ?_
      refine lv_iadd hx hb dX2_wayBy_71 ?_
      refine lv_iconst (v := (4 : Int32)) hx hb dX2_wayBy_72 (by decide) ?_
      refine lv_irem hx hb dX2_wayBy_73 (by decide) ?_
      refine lv_goto (tgt := 78) hx hb dX2_wayBy_74 (by decide) ?_
      obtain rfl := re1 h
      exact zb_iret hx hb hr hlk hP hS dX2_wayBy_78
  replace h := it_f c5 h
  by_cases c7 : v0 = (5 : Int32)
  · replace h := it_t c7 h
    have e9 : v0.toInt = 5 := by rw [c7]; rfl
    refine lv_tableIn (tgt := 79) hx hb dX2_wayBy_1 (by rw [e9]; decide) (by rw [e9]; decide) (by rw [e9]; rfl) (by decide) ?_
    refine lv_iload_n hx hb dX2_wayBy_79 rfl (lv_at hl 2 rfl) ?_
    refine lv_iconst (v := (2 : Int32)) hx hb dX2_wayBy_80 (by decide) ?_
    refine lv_iadd hx hb dX2_wayBy_81 ?_
    refine lv_iconst (v := (4 : Int32)) hx hb dX2_wayBy_82 (by decide) ?_
    refine lv_irem hx hb dX2_wayBy_83 (by decide) ?_
    obtain rfl := re1 h
    exact zb_iret hx hb hr hlk hP hS dX2_wayBy_84
  replace h := it_f c7 h
  have e_c1 := sw_ne (k := 1) rfl c1
  have e_c2 := sw_ne (k := 2) rfl c2
  have e_c3 := sw_ne (k := 3) rfl c3
  have e_c5 := sw_ne (k := 4) rfl c5
  have e_c7 := sw_ne (k := 5) rfl c7
  refine lv_tableOut (tgt := 85) hx hb dX2_wayBy_1 (by omega) (by decide) ?_
  refine lv_iload_n hx hb dX2_wayBy_85 rfl (lv_at hl 2 rfl) ?_
  obtain rfl := re1 h
  exact zb_iret hx hb hr hlk hP hS dX2_wayBy_86
abbrev rm_X2_wayOf : Room := { frames := 1, cells := 0, slots := 0, locals := 23 }
theorem hd_X2_wayOf : yX2_wayOf.cls = RX2 ∧ yX2_wayOf.cls ≠ "java/lang/invoke/MethodHandle" ∧ yX2_wayOf.cls ≠ "java/lang/invoke/VarHandle" ∧ (parseMethodDescriptor yX2_wayOf.desc).map (fun d => d.parameters.length) = some 3 := by decide +kernel
set_option maxHeartbeats 4000000 in
set_option maxRecDepth 100000 in
theorem zc_X2_wayOf (l : Launch) (D : va_G) (cI : ClassId) (a : Nat) (r : (Nat → Int32)) (v1 : Int32) (v2 : Int32) (r0 : Int32) (h : zf_X2_wayOf r v1 v2 = some r0) : Cn l D cI yX2_wayOf wsX2_wayOf rm_X2_wayOf [.ref a, .int v1, .int v2] (zb_A cI a r) (some (.int r0)) (zb_A cI a r) := by
  refine zb_ofW (cc := cX2_wayOf) (maxL := 4) (ret := (some .int)) (by decide) rfl (Nat.le_of_ble_eq_true rfl) ?_
  intro p e s m args below meth c A ls hx hb hr hml hts hown hlk hK hP hD hA hl
  have hS : va_S A s.heap s.heap [] := va_S.rf
  have hl : lv_has ls 4 [(0, .ref a), (1, .int v1), (2, .int v2)] := hl
  unfold zf_X2_wayOf at h
  refine lv_aload_n hx hb dX2_wayOf_0 rfl (lv_at hl 0 rfl) ?_
  refine lv_iload_n hx hb dX2_wayOf_1 rfl (lv_at hl 1 rfl) ?_
  refine lv_iconst (v := (0 : Int32)) hx hb dX2_wayOf_2 (by decide) ?_
  obtain ⟨r1, g2, h⟩ := bo1 h
  refine zb_callS (As := [.int v1, .int (0 : Int32)]) (rest := [.ref a]) ⟨hx, hb, hml, hown, hts⟩ (zc_X2_of l D cI v1 (0 : Int32) r1 g2) (va_cwS 2 hts gX2_wayOf_X2_of rfl rfl rfl hd_X2_of.2 ⟨Nat.le_of_ble_eq_true rfl, Nat.le_of_ble_eq_true rfl⟩) hK hP hD hS hA (zb_none _) rfl hl.1 rfl (Nat.le_of_ble_eq_true rfl) dX2_wayOf_3 ⟨Nat.le_refl _, Nat.le_refl _⟩ (fun H locs hP hD hS => ?_)
  obtain ⟨h3, h⟩ := it_g h
  refine va_iald hx hb hK.1 hP 0 0 rfl rfl h3 dX2_wayOf_6 ?_
  refine lv_istore_n (lv' := [(3, .int (r r1.toNatClampNeg)), (0, .ref a), (1, .int v1), (2, .int v2)]) hx hb dX2_wayOf_7 rfl hl (by decide) rfl (fun ls hl => ?_)
  refine lv_aload_n hx hb dX2_wayOf_8 rfl (lv_at hl 1 rfl) ?_
  refine lv_iconst (v := (3 : Int32)) hx hb dX2_wayOf_9 (by decide) ?_
  refine lv_iload_n hx hb dX2_wayOf_10 rfl (lv_at hl 0 rfl) ?_
  refine lv_iadd hx hb dX2_wayOf_11 ?_
  obtain ⟨h4, h⟩ := it_g h
  refine va_iald hx hb hK.1 hP 0 0 rfl rfl h4 dX2_wayOf_12 ?_
  refine lv_aload_n hx hb dX2_wayOf_13 rfl (lv_at hl 1 rfl) ?_
  refine lv_bipush (v := (33 : Int32)) hx hb dX2_wayOf_14 (by decide) ?_
  refine lv_iload_n hx hb dX2_wayOf_16 rfl (lv_at hl 0 rfl) ?_
  refine lv_iadd hx hb dX2_wayOf_17 ?_
  obtain ⟨h5, h⟩ := it_g h
  refine va_iald hx hb hK.1 hP 0 0 rfl rfl h5 dX2_wayOf_18 ?_
  refine lv_aload_n hx hb dX2_wayOf_19 rfl (lv_at hl 1 rfl) ?_
  refine lv_iload_n hx hb dX2_wayOf_20 rfl (lv_at hl 2 rfl) ?_
  refine lv_iconst (v := (1 : Int32)) hx hb dX2_wayOf_21 (by decide) ?_
  obtain ⟨r6, g7, h⟩ := bo1 h
  refine zb_callS (As := [.int v1, .int (1 : Int32)]) (rest := [.ref a, .int (r ((33 : Int32) + (r r1.toNatClampNeg)).toNatClampNeg), .int (r ((3 : Int32) + (r r1.toNatClampNeg)).toNatClampNeg)]) ⟨hx, hb, hml, hown, hts⟩ (zc_X2_of l D cI v1 (1 : Int32) r6 g7) (va_cwS 2 hts gX2_wayOf_X2_of rfl rfl rfl hd_X2_of.2 ⟨Nat.le_of_ble_eq_true rfl, Nat.le_of_ble_eq_true rfl⟩) hK hP hD hS hA (zb_none _) rfl hl.1 rfl (Nat.le_of_ble_eq_true rfl) dX2_wayOf_22 ⟨Nat.le_refl _, Nat.le_refl _⟩ (fun H locs hP hD hS => ?_)
  obtain ⟨h8, h⟩ := it_g h
  refine va_iald hx hb hK.1 hP 0 0 rfl rfl h8 dX2_wayOf_25 ?_
  refine lv_iload_n hx hb dX2_wayOf_26 rfl (lv_at hl 3 rfl) ?_
  obtain ⟨r9, g10, h⟩ := bo1 h
  refine zb_callS (As := [.int (r ((3 : Int32) + (r r1.toNatClampNeg)).toNatClampNeg), .int (r ((33 : Int32) + (r r1.toNatClampNeg)).toNatClampNeg), .int (r r6.toNatClampNeg), .int v2]) (rest := []) ⟨hx, hb, hml, hown, hts⟩ (zc_X2_wayBy l D cI (r ((3 : Int32) + (r r1.toNatClampNeg)).toNatClampNeg) (r ((33 : Int32) + (r r1.toNatClampNeg)).toNatClampNeg) (r r6.toNatClampNeg) v2 r9 g10) (va_cwS 4 hts gX2_wayOf_X2_wayBy rfl rfl rfl hd_X2_wayBy.2 ⟨Nat.le_of_ble_eq_true rfl, Nat.le_of_ble_eq_true rfl⟩) hK hP hD hS hA (zb_none _) rfl hl.1 rfl (Nat.le_of_ble_eq_true rfl) dX2_wayOf_27 ⟨Nat.le_refl _, Nat.le_refl _⟩ (fun H locs hP hD hS => ?_)
  obtain rfl := re1 h
  exact zb_iret hx hb hr hlk hP hS dX2_wayOf_30
abbrev rm_X2_isDry : Room := { frames := 0, cells := 0, slots := 0, locals := 0 }
theorem hd_X2_isDry : yX2_isDry.cls = RX2 ∧ yX2_isDry.cls ≠ "java/lang/invoke/MethodHandle" ∧ yX2_isDry.cls ≠ "java/lang/invoke/VarHandle" ∧ (parseMethodDescriptor yX2_isDry.desc).map (fun d => d.parameters.length) = some 2 := by decide +kernel
set_option maxHeartbeats 4000000 in
set_option maxRecDepth 100000 in
theorem zc_X2_isDry (l : Launch) (D : va_G) (cI : ClassId) (a : Nat) (r : (Nat → Int32)) (v1 : Int32) (r0 : Int32) (h : zf_X2_isDry r v1 = some r0) : Cn l D cI yX2_isDry wsX2_isDry rm_X2_isDry [.ref a, .int v1] (zb_A cI a r) (some (.int r0)) (zb_A cI a r) := by
  refine zb_ofW (cc := cX2_isDry) (maxL := 2) (ret := (some .boolean)) (by decide) rfl (Nat.le_of_ble_eq_true rfl) ?_
  intro p e s m args below meth c A ls hx hb hr hml hts hown hlk hK hP hD hA hl
  have hS : va_S A s.heap s.heap [] := va_S.rf
  have hl : lv_has ls 2 [(0, .ref a), (1, .int v1)] := hl
  unfold zf_X2_isDry at h
  refine lv_aload_n hx hb dX2_isDry_0 rfl (lv_at hl 0 rfl) ?_
  refine lv_bipush (v := (63 : Int32)) hx hb dX2_isDry_1 (by decide) ?_
  refine lv_iload_n hx hb dX2_isDry_3 rfl (lv_at hl 1 rfl) ?_
  refine lv_iadd hx hb dX2_isDry_4 ?_
  obtain ⟨h1, h⟩ := it_g h
  refine va_iald hx hb hK.1 hP 0 0 rfl rfl h1 dX2_isDry_5 ?_
  refine lv_if_ne (tgt := 13) hx hb dX2_isDry_6 (by decide) (fun c2 => ?_) (fun c2 => ?_)
  · replace h := it_f c2 h
    refine lv_iconst (v := (0 : Int32)) hx hb dX2_isDry_13 (by decide) ?_
    obtain rfl := re1 h
    exact zb_zret hx hb hr hlk rfl hP hS dX2_isDry_14
  · replace h := it_t c2 h
    refine lv_iconst (v := (1 : Int32)) hx hb dX2_isDry_9 (by decide) ?_
    refine lv_goto (tgt := 14) hx hb dX2_isDry_10 (by decide) ?_
    obtain rfl := re1 h
    exact zb_zret hx hb hr hlk rfl hP hS dX2_isDry_14
abbrev rm_X2_goes : Room := { frames := 2, cells := 0, slots := 0, locals := 46 }
theorem hd_X2_goes : yX2_goes.cls = RX2 ∧ yX2_goes.cls ≠ "java/lang/invoke/MethodHandle" ∧ yX2_goes.cls ≠ "java/lang/invoke/VarHandle" ∧ (parseMethodDescriptor yX2_goes.desc).map (fun d => d.parameters.length) = some 2 := by decide +kernel
set_option maxHeartbeats 4000000 in
set_option maxRecDepth 100000 in
theorem zc_X2_goes (l : Launch) (D : va_G) (cI : ClassId) (a : Nat) (r : (Nat → Int32)) (v1 : Int32) (w_r : (Nat → Int32)) (h : zf_X2_goes r v1 = some w_r) : Cn l D cI yX2_goes wsX2_goes rm_X2_goes [.ref a, .int v1] (zb_A cI a r) none (zb_A cI a w_r) := by
  refine zb_ofW (cc := cX2_goes) (maxL := 5) (ret := none) (by decide) rfl (Nat.le_of_ble_eq_true rfl) ?_
  intro p e s m args below meth c A ls hx hb hr hml hts hown hlk hK hP hD hA hl
  have hS : va_S A s.heap s.heap [] := va_S.rf
  have hl : lv_has ls 5 [(0, .ref a), (1, .int v1)] := hl
  unfold zf_X2_goes at h
  refine lv_aload_n hx hb dX2_goes_0 rfl (lv_at hl 0 rfl) ?_
  refine lv_iload_n hx hb dX2_goes_1 rfl (lv_at hl 1 rfl) ?_
  refine lv_iconst (v := (0 : Int32)) hx hb dX2_goes_2 (by decide) ?_
  obtain ⟨r1, g2, h⟩ := bo1 h
  refine zb_callS (As := [.int v1, .int (0 : Int32)]) (rest := [.ref a]) ⟨hx, hb, hml, hown, hts⟩ (zc_X2_of l D cI v1 (0 : Int32) r1 g2) (va_cwS 2 hts gX2_goes_X2_of rfl rfl rfl hd_X2_of.2 ⟨Nat.le_of_ble_eq_true rfl, Nat.le_of_ble_eq_true rfl⟩) hK hP hD hS hA (zb_none _) rfl hl.1 rfl (Nat.le_of_ble_eq_true rfl) dX2_goes_3 ⟨Nat.le_refl _, Nat.le_refl _⟩ (fun H locs hP hD hS => ?_)
  obtain ⟨h3, h⟩ := it_g h
  refine va_iald hx hb hK.1 hP 0 0 rfl rfl h3 dX2_goes_6 ?_
  refine lv_istore_n (lv' := [(2, .int (r r1.toNatClampNeg)), (0, .ref a), (1, .int v1)]) hx hb dX2_goes_7 rfl hl (by decide) rfl (fun ls hl => ?_)
  refine lv_aload_n hx hb dX2_goes_8 rfl (lv_at hl 1 rfl) ?_
  refine lv_iload_n hx hb dX2_goes_9 rfl (lv_at hl 0 rfl) ?_
  obtain ⟨r4, g5, h⟩ := bo1 h
  refine zb_callS (As := [.ref a, .int (r r1.toNatClampNeg)]) (rest := []) ⟨hx, hb, hml, hown, hts⟩ (zc_X2_isDry l D cI a r (r r1.toNatClampNeg) r4 g5) (va_cwS 2 hts gX2_goes_X2_isDry rfl rfl rfl hd_X2_isDry.2 ⟨Nat.le_of_ble_eq_true rfl, Nat.le_of_ble_eq_true rfl⟩) hK hP hD hS hA (zb_all rfl rfl) rfl hl.1 rfl (Nat.le_of_ble_eq_true rfl) dX2_goes_10 ⟨Nat.le_refl _, Nat.le_refl _⟩ (fun H locs hP hD hS => ?_)
  refine lv_if_eq (tgt := 17) hx hb dX2_goes_13 (by decide) (fun c6 => ?_) (fun c6 => ?_)
  · replace h := it_t c6 h
    refine lv_aload_n hx hb dX2_goes_17 rfl (lv_at hl 1 rfl) ?_
    refine lv_iload_n hx hb dX2_goes_18 rfl (lv_at hl 2 rfl) ?_
    refine lv_aload_n hx hb dX2_goes_19 rfl (lv_at hl 1 rfl) ?_
    refine lv_iconst (v := (1 : Int32)) hx hb dX2_goes_20 (by decide) ?_
    refine va_iald hx hb hK.1 hP 0 0 rfl rfl (vl_in (by decide)) dX2_goes_21 ?_
    obtain ⟨r7, g8, h⟩ := bo1 h
    refine zb_callS (As := [.ref a, .int v1, .int (r (1 : Int32).toNatClampNeg)]) (rest := []) ⟨hx, hb, hml, hown, hts⟩ (zc_X2_wayOf l D cI a r v1 (r (1 : Int32).toNatClampNeg) r7 g8) (va_cwS 3 hts gX2_goes_X2_wayOf rfl rfl rfl hd_X2_wayOf.2 ⟨Nat.le_of_ble_eq_true rfl, Nat.le_of_ble_eq_true rfl⟩) hK hP hD hS hA (zb_all rfl rfl) rfl hl.1 rfl (Nat.le_of_ble_eq_true rfl) dX2_goes_22 ⟨Nat.le_refl _, Nat.le_refl _⟩ (fun H locs hP hD hS => ?_)
    refine lv_istore_n (lv' := [(3, .int r7), (2, .int (r r1.toNatClampNeg)), (0, .ref a), (1, .int v1)]) hx hb dX2_goes_25 rfl hl (by decide) rfl (fun ls hl => ?_)
    refine lv_iload_n hx hb dX2_goes_26 rfl (lv_at hl 1 rfl) ?_
    refine lv_iload_n hx hb dX2_goes_27 rfl (lv_at hl 0 rfl) ?_
    obtain ⟨r9, g10, h⟩ := bo1 h
    refine zb_callS (As := [.int (r r1.toNatClampNeg), .int r7]) (rest := []) ⟨hx, hb, hml, hown, hts⟩ (zc_X2_nodeThere l D cI (r r1.toNatClampNeg) r7 r9 g10) (va_cwS 2 hts gX2_goes_X2_nodeThere rfl rfl rfl hd_X2_nodeThere.2 ⟨Nat.le_of_ble_eq_true rfl, Nat.le_of_ble_eq_true rfl⟩) hK hP hD hS hA (zb_none _) rfl hl.1 rfl (Nat.le_of_ble_eq_true rfl) dX2_goes_28 ⟨Nat.le_refl _, Nat.le_refl _⟩ (fun H locs hP hD hS => ?_)
    refine lv_istore (lv' := [(4, .int r9), (3, .int r7), (2, .int (r r1.toNatClampNeg)), (0, .ref a), (1, .int v1)]) hx hb dX2_goes_31 hl (by decide) rfl (fun ls hl => ?_)
    refine lv_iload hx hb dX2_goes_33 (lv_at hl 0 rfl) ?_
    refine lv_if_ge (tgt := 72) hx hb dX2_goes_35 (by decide) (fun c11 => ?_) (fun c11 => ?_)
    · replace h := it_t c11 h
      refine lv_aload_n hx hb dX2_goes_72 rfl (lv_at hl 3 rfl) ?_
      refine lv_iload_n hx hb dX2_goes_73 rfl (lv_at hl 4 rfl) ?_
      refine lv_iconst (v := (0 : Int32)) hx hb dX2_goes_74 (by decide) ?_
      obtain ⟨r12, g13, h⟩ := bo1 h
      refine zb_callS (As := [.int v1, .int (0 : Int32)]) (rest := [.ref a]) ⟨hx, hb, hml, hown, hts⟩ (zc_X2_of l D cI v1 (0 : Int32) r12 g13) (va_cwS 2 hts gX2_goes_X2_of rfl rfl rfl hd_X2_of.2 ⟨Nat.le_of_ble_eq_true rfl, Nat.le_of_ble_eq_true rfl⟩) hK hP hD hS hA (zb_none _) rfl hl.1 rfl (Nat.le_of_ble_eq_true rfl) dX2_goes_75 ⟨Nat.le_refl _, Nat.le_refl _⟩ (fun H locs hP hD hS => ?_)
      refine lv_iload hx hb dX2_goes_78 (lv_at hl 0 rfl) ?_
      obtain ⟨h14, h⟩ := it_g h
      refine va_iast hx hb hK.1 hP hD hS 0 0 rfl rfl h14 dX2_goes_80 (fun H locs hP hD hS => ?_)
      have hP : va_P D zb_cl (zb_A cI a (upd r r12.toNatClampNeg r9)) H := hP
      have hD : va_D A (zb_A cI a (upd r r12.toNatClampNeg r9)) := hD
      refine lv_aload_n hx hb dX2_goes_81 rfl (lv_at hl 3 rfl) ?_
      refine lv_iload_n hx hb dX2_goes_82 rfl (lv_at hl 4 rfl) ?_
      refine lv_iconst (v := (1 : Int32)) hx hb dX2_goes_83 (by decide) ?_
      obtain ⟨r15, g16, h⟩ := bo1 h
      refine zb_callS (As := [.int v1, .int (1 : Int32)]) (rest := [.ref a]) ⟨hx, hb, hml, hown, hts⟩ (zc_X2_of l D cI v1 (1 : Int32) r15 g16) (va_cwS 2 hts gX2_goes_X2_of rfl rfl rfl hd_X2_of.2 ⟨Nat.le_of_ble_eq_true rfl, Nat.le_of_ble_eq_true rfl⟩) hK hP hD hS hA (zb_none _) rfl hl.1 rfl (Nat.le_of_ble_eq_true rfl) dX2_goes_84 ⟨Nat.le_refl _, Nat.le_refl _⟩ (fun H locs hP hD hS => ?_)
      refine lv_iload_n hx hb dX2_goes_87 rfl (lv_at hl 1 rfl) ?_
      obtain ⟨h17, h⟩ := it_g h
      refine va_iast hx hb hK.1 hP hD hS 0 0 rfl rfl h17 dX2_goes_88 (fun H locs hP hD hS => ?_)
      have hP : va_P D zb_cl (zb_A cI a (upd (upd r r12.toNatClampNeg r9) r15.toNatClampNeg r7)) H := hP
      have hD : va_D A (zb_A cI a (upd (upd r r12.toNatClampNeg r9) r15.toNatClampNeg r7)) := hD
      refine lv_aload_n hx hb dX2_goes_89 rfl (lv_at hl 3 rfl) ?_
      refine lv_iconst (v := (1 : Int32)) hx hb dX2_goes_90 (by decide) ?_
      refine va_iald hx hb hK.1 hP 0 0 rfl rfl (vl_in (by decide)) dX2_goes_91 ?_
      refine lv_iconst (v := (2 : Int32)) hx hb dX2_goes_92 (by decide) ?_
      refine lv_irem hx hb dX2_goes_93 (by decide) ?_
      refine lv_if_ne (tgt := 107) hx hb dX2_goes_94 (by decide) (fun c18 => ?_) (fun c18 => ?_)
      · replace h := it_f c18 h
        obtain rfl := re1 h
        exact zb_vret hx hb hr hlk hP hS dX2_goes_107
      · replace h := it_t c18 h
        refine lv_aload_n hx hb dX2_goes_97 rfl (lv_at hl 3 rfl) ?_
        refine lv_bipush (v := (63 : Int32)) hx hb dX2_goes_98 (by decide) ?_
        refine lv_iload_n hx hb dX2_goes_100 rfl (lv_at hl 2 rfl) ?_
        refine lv_iadd hx hb dX2_goes_101 ?_
        refine lv_dup2_11 hx hb dX2_goes_102 rfl rfl ?_
        obtain ⟨h19, h⟩ := it_g h
        refine va_iald hx hb hK.1 hP 0 0 rfl rfl h19 dX2_goes_103 ?_
        refine lv_iconst (v := (1 : Int32)) hx hb dX2_goes_104 (by decide) ?_
        refine lv_isub hx hb dX2_goes_105 ?_
        obtain ⟨h20, h⟩ := it_g h
        refine va_iast hx hb hK.1 hP hD hS 0 0 rfl rfl h20 dX2_goes_106 (fun H locs hP hD hS => ?_)
        have hP : va_P D zb_cl (zb_A cI a (upd (upd (upd r r12.toNatClampNeg r9) r15.toNatClampNeg r7) ((63 : Int32) + (r r1.toNatClampNeg)).toNatClampNeg (((upd (upd r r12.toNatClampNeg r9) r15.toNatClampNeg r7) ((63 : Int32) + (r r1.toNatClampNeg)).toNatClampNeg) - (1 : Int32)))) H := hP
        have hD : va_D A (zb_A cI a (upd (upd (upd r r12.toNatClampNeg r9) r15.toNatClampNeg r7) ((63 : Int32) + (r r1.toNatClampNeg)).toNatClampNeg (((upd (upd r r12.toNatClampNeg r9) r15.toNatClampNeg r7) ((63 : Int32) + (r r1.toNatClampNeg)).toNatClampNeg) - (1 : Int32)))) := hD
        obtain rfl := re1 h
        exact zb_vret hx hb hr hlk hP hS dX2_goes_107
    · replace h := it_f c11 h
      refine lv_aload_n hx hb dX2_goes_38 rfl (lv_at hl 3 rfl) ?_
      refine lv_iload_n hx hb dX2_goes_39 rfl (lv_at hl 4 rfl) ?_
      refine lv_iconst (v := (1 : Int32)) hx hb dX2_goes_40 (by decide) ?_
      obtain ⟨r21, g22, h⟩ := bo1 h
      refine zb_callS (As := [.int v1, .int (1 : Int32)]) (rest := [.ref a]) ⟨hx, hb, hml, hown, hts⟩ (zc_X2_of l D cI v1 (1 : Int32) r21 g22) (va_cwS 2 hts gX2_goes_X2_of rfl rfl rfl hd_X2_of.2 ⟨Nat.le_of_ble_eq_true rfl, Nat.le_of_ble_eq_true rfl⟩) hK hP hD hS hA (zb_none _) rfl hl.1 rfl (Nat.le_of_ble_eq_true rfl) dX2_goes_41 ⟨Nat.le_refl _, Nat.le_refl _⟩ (fun H locs hP hD hS => ?_)
      refine lv_iload_n hx hb dX2_goes_44 rfl (lv_at hl 1 rfl) ?_
      refine lv_iconst (v := (2 : Int32)) hx hb dX2_goes_45 (by decide) ?_
      refine lv_iadd hx hb dX2_goes_46 ?_
      refine lv_iconst (v := (4 : Int32)) hx hb dX2_goes_47 (by decide) ?_
      refine lv_irem hx hb dX2_goes_48 (by decide) ?_
      obtain ⟨h23, h⟩ := it_g h
      refine va_iast hx hb hK.1 hP hD hS 0 0 rfl rfl h23 dX2_goes_49 (fun H locs hP hD hS => ?_)
      have hP : va_P D zb_cl (zb_A cI a (upd r r21.toNatClampNeg (jr (r7 + (2 : Int32)) (4 : Int32)))) H := hP
      have hD : va_D A (zb_A cI a (upd r r21.toNatClampNeg (jr (r7 + (2 : Int32)) (4 : Int32)))) := hD
      refine lv_aload_n hx hb dX2_goes_50 rfl (lv_at hl 3 rfl) ?_
      refine lv_iload_n hx hb dX2_goes_51 rfl (lv_at hl 4 rfl) ?_
      refine lv_iconst (v := (2 : Int32)) hx hb dX2_goes_52 (by decide) ?_
      obtain ⟨r24, g25, h⟩ := bo1 h
      refine zb_callS (As := [.int v1, .int (2 : Int32)]) (rest := [.ref a]) ⟨hx, hb, hml, hown, hts⟩ (zc_X2_of l D cI v1 (2 : Int32) r24 g25) (va_cwS 2 hts gX2_goes_X2_of rfl rfl rfl hd_X2_of.2 ⟨Nat.le_of_ble_eq_true rfl, Nat.le_of_ble_eq_true rfl⟩) hK hP hD hS hA (zb_none _) rfl hl.1 rfl (Nat.le_of_ble_eq_true rfl) dX2_goes_53 ⟨Nat.le_refl _, Nat.le_refl _⟩ (fun H locs hP hD hS => ?_)
      refine lv_bipush (v := (99 : Int32)) hx hb dX2_goes_56 (by decide) ?_
      refine lv_aload_n hx hb dX2_goes_58 rfl (lv_at hl 3 rfl) ?_
      refine lv_iload_n hx hb dX2_goes_59 rfl (lv_at hl 4 rfl) ?_
      refine lv_iconst (v := (2 : Int32)) hx hb dX2_goes_60 (by decide) ?_
      obtain ⟨r26, g27, h⟩ := bo1 h
      refine zb_callS (As := [.int v1, .int (2 : Int32)]) (rest := [.ref a, .int (99 : Int32), .int r24, .ref a]) ⟨hx, hb, hml, hown, hts⟩ (zc_X2_of l D cI v1 (2 : Int32) r26 g27) (va_cwS 2 hts gX2_goes_X2_of rfl rfl rfl hd_X2_of.2 ⟨Nat.le_of_ble_eq_true rfl, Nat.le_of_ble_eq_true rfl⟩) hK hP hD hS hA (zb_none _) rfl hl.1 rfl (Nat.le_of_ble_eq_true rfl) dX2_goes_61 ⟨Nat.le_refl _, Nat.le_refl _⟩ (fun H locs hP hD hS => ?_)
      obtain ⟨h28, h⟩ := it_g h
      refine va_iald hx hb hK.1 hP 0 0 rfl rfl h28 dX2_goes_64 ?_
      refine lv_iconst (v := (1 : Int32)) hx hb dX2_goes_65 (by decide) ?_
      refine lv_iadd hx hb dX2_goes_66 ?_
      obtain ⟨r29, g30, h⟩ := bo1 h
      refine zb_callS (As := [.int (99 : Int32), .int (((upd r r21.toNatClampNeg (jr (r7 + (2 : Int32)) (4 : Int32))) r26.toNatClampNeg) + (1 : Int32))]) (rest := [.int r24, .ref a]) ⟨hx, hb, hml, hown, hts⟩ (zc_X2_least l D cI (99 : Int32) (((upd r r21.toNatClampNeg (jr (r7 + (2 : Int32)) (4 : Int32))) r26.toNatClampNeg) + (1 : Int32)) r29 g30) (va_cwS 2 hts gX2_goes_X2_least rfl rfl rfl hd_X2_least.2 ⟨Nat.le_of_ble_eq_true rfl, Nat.le_of_ble_eq_true rfl⟩) hK hP hD hS hA (zb_none _) rfl hl.1 rfl (Nat.le_of_ble_eq_true rfl) dX2_goes_67 ⟨Nat.le_refl _, Nat.le_refl _⟩ (fun H locs hP hD hS => ?_)
      obtain ⟨h31, h⟩ := it_g h
      refine va_iast hx hb hK.1 hP hD hS 0 0 rfl rfl h31 dX2_goes_70 (fun H locs hP hD hS => ?_)
      have hP : va_P D zb_cl (zb_A cI a (upd (upd r r21.toNatClampNeg (jr (r7 + (2 : Int32)) (4 : Int32))) r24.toNatClampNeg r29)) H := hP
      have hD : va_D A (zb_A cI a (upd (upd r r21.toNatClampNeg (jr (r7 + (2 : Int32)) (4 : Int32))) r24.toNatClampNeg r29)) := hD
      obtain rfl := re1 h
      exact zb_vret hx hb hr hlk hP hS dX2_goes_71
  · replace h := it_f c6 h
    obtain rfl := re1 h
    exact zb_vret hx hb hr hlk hP hS dX2_goes_16
abbrev rm_X2_step : Room := { frames := 3, cells := 0, slots := 0, locals := 70 }
theorem hd_X2_step : yX2_step.cls = RX2 ∧ yX2_step.cls ≠ "java/lang/invoke/MethodHandle" ∧ yX2_step.cls ≠ "java/lang/invoke/VarHandle" ∧ (parseMethodDescriptor yX2_step.desc).map (fun d => d.parameters.length) = some 1 := by decide +kernel
set_option maxHeartbeats 4000000 in
set_option maxRecDepth 100000 in
theorem zc_X2_step (l : Launch) (D : va_G) (cI : ClassId) (a : Nat) (r : (Nat → Int32)) (w_r : (Nat → Int32)) (h : zf_X2_step r = some w_r) : Cn l D cI yX2_step wsX2_step rm_X2_step [.ref a] (zb_A cI a r) none (zb_A cI a w_r) := by
  refine zb_ofW (cc := cX2_step) (maxL := 2) (ret := none) (by decide) rfl (Nat.le_of_ble_eq_true rfl) ?_
  intro p e s m args below meth c A ls hx hb hr hml hts hown hlk hK hP hD hA hl
  have hS : va_S A s.heap s.heap [] := va_S.rf
  have hl : lv_has ls 2 [(0, .ref a)] := hl
  unfold zf_X2_step at h
  refine lv_aload_n hx hb dX2_step_0 rfl (lv_at hl 0 rfl) ?_
  refine lv_iconst (v := (1 : Int32)) hx hb dX2_step_1 (by decide) ?_
  refine lv_dup2_11 hx hb dX2_step_2 rfl rfl ?_
  refine va_iald hx hb hK.1 hP 0 0 rfl rfl (vl_in (by decide)) dX2_step_3 ?_
  refine lv_iconst (v := (1 : Int32)) hx hb dX2_step_4 (by decide) ?_
  refine lv_iadd hx hb dX2_step_5 ?_
  refine va_iast hx hb hK.1 hP hD hS 0 0 rfl rfl (vl_in (by decide)) dX2_step_6 (fun H locs hP hD hS => ?_)
  have hP : va_P D zb_cl (zb_A cI a (upd r (1 : Int32).toNatClampNeg ((r (1 : Int32).toNatClampNeg) + (1 : Int32)))) H := hP
  have hD : va_D A (zb_A cI a (upd r (1 : Int32).toNatClampNeg ((r (1 : Int32).toNatClampNeg) + (1 : Int32)))) := hD
  refine lv_iconst (v := (0 : Int32)) hx hb dX2_step_7 (by decide) ?_
  refine lv_istore_n (lv' := [(1, .int (0 : Int32)), (0, .ref a)]) hx hb dX2_step_8 rfl hl (by decide) rfl (fun ls hl => ?_)
  have lp3 : ∀ (fu3 : Nat) (x1 : Int32) (x2 : (Nat → Int32)) (H : Heap) (locs : List Loc) (hP : va_P D zb_cl (zb_A cI a x2) H) (hD : va_D A (zb_A cI a x2)) (hS : va_S A s.heap H locs) (ls : Array Slot) (hl : lv_has ls 2 [(0, .ref a), (1, .int x1)]) (h : zl2 zf_X2_step_b9 fu3 x1 x2 = some w_r), W p l e rm_X2_step s m args below meth c H locs 0 0 (zb_Q below D none (zb_A cI a w_r) A args s) (F0 m 9 ls []) := by
    intro fu3
    induction fu3 with
    | zero => intro x1 x2 H locs hP hD hS ls hl h; exact zb_no h
    | succ fu3 ih3 =>
      intro x1 x2 H locs hP hD hS ls hl h
      replace h : zf_X2_step_b9  (zl2 zf_X2_step_b9 fu3) x1 x2 = some w_r := h
      unfold zf_X2_step_b9 at h
      refine lv_iload_n hx hb dX2_step_9 rfl (lv_at hl 1 rfl) ?_
      refine lv_aload_n hx hb dX2_step_10 rfl (lv_at hl 0 rfl) ?_
      refine lv_iconst (v := (0 : Int32)) hx hb dX2_step_11 (by decide) ?_
      refine va_iald hx hb hK.1 hP 0 0 rfl rfl (vl_in (by decide)) dX2_step_12 ?_
      refine lv_icmp_ge (tgt := 37) hx hb dX2_step_13 (by decide) (fun c4 => ?_) (fun c4 => ?_)
      · replace h := it_t c4 h
        obtain rfl := re1 h
        exact zb_vret hx hb hr hlk hP hS dX2_step_37
      · replace h := it_f c4 h
        refine lv_aload_n hx hb dX2_step_16 rfl (lv_at hl 0 rfl) ?_
        refine lv_iconst (v := (2 : Int32)) hx hb dX2_step_17 (by decide) ?_
        refine va_iald hx hb hK.1 hP 0 0 rfl rfl (vl_in (by decide)) dX2_step_18 ?_
        refine lv_iload_n hx hb dX2_step_19 rfl (lv_at hl 1 rfl) ?_
        obtain ⟨r5, g6, h⟩ := bo1 h
        refine zb_callS (As := [.int (x2 (2 : Int32).toNatClampNeg), .int x1]) (rest := []) ⟨hx, hb, hml, hown, hts⟩ (zc_X2_has l D cI (x2 (2 : Int32).toNatClampNeg) x1 r5 g6) (va_cwS 2 hts gX2_step_X2_has rfl rfl rfl hd_X2_has.2 ⟨Nat.le_of_ble_eq_true rfl, Nat.le_of_ble_eq_true rfl⟩) hK hP hD hS hA (zb_none _) rfl hl.1 rfl (Nat.le_of_ble_eq_true rfl) dX2_step_20 ⟨Nat.le_refl _, Nat.le_refl _⟩ (fun H locs hP hD hS => ?_)
        refine lv_if_ne (tgt := 31) hx hb dX2_step_23 (by decide) (fun c7 => ?_) (fun c7 => ?_)
        · replace h := it_f c7 h
          refine lv_iinc (v := (x1 + (1 : Int32))) (lv' := [(1, .int (x1 + (1 : Int32))), (0, .ref a)]) hx hb dX2_step_31 hl (k := 1) rfl (by first | rfl | decide) (by decide) rfl (fun ls hl => ?_)
          refine lv_goto (tgt := 9) hx hb dX2_step_34 (by decide) ?_
          exact ih3 (x1 + (1 : Int32)) x2 _ _ hP hD hS ls (lv_sub hl [1, 0] rfl) h
        · replace h := it_t c7 h
          refine lv_aload_n hx hb dX2_step_26 rfl (lv_at hl 0 rfl) ?_
          refine lv_iload_n hx hb dX2_step_27 rfl (lv_at hl 1 rfl) ?_
          obtain ⟨n8, g9, h⟩ := bo1 h
          refine zb_callS (As := [.ref a, .int x1]) (rest := []) ⟨hx, hb, hml, hown, hts⟩ (zc_X2_goes l D cI a x2 x1 n8 g9) (va_cwS 2 hts gX2_step_X2_goes rfl rfl rfl hd_X2_goes.2 ⟨Nat.le_of_ble_eq_true rfl, Nat.le_of_ble_eq_true rfl⟩) hK hP hD hS hA (zb_all rfl rfl) rfl hl.1 rfl (Nat.le_of_ble_eq_true rfl) dX2_step_28 ⟨Nat.le_refl _, Nat.le_refl _⟩ (fun H locs hP hD hS => ?_)
          refine lv_iinc (v := (x1 + (1 : Int32))) (lv' := [(1, .int (x1 + (1 : Int32))), (0, .ref a)]) hx hb dX2_step_31 hl (k := 1) rfl (by first | rfl | decide) (by decide) rfl (fun ls hl => ?_)
          refine lv_goto (tgt := 9) hx hb dX2_step_34 (by decide) ?_
          exact ih3 (x1 + (1 : Int32)) n8 _ _ hP hD hS ls (lv_sub hl [1, 0] rfl) h
  exact lp3 zb_FU (0 : Int32) (upd r (1 : Int32).toNatClampNeg ((r (1 : Int32).toNatClampNeg) + (1 : Int32))) _ _ hP hD hS ls (lv_sub hl [1, 0] rfl) h
abbrev rm_X2_stepsOn : Room := { frames := 4, cells := 0, slots := 0, locals := 91 }
theorem hd_X2_stepsOn : yX2_stepsOn.cls = RX2 ∧ yX2_stepsOn.cls ≠ "java/lang/invoke/MethodHandle" ∧ yX2_stepsOn.cls ≠ "java/lang/invoke/VarHandle" ∧ (parseMethodDescriptor yX2_stepsOn.desc).map (fun d => d.parameters.length) = some 2 := by decide +kernel
set_option maxHeartbeats 4000000 in
set_option maxRecDepth 100000 in
theorem zc_X2_stepsOn (l : Launch) (D : va_G) (cI : ClassId) (a : Nat) (r : (Nat → Int32)) (v1 : Int32) (w_r : (Nat → Int32)) (h : zf_X2_stepsOn r v1 = some w_r) : Cn l D cI yX2_stepsOn wsX2_stepsOn rm_X2_stepsOn [.ref a, .int v1] (zb_A cI a r) none (zb_A cI a w_r) := by
  refine zb_ofW (cc := cX2_stepsOn) (maxL := 3) (ret := none) (by decide) rfl (Nat.le_of_ble_eq_true rfl) ?_
  intro p e s m args below meth c A ls hx hb hr hml hts hown hlk hK hP hD hA hl
  have hS : va_S A s.heap s.heap [] := va_S.rf
  have hl : lv_has ls 3 [(0, .ref a), (1, .int v1)] := hl
  unfold zf_X2_stepsOn at h
  refine lv_iconst (v := (0 : Int32)) hx hb dX2_stepsOn_0 (by decide) ?_
  refine lv_istore_n (lv' := [(2, .int (0 : Int32)), (0, .ref a), (1, .int v1)]) hx hb dX2_stepsOn_1 rfl hl (by decide) rfl (fun ls hl => ?_)
  have lp3 : ∀ (fu3 : Nat) (x1 : Int32) (x2 : (Nat → Int32)) (H : Heap) (locs : List Loc) (hP : va_P D zb_cl (zb_A cI a x2) H) (hD : va_D A (zb_A cI a x2)) (hS : va_S A s.heap H locs) (ls : Array Slot) (hl : lv_has ls 3 [(0, .ref a), (1, .int v1), (2, .int x1)]) (h : zl2 (zf_X2_stepsOn_b2 v1) fu3 x1 x2 = some w_r), W p l e rm_X2_stepsOn s m args below meth c H locs 0 0 (zb_Q below D none (zb_A cI a w_r) A args s) (F0 m 2 ls []) := by
    intro fu3
    induction fu3 with
    | zero => intro x1 x2 H locs hP hD hS ls hl h; exact zb_no h
    | succ fu3 ih3 =>
      intro x1 x2 H locs hP hD hS ls hl h
      replace h : zf_X2_stepsOn_b2 v1 (zl2 (zf_X2_stepsOn_b2 v1) fu3) x1 x2 = some w_r := h
      unfold zf_X2_stepsOn_b2 at h
      refine lv_iload_n hx hb dX2_stepsOn_2 rfl (lv_at hl 2 rfl) ?_
      refine lv_iload_n hx hb dX2_stepsOn_3 rfl (lv_at hl 1 rfl) ?_
      refine lv_icmp_ge (tgt := 17) hx hb dX2_stepsOn_4 (by decide) (fun c4 => ?_) (fun c4 => ?_)
      · replace h := it_t c4 h
        obtain rfl := re1 h
        exact zb_vret hx hb hr hlk hP hS dX2_stepsOn_17
      · replace h := it_f c4 h
        refine lv_aload_n hx hb dX2_stepsOn_7 rfl (lv_at hl 0 rfl) ?_
        obtain ⟨n5, g6, h⟩ := bo1 h
        refine zb_callS (As := [.ref a]) (rest := []) ⟨hx, hb, hml, hown, hts⟩ (zc_X2_step l D cI a x2 n5 g6) (va_cwS 1 hts gX2_stepsOn_X2_step rfl rfl rfl hd_X2_step.2 ⟨Nat.le_of_ble_eq_true rfl, Nat.le_of_ble_eq_true rfl⟩) hK hP hD hS hA (zb_all rfl rfl) rfl hl.1 rfl (Nat.le_of_ble_eq_true rfl) dX2_stepsOn_8 ⟨Nat.le_refl _, Nat.le_refl _⟩ (fun H locs hP hD hS => ?_)
        refine lv_iinc (v := (x1 + (1 : Int32))) (lv' := [(2, .int (x1 + (1 : Int32))), (0, .ref a), (1, .int v1)]) hx hb dX2_stepsOn_11 hl (k := 2) rfl (by first | rfl | decide) (by decide) rfl (fun ls hl => ?_)
        refine lv_goto (tgt := 2) hx hb dX2_stepsOn_14 (by decide) ?_
        exact ih3 (x1 + (1 : Int32)) n5 _ _ hP hD hS ls (lv_sub hl [1, 2, 0] rfl) h
  exact lp3 zb_FU (0 : Int32) r _ _ hP hD hS ls (lv_sub hl [1, 2, 0] rfl) h
abbrev rm_X2_sumOf : Room := { frames := 0, cells := 0, slots := 0, locals := 0 }
theorem hd_X2_sumOf : yX2_sumOf.cls = RX2 ∧ yX2_sumOf.cls ≠ "java/lang/invoke/MethodHandle" ∧ yX2_sumOf.cls ≠ "java/lang/invoke/VarHandle" ∧ (parseMethodDescriptor yX2_sumOf.desc).map (fun d => d.parameters.length) = some 4 := by decide +kernel
set_option maxHeartbeats 4000000 in
set_option maxRecDepth 100000 in
theorem zc_X2_sumOf (l : Launch) (D : va_G) (cI : ClassId) (a : Nat) (r : (Nat → Int32)) (v1 : Int32) (v2 : Int32) (v3 : Int32) (r0 : Int32) (h : zf_X2_sumOf r v1 v2 v3 = some r0) : Cn l D cI yX2_sumOf wsX2_sumOf rm_X2_sumOf [.ref a, .int v1, .int v2, .int v3] (zb_A cI a r) (some (.int r0)) (zb_A cI a r) := by
  refine zb_ofW (cc := cX2_sumOf) (maxL := 6) (ret := (some .int)) (by decide) rfl (Nat.le_of_ble_eq_true rfl) ?_
  intro p e s m args below meth c A ls hx hb hr hml hts hown hlk hK hP hD hA hl
  have hS : va_S A s.heap s.heap [] := va_S.rf
  have hl : lv_has ls 6 [(0, .ref a), (1, .int v1), (2, .int v2), (3, .int v3)] := hl
  unfold zf_X2_sumOf at h
  refine lv_iconst (v := (0 : Int32)) hx hb dX2_sumOf_0 (by decide) ?_
  refine lv_istore (lv' := [(4, .int (0 : Int32)), (0, .ref a), (1, .int v1), (2, .int v2), (3, .int v3)]) hx hb dX2_sumOf_1 hl (by decide) rfl (fun ls hl => ?_)
  refine lv_iconst (v := (0 : Int32)) hx hb dX2_sumOf_3 (by decide) ?_
  refine lv_istore (lv' := [(5, .int (0 : Int32)), (4, .int (0 : Int32)), (0, .ref a), (1, .int v1), (2, .int v2), (3, .int v3)]) hx hb dX2_sumOf_4 hl (by decide) rfl (fun ls hl => ?_)
  have lp3 : ∀ (fu3 : Nat) (x1 : Int32) (x2 : Int32) (H : Heap) (locs : List Loc) (hP : va_P D zb_cl (zb_A cI a r) H) (hD : va_D A (zb_A cI a r)) (hS : va_S A s.heap H locs) (ls : Array Slot) (hl : lv_has ls 6 [(0, .ref a), (1, .int v1), (2, .int v2), (3, .int v3), (4, .int x1), (5, .int x2)]) (h : zl2 (zf_X2_sumOf_b6 v1 v2 v3 r) fu3 x1 x2 = some r0), W p l e rm_X2_sumOf s m args below meth c H locs 0 0 (zb_Q below D (some (.int r0)) (zb_A cI a r) A args s) (F0 m 6 ls []) := by
    intro fu3
    induction fu3 with
    | zero => intro x1 x2 H locs hP hD hS ls hl h; exact zb_no h
    | succ fu3 ih3 =>
      intro x1 x2 H locs hP hD hS ls hl h
      replace h : zf_X2_sumOf_b6 v1 v2 v3 r (zl2 (zf_X2_sumOf_b6 v1 v2 v3 r) fu3) x1 x2 = some r0 := h
      unfold zf_X2_sumOf_b6 at h
      refine lv_iload hx hb dX2_sumOf_6 (lv_at hl 5 rfl) ?_
      refine lv_iload_n hx hb dX2_sumOf_8 rfl (lv_at hl 2 rfl) ?_
      refine lv_icmp_ge (tgt := 31) hx hb dX2_sumOf_9 (by decide) (fun c4 => ?_) (fun c4 => ?_)
      · replace h := it_t c4 h
        refine lv_iload hx hb dX2_sumOf_31 (lv_at hl 4 rfl) ?_
        obtain rfl := re1 h
        exact zb_iret hx hb hr hlk hP hS dX2_sumOf_33
      · replace h := it_f c4 h
        refine lv_iload hx hb dX2_sumOf_12 (lv_at hl 4 rfl) ?_
        refine lv_aload_n hx hb dX2_sumOf_14 rfl (lv_at hl 0 rfl) ?_
        refine lv_iload_n hx hb dX2_sumOf_15 rfl (lv_at hl 1 rfl) ?_
        refine lv_iload_n hx hb dX2_sumOf_16 rfl (lv_at hl 3 rfl) ?_
        refine lv_iload hx hb dX2_sumOf_17 (lv_at hl 5 rfl) ?_
        refine lv_imul hx hb dX2_sumOf_19 ?_
        refine lv_iadd hx hb dX2_sumOf_20 ?_
        obtain ⟨h5, h⟩ := it_g h
        refine va_iald hx hb hK.1 hP 0 0 rfl rfl h5 dX2_sumOf_21 ?_
        refine lv_iadd hx hb dX2_sumOf_22 ?_
        refine lv_istore (lv' := [(4, .int (x1 + (r (v1 + (v3 * x2)).toNatClampNeg))), (0, .ref a), (1, .int v1), (2, .int v2), (3, .int v3), (5, .int x2)]) hx hb dX2_sumOf_23 hl (by decide) rfl (fun ls hl => ?_)
        refine lv_iinc (v := (x2 + (1 : Int32))) (lv' := [(5, .int (x2 + (1 : Int32))), (4, .int (x1 + (r (v1 + (v3 * x2)).toNatClampNeg))), (0, .ref a), (1, .int v1), (2, .int v2), (3, .int v3)]) hx hb dX2_sumOf_25 hl (k := 5) rfl (by first | rfl | decide) (by decide) rfl (fun ls hl => ?_)
        refine lv_goto (tgt := 6) hx hb dX2_sumOf_28 (by decide) ?_
        exact ih3 (x1 + (r (v1 + (v3 * x2)).toNatClampNeg)) (x2 + (1 : Int32)) _ _ hP hD hS ls (lv_sub hl [2, 3, 4, 5, 1, 0] rfl) h
  exact lp3 zb_FU (0 : Int32) (0 : Int32) _ _ hP hD hS ls (lv_sub hl [2, 3, 4, 5, 1, 0] rfl) h
abbrev rm_X2_allWet : Room := { frames := 1, cells := 0, slots := 0, locals := 25 }
theorem hd_X2_allWet : yX2_allWet.cls = RX2 ∧ yX2_allWet.cls ≠ "java/lang/invoke/MethodHandle" ∧ yX2_allWet.cls ≠ "java/lang/invoke/VarHandle" ∧ (parseMethodDescriptor yX2_allWet.desc).map (fun d => d.parameters.length) = some 1 := by decide +kernel
set_option maxHeartbeats 4000000 in
set_option maxRecDepth 100000 in
theorem zc_X2_allWet (l : Launch) (D : va_G) (cI : ClassId) (a : Nat) (r : (Nat → Int32)) (r0 : Int32) (h : zf_X2_allWet r = some r0) : Cn l D cI yX2_allWet wsX2_allWet rm_X2_allWet [.ref a] (zb_A cI a r) (some (.int r0)) (zb_A cI a r) := by
  refine zb_ofW (cc := cX2_allWet) (maxL := 1) (ret := (some .int)) (by decide) rfl (Nat.le_of_ble_eq_true rfl) ?_
  intro p e s m args below meth c A ls hx hb hr hml hts hown hlk hK hP hD hA hl
  have hS : va_S A s.heap s.heap [] := va_S.rf
  have hl : lv_has ls 1 [(0, .ref a)] := hl
  unfold zf_X2_allWet at h
  refine lv_aload_n hx hb dX2_allWet_0 rfl (lv_at hl 0 rfl) ?_
  refine lv_bipush (v := (63 : Int32)) hx hb dX2_allWet_1 (by decide) ?_
  refine lv_bipush (v := (30 : Int32)) hx hb dX2_allWet_3 (by decide) ?_
  refine lv_iconst (v := (1 : Int32)) hx hb dX2_allWet_5 (by decide) ?_
  obtain ⟨r1, g2, h⟩ := bo1 h
  refine zb_callS (As := [.ref a, .int (63 : Int32), .int (30 : Int32), .int (1 : Int32)]) (rest := []) ⟨hx, hb, hml, hown, hts⟩ (zc_X2_sumOf l D cI a r (63 : Int32) (30 : Int32) (1 : Int32) r1 g2) (va_cwS 4 hts gX2_allWet_X2_sumOf rfl rfl rfl hd_X2_sumOf.2 ⟨Nat.le_of_ble_eq_true rfl, Nat.le_of_ble_eq_true rfl⟩) hK hP hD hS hA (zb_all rfl rfl) rfl hl.1 rfl (Nat.le_of_ble_eq_true rfl) dX2_allWet_6 ⟨Nat.le_refl _, Nat.le_refl _⟩ (fun H locs hP hD hS => ?_)
  obtain rfl := re1 h
  exact zb_iret hx hb hr hlk hP hS dX2_allWet_9
abbrev rm_X2_allHelped : Room := { frames := 1, cells := 0, slots := 0, locals := 25 }
theorem hd_X2_allHelped : yX2_allHelped.cls = RX2 ∧ yX2_allHelped.cls ≠ "java/lang/invoke/MethodHandle" ∧ yX2_allHelped.cls ≠ "java/lang/invoke/VarHandle" ∧ (parseMethodDescriptor yX2_allHelped.desc).map (fun d => d.parameters.length) = some 1 := by decide +kernel
set_option maxHeartbeats 4000000 in
set_option maxRecDepth 100000 in
theorem zc_X2_allHelped (l : Launch) (D : va_G) (cI : ClassId) (a : Nat) (r : (Nat → Int32)) (r0 : Int32) (h : zf_X2_allHelped r = some r0) : Cn l D cI yX2_allHelped wsX2_allHelped rm_X2_allHelped [.ref a] (zb_A cI a r) (some (.int r0)) (zb_A cI a r) := by
  refine zb_ofW (cc := cX2_allHelped) (maxL := 1) (ret := (some .int)) (by decide) rfl (Nat.le_of_ble_eq_true rfl) ?_
  intro p e s m args below meth c A ls hx hb hr hml hts hown hlk hK hP hD hA hl
  have hS : va_S A s.heap s.heap [] := va_S.rf
  have hl : lv_has ls 1 [(0, .ref a)] := hl
  unfold zf_X2_allHelped at h
  refine lv_aload_n hx hb dX2_allHelped_0 rfl (lv_at hl 0 rfl) ?_
  refine lv_iconst (v := (0 : Int32)) hx hb dX2_allHelped_1 (by decide) ?_
  refine lv_iconst (v := (2 : Int32)) hx hb dX2_allHelped_2 (by decide) ?_
  obtain ⟨r1, g2, h⟩ := bo1 h
  refine zb_callS (As := [.int (0 : Int32), .int (2 : Int32)]) (rest := [.ref a]) ⟨hx, hb, hml, hown, hts⟩ (zc_X2_of l D cI (0 : Int32) (2 : Int32) r1 g2) (va_cwS 2 hts gX2_allHelped_X2_of rfl rfl rfl hd_X2_of.2 ⟨Nat.le_of_ble_eq_true rfl, Nat.le_of_ble_eq_true rfl⟩) hK hP hD hS hA (zb_none _) rfl hl.1 rfl (Nat.le_of_ble_eq_true rfl) dX2_allHelped_3 ⟨Nat.le_refl _, Nat.le_refl _⟩ (fun H locs hP hD hS => ?_)
  refine lv_aload_n hx hb dX2_allHelped_6 rfl (lv_at hl 0 rfl) ?_
  refine lv_iconst (v := (0 : Int32)) hx hb dX2_allHelped_7 (by decide) ?_
  refine va_iald hx hb hK.1 hP 0 0 rfl rfl (vl_in (by decide)) dX2_allHelped_8 ?_
  refine lv_iconst (v := (3 : Int32)) hx hb dX2_allHelped_9 (by decide) ?_
  obtain ⟨r3, g4, h⟩ := bo1 h
  refine zb_callS (As := [.ref a, .int r1, .int (r (0 : Int32).toNatClampNeg), .int (3 : Int32)]) (rest := []) ⟨hx, hb, hml, hown, hts⟩ (zc_X2_sumOf l D cI a r r1 (r (0 : Int32).toNatClampNeg) (3 : Int32) r3 g4) (va_cwS 4 hts gX2_allHelped_X2_sumOf rfl rfl rfl hd_X2_sumOf.2 ⟨Nat.le_of_ble_eq_true rfl, Nat.le_of_ble_eq_true rfl⟩) hK hP hD hS hA (zb_all rfl rfl) rfl hl.1 rfl (Nat.le_of_ble_eq_true rfl) dX2_allHelped_10 ⟨Nat.le_refl _, Nat.le_refl _⟩ (fun H locs hP hD hS => ?_)
  obtain rfl := re1 h
  exact zb_iret hx hb hr hlk hP hS dX2_allHelped_13
abbrev rm_X2_letter : Room := { frames := 1, cells := 0, slots := 0, locals := 21 }
theorem hd_X2_letter : yX2_letter.cls = RX2 ∧ yX2_letter.cls ≠ "java/lang/invoke/MethodHandle" ∧ yX2_letter.cls ≠ "java/lang/invoke/VarHandle" ∧ (parseMethodDescriptor yX2_letter.desc).map (fun d => d.parameters.length) = some 1 := by decide +kernel
theorem zi_X2_letter_X2 : ∀ w ∈ wsX20, w ∈ wsX2_letter := fun _ h => List.mem_cons_of_mem _ (List.mem_append_right _ h)
theorem zk_X2_letter_0 : Cond.fieldLink RX2 85 "GroutingIsFollowedModel" "letterMany" "I" ∈ wsX2_letter := by decide +kernel
theorem zk_X2_letter_1 : Cond.fieldLink RX2 22 "GroutingIsFollowedModel" "letters" "[I" ∈ wsX2_letter := by decide +kernel
set_option maxHeartbeats 4000000 in
set_option maxRecDepth 100000 in
theorem zc_X2_letter (l : Launch) (D : va_G) (cI : ClassId) (ad : Nat → Nat) (m_s : (Nat → Int32)) (m_m : (Nat → Int32)) (m_image : (Nat → Int32)) (m_was : (Nat → Int32)) (m_hasImage : Int32) (m_letters : (Nat → Int32)) (m_row : (Nat → Int32)) (m_refused : (Nat → Int32)) (m_letterMany : Int32) (m_rowMany : Int32) (m_place : Int32) (m_numbers : (Nat → Int32)) (m_cost : (Nat → Int32)) (m_seed : Int32) (v1 : Int32) (r0 : Int32) (w_m_letters : (Nat → Int32)) (w_m_refused : (Nat → Int32)) (w_m_letterMany : Int32) (h : zf_X2_letter m_letters m_refused m_letterMany v1 = some (r0, w_m_letters, w_m_refused, w_m_letterMany)) : Cn l D cI yX2_letter wsX2_letter rm_X2_letter [.ref (ad 0), .int v1] (zb_M cI ad m_s m_m m_image m_was m_hasImage m_letters m_row m_refused m_letterMany m_rowMany m_place m_numbers m_cost m_seed) (some (.int r0)) (zb_M cI ad m_s m_m m_image m_was m_hasImage w_m_letters m_row w_m_refused w_m_letterMany m_rowMany m_place m_numbers m_cost m_seed) := by
  refine zb_ofW (cc := cX2_letter) (maxL := 2) (ret := (some .int)) (by decide) rfl (Nat.le_of_ble_eq_true rfl) ?_
  intro p e s m args below meth c A ls hx hb hr hml hts hown hlk hK hP hD hA hl
  have hS : va_S A s.heap s.heap [] := va_S.rf
  have hl : lv_has ls 2 [(0, .ref (ad 0)), (1, .int v1)] := hl
  unfold zf_X2_letter at h
  refine lv_iload_n hx hb dX2_letter_0 rfl (lv_at hl 1 rfl) ?_
  refine lv_if_ge (tgt := 11) hx hb dX2_letter_1 (by decide) (fun c1 => ?_) (fun c1 => ?_)
  · replace h := it_t c1 h
    refine lv_iload_n hx hb dX2_letter_11 rfl (lv_at hl 1 rfl) ?_
    refine lv_sipush (v := (255 : Int32)) hx hb dX2_letter_12 (by decide) ?_
    refine lv_icmp_gt (tgt := 27) hx hb dX2_letter_15 (by decide) (fun c2 => ?_) (fun c2 => ?_)
    · replace h := it_t c2 h
      refine lv_aload_n hx hb dX2_letter_27 rfl (lv_at hl 0 rfl) ?_
      refine lv_bipush (v := ((-6) : Int32)) hx hb dX2_letter_28 (by decide) ?_
      obtain ⟨r3, n4, g5, h⟩ := bo2 h
      refine zb_callV (As := [.int ((-6) : Int32)]) (rest := []) ⟨hx, hb, hml, hown, hts⟩ (zc_X2_no l D cI ad m_s m_m m_image m_was m_hasImage m_letters m_row m_refused m_letterMany m_rowMany m_place m_numbers m_cost m_seed ((-6) : Int32) r3 n4 g5) (cwV 1 hts gX2_letter_X2_no rfl rfl rfl hd_X2_no ⟨Nat.le_of_ble_eq_true rfl, Nat.le_of_ble_eq_true rfl⟩) hK hP hD hS hA (zb_sM) (q0 := 0) rfl rfl rfl hl.1 rfl (Nat.le_of_ble_eq_true rfl) dX2_letter_30 ⟨Nat.le_refl _, Nat.le_refl _⟩ (fun H locs hP hD hS => ?_)
      obtain ⟨rfl, rfl, rfl, rfl⟩ := re4 h
      exact zb_iret hx hb hr hlk hP hS dX2_letter_33
    · replace h := it_f c2 h
      refine lv_aload_n hx hb dX2_letter_18 rfl (lv_at hl 0 rfl) ?_
      refine va_get (D := D) (ci := 2) (v := .int m_letterMany) (C := RX2) (T := TX2) (N := 14) hx hb hts zi_X2_letter_X2 hown hK.1 hP 0 rfl rfl 8 (by decide) (hts _ zk_X2_letter_0) (fun _ h9 => h9) rfl dX2_letter_19 ?_
      refine lv_bipush (v := (96 : Int32)) hx hb dX2_letter_22 (by decide) ?_
      refine lv_icmp_ne (tgt := 34) hx hb dX2_letter_24 (by decide) (fun c6 => ?_) (fun c6 => ?_)
      · replace h := it_f c6 h
        refine lv_aload_n hx hb dX2_letter_34 rfl (lv_at hl 0 rfl) ?_
        refine va_get (D := D) (ci := 2) (v := .ref (ad 5)) (C := RX2) (T := TX2) (N := 14) hx hb hts zi_X2_letter_X2 hown hK.1 hP 0 rfl rfl 5 (by decide) (hts _ zk_X2_letter_1) (fun _ h9 => h9) rfl dX2_letter_35 ?_
        refine lv_aload_n hx hb dX2_letter_38 rfl (lv_at hl 0 rfl) ?_
        refine va_get (D := D) (ci := 2) (v := .int m_letterMany) (C := RX2) (T := TX2) (N := 14) hx hb hts zi_X2_letter_X2 hown hK.1 hP 0 rfl rfl 8 (by decide) (hts _ zk_X2_letter_0) (fun _ h9 => h9) rfl dX2_letter_39 ?_
        refine lv_iload_n hx hb dX2_letter_42 rfl (lv_at hl 1 rfl) ?_
        obtain ⟨h7, h⟩ := it_g h
        refine va_iast hx hb hK.1 hP hD hS 5 0 rfl rfl h7 dX2_letter_43 (fun H locs hP hD hS => ?_)
        have hP : va_P D zb_cl (zb_M cI ad m_s m_m m_image m_was m_hasImage (upd m_letters m_letterMany.toNatClampNeg v1) m_row m_refused m_letterMany m_rowMany m_place m_numbers m_cost m_seed) H := hP
        have hD : va_D A (zb_M cI ad m_s m_m m_image m_was m_hasImage (upd m_letters m_letterMany.toNatClampNeg v1) m_row m_refused m_letterMany m_rowMany m_place m_numbers m_cost m_seed) := hD
        refine lv_aload_n hx hb dX2_letter_44 rfl (lv_at hl 0 rfl) ?_
        refine lv_dup hx hb dX2_letter_45 rfl ?_
        refine va_get (D := D) (ci := 2) (v := .int m_letterMany) (C := RX2) (T := TX2) (N := 14) hx hb hts zi_X2_letter_X2 hown hK.1 hP 0 rfl rfl 8 (by decide) (hts _ zk_X2_letter_0) (fun _ h9 => h9) rfl dX2_letter_46 ?_
        refine lv_iconst (v := (1 : Int32)) hx hb dX2_letter_49 (by decide) ?_
        refine lv_iadd hx hb dX2_letter_50 ?_
        refine va_put (D := D) (ci := 2) (v := .int (m_letterMany + (1 : Int32))) (ty := .int) (C := RX2) (T := TX2) (N := 14) hx hb hts zi_X2_letter_X2 tyX2 tyX2_ok nmX2 hown hK.1 hP hD hS 0 rfl rfl 8 (by decide) (hts _ zk_X2_letter_0) (fun _ h9 => h9) rfl (by decide +kernel) rfl rfl (Nat.le_of_ble_eq_true rfl) dX2_letter_51 (fun H locs hP hD hS => ?_)
        have hP : va_P D zb_cl (zb_M cI ad m_s m_m m_image m_was m_hasImage (upd m_letters m_letterMany.toNatClampNeg v1) m_row m_refused (m_letterMany + (1 : Int32)) m_rowMany m_place m_numbers m_cost m_seed) H := hP
        have hD : va_D A (zb_M cI ad m_s m_m m_image m_was m_hasImage (upd m_letters m_letterMany.toNatClampNeg v1) m_row m_refused (m_letterMany + (1 : Int32)) m_rowMany m_place m_numbers m_cost m_seed) := hD
        refine lv_aload_n hx hb dX2_letter_54 rfl (lv_at hl 0 rfl) ?_
        refine va_get (D := D) (ci := 2) (v := .int (m_letterMany + (1 : Int32))) (C := RX2) (T := TX2) (N := 14) hx hb hts zi_X2_letter_X2 hown hK.1 hP 0 rfl rfl 8 (by decide) (hts _ zk_X2_letter_0) (fun _ h9 => h9) rfl dX2_letter_55 ?_
        obtain ⟨rfl, rfl, rfl, rfl⟩ := re4 h
        exact zb_iret hx hb hr hlk hP hS dX2_letter_58
      · replace h := it_t c6 h
        refine lv_aload_n hx hb dX2_letter_27 rfl (lv_at hl 0 rfl) ?_
        refine lv_bipush (v := ((-6) : Int32)) hx hb dX2_letter_28 (by decide) ?_
        obtain ⟨r8, n9, g10, h⟩ := bo2 h
        refine zb_callV (As := [.int ((-6) : Int32)]) (rest := []) ⟨hx, hb, hml, hown, hts⟩ (zc_X2_no l D cI ad m_s m_m m_image m_was m_hasImage m_letters m_row m_refused m_letterMany m_rowMany m_place m_numbers m_cost m_seed ((-6) : Int32) r8 n9 g10) (cwV 1 hts gX2_letter_X2_no rfl rfl rfl hd_X2_no ⟨Nat.le_of_ble_eq_true rfl, Nat.le_of_ble_eq_true rfl⟩) hK hP hD hS hA (zb_sM) (q0 := 0) rfl rfl rfl hl.1 rfl (Nat.le_of_ble_eq_true rfl) dX2_letter_30 ⟨Nat.le_refl _, Nat.le_refl _⟩ (fun H locs hP hD hS => ?_)
        obtain ⟨rfl, rfl, rfl, rfl⟩ := re4 h
        exact zb_iret hx hb hr hlk hP hS dX2_letter_33
  · replace h := it_f c1 h
    refine lv_aload_n hx hb dX2_letter_4 rfl (lv_at hl 0 rfl) ?_
    refine lv_bipush (v := ((-4) : Int32)) hx hb dX2_letter_5 (by decide) ?_
    obtain ⟨r11, n12, g13, h⟩ := bo2 h
    refine zb_callV (As := [.int ((-4) : Int32)]) (rest := []) ⟨hx, hb, hml, hown, hts⟩ (zc_X2_no l D cI ad m_s m_m m_image m_was m_hasImage m_letters m_row m_refused m_letterMany m_rowMany m_place m_numbers m_cost m_seed ((-4) : Int32) r11 n12 g13) (cwV 1 hts gX2_letter_X2_no rfl rfl rfl hd_X2_no ⟨Nat.le_of_ble_eq_true rfl, Nat.le_of_ble_eq_true rfl⟩) hK hP hD hS hA (zb_sM) (q0 := 0) rfl rfl rfl hl.1 rfl (Nat.le_of_ble_eq_true rfl) dX2_letter_7 ⟨Nat.le_refl _, Nat.le_refl _⟩ (fun H locs hP hD hS => ?_)
    obtain ⟨rfl, rfl, rfl, rfl⟩ := re4 h
    exact zb_iret hx hb hr hlk hP hS dX2_letter_10
abbrev rm_X2_here : Room := { frames := 0, cells := 0, slots := 0, locals := 0 }
theorem hd_X2_here : yX2_here.cls = RX2 ∧ yX2_here.cls ≠ "java/lang/invoke/MethodHandle" ∧ yX2_here.cls ≠ "java/lang/invoke/VarHandle" ∧ (parseMethodDescriptor yX2_here.desc).map (fun d => d.parameters.length) = some 0 := by decide +kernel
theorem zi_X2_here_X2 : ∀ w ∈ wsX20, w ∈ wsX2_here := fun _ h => List.mem_cons_of_mem _ (List.mem_append_right _ h)
theorem zk_X2_here_0 : Cond.fieldLink RX2 89 "GroutingIsFollowedModel" "place" "I" ∈ wsX2_here := by decide +kernel
theorem zk_X2_here_1 : Cond.fieldLink RX2 85 "GroutingIsFollowedModel" "letterMany" "I" ∈ wsX2_here := by decide +kernel
theorem zk_X2_here_2 : Cond.fieldLink RX2 22 "GroutingIsFollowedModel" "letters" "[I" ∈ wsX2_here := by decide +kernel
set_option maxHeartbeats 4000000 in
set_option maxRecDepth 100000 in
theorem zc_X2_here (l : Launch) (D : va_G) (cI : ClassId) (ad : Nat → Nat) (m_s : (Nat → Int32)) (m_m : (Nat → Int32)) (m_image : (Nat → Int32)) (m_was : (Nat → Int32)) (m_hasImage : Int32) (m_letters : (Nat → Int32)) (m_row : (Nat → Int32)) (m_refused : (Nat → Int32)) (m_letterMany : Int32) (m_rowMany : Int32) (m_place : Int32) (m_numbers : (Nat → Int32)) (m_cost : (Nat → Int32)) (m_seed : Int32) (r0 : Int32) (h : zf_X2_here m_letters m_letterMany m_place = some r0) : Cn l D cI yX2_here wsX2_here rm_X2_here [.ref (ad 0)] (zb_M cI ad m_s m_m m_image m_was m_hasImage m_letters m_row m_refused m_letterMany m_rowMany m_place m_numbers m_cost m_seed) (some (.int r0)) (zb_M cI ad m_s m_m m_image m_was m_hasImage m_letters m_row m_refused m_letterMany m_rowMany m_place m_numbers m_cost m_seed) := by
  refine zb_ofW (cc := cX2_here) (maxL := 1) (ret := (some .int)) (by decide) rfl (Nat.le_of_ble_eq_true rfl) ?_
  intro p e s m args below meth c A ls hx hb hr hml hts hown hlk hK hP hD hA hl
  have hS : va_S A s.heap s.heap [] := va_S.rf
  have hl : lv_has ls 1 [(0, .ref (ad 0))] := hl
  unfold zf_X2_here at h
  refine lv_aload_n hx hb dX2_here_0 rfl (lv_at hl 0 rfl) ?_
  refine va_get (D := D) (ci := 2) (v := .int m_place) (C := RX2) (T := TX2) (N := 14) hx hb hts zi_X2_here_X2 hown hK.1 hP 0 rfl rfl 10 (by decide) (hts _ zk_X2_here_0) (fun _ h9 => h9) rfl dX2_here_1 ?_
  refine lv_aload_n hx hb dX2_here_4 rfl (lv_at hl 0 rfl) ?_
  refine va_get (D := D) (ci := 2) (v := .int m_letterMany) (C := RX2) (T := TX2) (N := 14) hx hb hts zi_X2_here_X2 hown hK.1 hP 0 rfl rfl 8 (by decide) (hts _ zk_X2_here_1) (fun _ h9 => h9) rfl dX2_here_5 ?_
  refine lv_icmp_ge (tgt := 23) hx hb dX2_here_8 (by decide) (fun c1 => ?_) (fun c1 => ?_)
  · replace h := it_t c1 h
    refine lv_iconst (v := ((-1) : Int32)) hx hb dX2_here_23 (by decide) ?_
    obtain rfl := re1 h
    exact zb_iret hx hb hr hlk hP hS dX2_here_24
  · replace h := it_f c1 h
    refine lv_aload_n hx hb dX2_here_11 rfl (lv_at hl 0 rfl) ?_
    refine va_get (D := D) (ci := 2) (v := .ref (ad 5)) (C := RX2) (T := TX2) (N := 14) hx hb hts zi_X2_here_X2 hown hK.1 hP 0 rfl rfl 5 (by decide) (hts _ zk_X2_here_2) (fun _ h9 => h9) rfl dX2_here_12 ?_
    refine lv_aload_n hx hb dX2_here_15 rfl (lv_at hl 0 rfl) ?_
    refine va_get (D := D) (ci := 2) (v := .int m_place) (C := RX2) (T := TX2) (N := 14) hx hb hts zi_X2_here_X2 hown hK.1 hP 0 rfl rfl 10 (by decide) (hts _ zk_X2_here_0) (fun _ h9 => h9) rfl dX2_here_16 ?_
    obtain ⟨h2, h⟩ := it_g h
    refine va_iald hx hb hK.1 hP 5 0 rfl rfl h2 dX2_here_19 ?_
    refine lv_goto (tgt := 24) hx hb dX2_here_20 (by decide) ?_
    obtain rfl := re1 h
    exact zb_iret hx hb hr hlk hP hS dX2_here_24
abbrev rm_X2_readsNumber : Room := { frames := 1, cells := 0, slots := 0, locals := 22 }
theorem hd_X2_readsNumber : yX2_readsNumber.cls = RX2 ∧ yX2_readsNumber.cls ≠ "java/lang/invoke/MethodHandle" ∧ yX2_readsNumber.cls ≠ "java/lang/invoke/VarHandle" ∧ (parseMethodDescriptor yX2_readsNumber.desc).map (fun d => d.parameters.length) = some 2 := by decide +kernel
theorem zi_X2_readsNumber_X2 : ∀ w ∈ wsX20, w ∈ wsX2_readsNumber := fun _ h => List.mem_cons_of_mem _ (List.mem_append_right _ h)
theorem zk_X2_readsNumber_0 : Cond.fieldLink RX2 31 "GroutingIsFollowedModel" "numbers" "[I" ∈ wsX2_readsNumber := by decide +kernel
theorem zk_X2_readsNumber_1 : Cond.fieldLink RX2 89 "GroutingIsFollowedModel" "place" "I" ∈ wsX2_readsNumber := by decide +kernel
set_option maxHeartbeats 4000000 in
set_option maxRecDepth 100000 in
theorem zc_X2_readsNumber (l : Launch) (D : va_G) (cI : ClassId) (ad : Nat → Nat) (m_s : (Nat → Int32)) (m_m : (Nat → Int32)) (m_image : (Nat → Int32)) (m_was : (Nat → Int32)) (m_hasImage : Int32) (m_letters : (Nat → Int32)) (m_row : (Nat → Int32)) (m_refused : (Nat → Int32)) (m_letterMany : Int32) (m_rowMany : Int32) (m_place : Int32) (m_numbers : (Nat → Int32)) (m_cost : (Nat → Int32)) (m_seed : Int32) (v1 : Int32) (v2 : Int32) (r0 : Int32) (w_m_place : Int32) (w_m_numbers : (Nat → Int32)) (h : zf_X2_readsNumber m_letters m_letterMany m_place m_numbers v1 v2 = some (r0, w_m_place, w_m_numbers)) : Cn l D cI yX2_readsNumber wsX2_readsNumber rm_X2_readsNumber [.ref (ad 0), .int v1, .int v2] (zb_M cI ad m_s m_m m_image m_was m_hasImage m_letters m_row m_refused m_letterMany m_rowMany m_place m_numbers m_cost m_seed) (some (.int r0)) (zb_M cI ad m_s m_m m_image m_was m_hasImage m_letters m_row m_refused m_letterMany m_rowMany w_m_place w_m_numbers m_cost m_seed) := by
  refine zb_ofW (cc := cX2_readsNumber) (maxL := 4) (ret := (some .boolean)) (by decide) rfl (Nat.le_of_ble_eq_true rfl) ?_
  intro p e s m args below meth c A ls hx hb hr hml hts hown hlk hK hP hD hA hl
  have hS : va_S A s.heap s.heap [] := va_S.rf
  have hl : lv_has ls 4 [(0, .ref (ad 0)), (1, .int v1), (2, .int v2)] := hl
  unfold zf_X2_readsNumber at h
  refine lv_aload_n hx hb dX2_readsNumber_0 rfl (lv_at hl 0 rfl) ?_
  refine va_get (D := D) (ci := 2) (v := .ref (ad 8)) (C := RX2) (T := TX2) (N := 14) hx hb hts zi_X2_readsNumber_X2 hown hK.1 hP 0 rfl rfl 11 (by decide) (hts _ zk_X2_readsNumber_0) (fun _ h9 => h9) rfl dX2_readsNumber_1 ?_
  refine lv_iload_n hx hb dX2_readsNumber_4 rfl (lv_at hl 1 rfl) ?_
  refine lv_iconst (v := (0 : Int32)) hx hb dX2_readsNumber_5 (by decide) ?_
  obtain ⟨h1, h⟩ := it_g h
  refine va_iast hx hb hK.1 hP hD hS 8 0 rfl rfl h1 dX2_readsNumber_6 (fun H locs hP hD hS => ?_)
  have hP : va_P D zb_cl (zb_M cI ad m_s m_m m_image m_was m_hasImage m_letters m_row m_refused m_letterMany m_rowMany m_place (upd m_numbers v1.toNatClampNeg (0 : Int32)) m_cost m_seed) H := hP
  have hD : va_D A (zb_M cI ad m_s m_m m_image m_was m_hasImage m_letters m_row m_refused m_letterMany m_rowMany m_place (upd m_numbers v1.toNatClampNeg (0 : Int32)) m_cost m_seed) := hD
  refine lv_iconst (v := (0 : Int32)) hx hb dX2_readsNumber_7 (by decide) ?_
  refine lv_istore_n (lv' := [(3, .int (0 : Int32)), (0, .ref (ad 0)), (1, .int v1), (2, .int v2)]) hx hb dX2_readsNumber_8 rfl hl (by decide) rfl (fun ls hl => ?_)
  have lp5 : ∀ (fu5 : Nat) (x2 : Int32) (x3 : Int32) (x4 : (Nat → Int32)) (H : Heap) (locs : List Loc) (hP : va_P D zb_cl (zb_M cI ad m_s m_m m_image m_was m_hasImage m_letters m_row m_refused m_letterMany m_rowMany x3 x4 m_cost m_seed) H) (hD : va_D A (zb_M cI ad m_s m_m m_image m_was m_hasImage m_letters m_row m_refused m_letterMany m_rowMany x3 x4 m_cost m_seed)) (hS : va_S A s.heap H locs) (ls : Array Slot) (hl : lv_has ls 4 [(0, .ref (ad 0)), (1, .int v1), (2, .int v2), (3, .int x2)]) (h : zl3 (zf_X2_readsNumber_b9 v1 v2 m_letters m_letterMany) fu5 x2 x3 x4 = some (r0, w_m_place, w_m_numbers)), W p l e rm_X2_readsNumber s m args below meth c H locs 0 0 (zb_Q below D (some (.int r0)) (zb_M cI ad m_s m_m m_image m_was m_hasImage m_letters m_row m_refused m_letterMany m_rowMany w_m_place w_m_numbers m_cost m_seed) A args s) (F0 m 9 ls []) := by
    intro fu5
    induction fu5 with
    | zero => intro x2 x3 x4 H locs hP hD hS ls hl h; exact zb_no h
    | succ fu5 ih5 =>
      intro x2 x3 x4 H locs hP hD hS ls hl h
      replace h : zf_X2_readsNumber_b9 v1 v2 m_letters m_letterMany (zl3 (zf_X2_readsNumber_b9 v1 v2 m_letters m_letterMany) fu5) x2 x3 x4 = some (r0, w_m_place, w_m_numbers) := h
      unfold zf_X2_readsNumber_b9 at h
      refine lv_iload_n hx hb dX2_readsNumber_9 rfl (lv_at hl 3 rfl) ?_
      refine lv_iload_n hx hb dX2_readsNumber_10 rfl (lv_at hl 2 rfl) ?_
      refine lv_icmp_ge (tgt := 69) hx hb dX2_readsNumber_11 (by decide) (fun c6 => ?_) (fun c6 => ?_)
      · replace h := it_t c6 h
        refine lv_iconst (v := (1 : Int32)) hx hb dX2_readsNumber_69 (by decide) ?_
        obtain ⟨rfl, rfl, rfl⟩ := re3 h
        exact zb_zret hx hb hr hlk rfl hP hS dX2_readsNumber_70
      · replace h := it_f c6 h
        refine lv_aload_n hx hb dX2_readsNumber_14 rfl (lv_at hl 0 rfl) ?_
        obtain ⟨r7, g8, h⟩ := bo1 h
        refine zb_callV (As := []) (rest := []) ⟨hx, hb, hml, hown, hts⟩ (zc_X2_here l D cI ad m_s m_m m_image m_was m_hasImage m_letters m_row m_refused m_letterMany m_rowMany x3 x4 m_cost m_seed r7 g8) (cwV 0 hts gX2_readsNumber_X2_here rfl rfl rfl hd_X2_here ⟨Nat.le_of_ble_eq_true rfl, Nat.le_of_ble_eq_true rfl⟩) hK hP hD hS hA (zb_sM) (q0 := 0) rfl rfl rfl hl.1 rfl (Nat.le_of_ble_eq_true rfl) dX2_readsNumber_15 ⟨Nat.le_refl _, Nat.le_refl _⟩ (fun H locs hP hD hS => ?_)
        refine lv_bipush (v := (48 : Int32)) hx hb dX2_readsNumber_18 (by decide) ?_
        refine lv_bipush (v := (57 : Int32)) hx hb dX2_readsNumber_20 (by decide) ?_
        obtain ⟨r9, g10, h⟩ := bo1 h
        refine zb_callS (As := [.int r7, .int (48 : Int32), .int (57 : Int32)]) (rest := []) ⟨hx, hb, hml, hown, hts⟩ (zc_X2_isIn l D cI r7 (48 : Int32) (57 : Int32) r9 g10) (va_cwS 3 hts gX2_readsNumber_X2_isIn rfl rfl rfl hd_X2_isIn.2 ⟨Nat.le_of_ble_eq_true rfl, Nat.le_of_ble_eq_true rfl⟩) hK hP hD hS hA (zb_none _) rfl hl.1 rfl (Nat.le_of_ble_eq_true rfl) dX2_readsNumber_22 ⟨Nat.le_refl _, Nat.le_refl _⟩ (fun H locs hP hD hS => ?_)
        refine lv_if_ne (tgt := 30) hx hb dX2_readsNumber_25 (by decide) (fun c11 => ?_) (fun c11 => ?_)
        · replace h := it_f c11 h
          refine lv_aload_n hx hb dX2_readsNumber_30 rfl (lv_at hl 0 rfl) ?_
          refine va_get (D := D) (ci := 2) (v := .ref (ad 8)) (C := RX2) (T := TX2) (N := 14) hx hb hts zi_X2_readsNumber_X2 hown hK.1 hP 0 rfl rfl 11 (by decide) (hts _ zk_X2_readsNumber_0) (fun _ h9 => h9) rfl dX2_readsNumber_31 ?_
          refine lv_iload_n hx hb dX2_readsNumber_34 rfl (lv_at hl 1 rfl) ?_
          refine lv_bipush (v := (10 : Int32)) hx hb dX2_readsNumber_35 (by decide) ?_
          refine lv_aload_n hx hb dX2_readsNumber_37 rfl (lv_at hl 0 rfl) ?_
          refine va_get (D := D) (ci := 2) (v := .ref (ad 8)) (C := RX2) (T := TX2) (N := 14) hx hb hts zi_X2_readsNumber_X2 hown hK.1 hP 0 rfl rfl 11 (by decide) (hts _ zk_X2_readsNumber_0) (fun _ h9 => h9) rfl dX2_readsNumber_38 ?_
          refine lv_iload_n hx hb dX2_readsNumber_41 rfl (lv_at hl 1 rfl) ?_
          obtain ⟨h12, h⟩ := it_g h
          refine va_iald hx hb hK.1 hP 8 0 rfl rfl h12 dX2_readsNumber_42 ?_
          refine lv_imul hx hb dX2_readsNumber_43 ?_
          refine lv_aload_n hx hb dX2_readsNumber_44 rfl (lv_at hl 0 rfl) ?_
          obtain ⟨r13, g14, h⟩ := bo1 h
          refine zb_callV (As := []) (rest := [.int ((10 : Int32) * (x4 v1.toNatClampNeg)), .int v1, .ref (ad 8)]) ⟨hx, hb, hml, hown, hts⟩ (zc_X2_here l D cI ad m_s m_m m_image m_was m_hasImage m_letters m_row m_refused m_letterMany m_rowMany x3 x4 m_cost m_seed r13 g14) (cwV 0 hts gX2_readsNumber_X2_here rfl rfl rfl hd_X2_here ⟨Nat.le_of_ble_eq_true rfl, Nat.le_of_ble_eq_true rfl⟩) hK hP hD hS hA (zb_sM) (q0 := 0) rfl rfl rfl hl.1 rfl (Nat.le_of_ble_eq_true rfl) dX2_readsNumber_45 ⟨Nat.le_refl _, Nat.le_refl _⟩ (fun H locs hP hD hS => ?_)
          refine lv_iadd hx hb dX2_readsNumber_48 ?_
          refine lv_bipush (v := (48 : Int32)) hx hb dX2_readsNumber_49 (by decide) ?_
          refine lv_isub hx hb dX2_readsNumber_51 ?_
          obtain ⟨h15, h⟩ := it_g h
          refine va_iast hx hb hK.1 hP hD hS 8 0 rfl rfl h15 dX2_readsNumber_52 (fun H locs hP hD hS => ?_)
          have hP : va_P D zb_cl (zb_M cI ad m_s m_m m_image m_was m_hasImage m_letters m_row m_refused m_letterMany m_rowMany x3 (upd x4 v1.toNatClampNeg ((((10 : Int32) * (x4 v1.toNatClampNeg)) + r13) - (48 : Int32))) m_cost m_seed) H := hP
          have hD : va_D A (zb_M cI ad m_s m_m m_image m_was m_hasImage m_letters m_row m_refused m_letterMany m_rowMany x3 (upd x4 v1.toNatClampNeg ((((10 : Int32) * (x4 v1.toNatClampNeg)) + r13) - (48 : Int32))) m_cost m_seed) := hD
          refine lv_aload_n hx hb dX2_readsNumber_53 rfl (lv_at hl 0 rfl) ?_
          refine lv_dup hx hb dX2_readsNumber_54 rfl ?_
          refine va_get (D := D) (ci := 2) (v := .int x3) (C := RX2) (T := TX2) (N := 14) hx hb hts zi_X2_readsNumber_X2 hown hK.1 hP 0 rfl rfl 10 (by decide) (hts _ zk_X2_readsNumber_1) (fun _ h9 => h9) rfl dX2_readsNumber_55 ?_
          refine lv_iconst (v := (1 : Int32)) hx hb dX2_readsNumber_58 (by decide) ?_
          refine lv_iadd hx hb dX2_readsNumber_59 ?_
          refine va_put (D := D) (ci := 2) (v := .int (x3 + (1 : Int32))) (ty := .int) (C := RX2) (T := TX2) (N := 14) hx hb hts zi_X2_readsNumber_X2 tyX2 tyX2_ok nmX2 hown hK.1 hP hD hS 0 rfl rfl 10 (by decide) (hts _ zk_X2_readsNumber_1) (fun _ h9 => h9) rfl (by decide +kernel) rfl rfl (Nat.le_of_ble_eq_true rfl) dX2_readsNumber_60 (fun H locs hP hD hS => ?_)
          have hP : va_P D zb_cl (zb_M cI ad m_s m_m m_image m_was m_hasImage m_letters m_row m_refused m_letterMany m_rowMany (x3 + (1 : Int32)) (upd x4 v1.toNatClampNeg ((((10 : Int32) * (x4 v1.toNatClampNeg)) + r13) - (48 : Int32))) m_cost m_seed) H := hP
          have hD : va_D A (zb_M cI ad m_s m_m m_image m_was m_hasImage m_letters m_row m_refused m_letterMany m_rowMany (x3 + (1 : Int32)) (upd x4 v1.toNatClampNeg ((((10 : Int32) * (x4 v1.toNatClampNeg)) + r13) - (48 : Int32))) m_cost m_seed) := hD
          refine lv_iinc (v := (x2 + (1 : Int32))) (lv' := [(3, .int (x2 + (1 : Int32))), (0, .ref (ad 0)), (1, .int v1), (2, .int v2)]) hx hb dX2_readsNumber_63 hl (k := 3) rfl (by first | rfl | decide) (by decide) rfl (fun ls hl => ?_)
          refine lv_goto (tgt := 9) hx hb dX2_readsNumber_66 (by decide) ?_
          exact ih5 (x2 + (1 : Int32)) (x3 + (1 : Int32)) (upd x4 v1.toNatClampNeg ((((10 : Int32) * (x4 v1.toNatClampNeg)) + r13) - (48 : Int32))) _ _ hP hD hS ls (lv_sub hl [1, 2, 3, 0] rfl) h
        · replace h := it_t c11 h
          refine lv_iconst (v := (0 : Int32)) hx hb dX2_readsNumber_28 (by decide) ?_
          obtain ⟨rfl, rfl, rfl⟩ := re3 h
          exact zb_zret hx hb hr hlk rfl hP hS dX2_readsNumber_29
  exact lp5 zb_FU (0 : Int32) m_place (upd m_numbers v1.toNatClampNeg (0 : Int32)) _ _ hP hD hS ls (lv_sub hl [1, 2, 3, 0] rfl) h
abbrev rm_X2_kindBy : Room := { frames := 0, cells := 0, slots := 0, locals := 0 }
theorem hd_X2_kindBy : yX2_kindBy.cls = RX2 ∧ yX2_kindBy.cls ≠ "java/lang/invoke/MethodHandle" ∧ yX2_kindBy.cls ≠ "java/lang/invoke/VarHandle" ∧ (parseMethodDescriptor yX2_kindBy.desc).map (fun d => d.parameters.length) = some 1 := by decide +kernel
set_option maxHeartbeats 4000000 in
set_option maxRecDepth 100000 in
theorem zc_X2_kindBy (l : Launch) (D : va_G) (cI : ClassId)  (v0 : Int32) (r0 : Int32) (h : zf_X2_kindBy v0 = some r0) : Cn l D cI yX2_kindBy wsX2_kindBy rm_X2_kindBy [.int v0] ([]) (some (.int r0)) ([]) := by
  refine zb_ofW (cc := cX2_kindBy) (maxL := 1) (ret := (some .int)) (by decide) rfl (Nat.le_of_ble_eq_true rfl) ?_
  intro p e s m args below meth c A ls hx hb hr hml hts hown hlk hK hP hD hA hl
  have hS : va_S A s.heap s.heap [] := va_S.rf
  have hl : lv_has ls 1 [(0, .int v0)] := hl
  unfold zf_X2_kindBy at h
  refine lv_iload_n hx hb dX2_kindBy_0 rfl (lv_at hl 0 rfl) ?_
  by_cases c1 : v0 = (98 : Int32)
  · replace h := it_t c1 h
    have e9 : v0.toInt = 98 := by rw [c1]; rfl
    refine lv_lookup (tgt := 68) hx hb dX2_kindBy_1 (by decide) (by rw [e9]; try rfl) (by decide) ?_
    refine lv_iconst (v := (4 : Int32)) hx hb dX2_kindBy_68 (by decide) ?_
    obtain rfl := re1 h
    exact zb_iret hx hb hr hlk hP hS dX2_kindBy_69
  replace h := it_f c1 h
  by_cases c2 : v0 = (99 : Int32)
  · replace h := it_t c2 h
    have e9 : v0.toInt = 99 := by rw [c2]; rfl
    refine lv_lookup (tgt := 66) hx hb dX2_kindBy_1 (by decide) (by rw [e9]; try rfl) (by decide) ?_
    refine lv_iconst (v := (3 : Int32)) hx hb dX2_kindBy_66 (by decide) ?_
    obtain rfl := re1 h
    exact zb_iret hx hb hr hlk hP hS dX2_kindBy_67
  replace h := it_f c2 h
  by_cases c3 : v0 = (108 : Int32)
  · replace h := it_t c3 h
    have e9 : v0.toInt = 108 := by rw [c3]; rfl
    refine lv_lookup (tgt := 62) hx hb dX2_kindBy_1 (by decide) (by rw [e9]; try rfl) (by decide) ?_
    refine lv_iconst (v := (1 : Int32)) hx hb dX2_kindBy_62 (by decide) ?_
    obtain rfl := re1 h
    exact zb_iret hx hb hr hlk hP hS dX2_kindBy_63
  replace h := it_f c3 h
  by_cases c4 : v0 = (114 : Int32)
  · replace h := it_t c4 h
    have e9 : v0.toInt = 114 := by rw [c4]; rfl
    refine lv_lookup (tgt := 64) hx hb dX2_kindBy_1 (by decide) (by rw [e9]; try rfl) (by decide) ?_
    refine lv_iconst (v := (2 : Int32)) hx hb dX2_kindBy_64 (by decide) ?_
    obtain rfl := re1 h
    exact zb_iret hx hb hr hlk hP hS dX2_kindBy_65
  replace h := it_f c4 h
  by_cases c5 : v0 = (115 : Int32)
  · replace h := it_t c5 h
    have e9 : v0.toInt = 115 := by rw [c5]; rfl
    refine lv_lookup (tgt := 60) hx hb dX2_kindBy_1 (by decide) (by rw [e9]; try rfl) (by decide) ?_
    refine lv_iconst (v := (0 : Int32)) hx hb dX2_kindBy_60 (by decide) ?_
    obtain rfl := re1 h
    exact zb_iret hx hb hr hlk hP hS dX2_kindBy_61
  replace h := it_f c5 h
  by_cases c6 : v0 = (121 : Int32)
  · replace h := it_t c6 h
    have e9 : v0.toInt = 121 := by rw [c6]; rfl
    refine lv_lookup (tgt := 70) hx hb dX2_kindBy_1 (by decide) (by rw [e9]; try rfl) (by decide) ?_
    refine lv_iconst (v := (5 : Int32)) hx hb dX2_kindBy_70 (by decide) ?_
    obtain rfl := re1 h
    exact zb_iret hx hb hr hlk hP hS dX2_kindBy_71
  replace h := it_f c6 h
  have e_c1 := sw_ne (k := 98) rfl c1
  have e_c2 := sw_ne (k := 99) rfl c2
  have e_c3 := sw_ne (k := 108) rfl c3
  have e_c4 := sw_ne (k := 114) rfl c4
  have e_c5 := sw_ne (k := 115) rfl c5
  have e_c6 := sw_ne (k := 121) rfl c6
  refine lv_lookup (tgt := 72) hx hb dX2_kindBy_1 (by decide) (by simp only [Op.lookupswitch.offset]; rw [if_neg (fun q => e_c1 q.symm), if_neg (fun q => e_c2 q.symm), if_neg (fun q => e_c3 q.symm), if_neg (fun q => e_c4 q.symm), if_neg (fun q => e_c5 q.symm), if_neg (fun q => e_c6 q.symm)]) (by decide) ?_
  refine lv_bipush (v := ((-9) : Int32)) hx hb dX2_kindBy_72 (by decide) ?_
  obtain rfl := re1 h
  exact zb_iret hx hb hr hlk hP hS dX2_kindBy_74
abbrev rm_X2_readsKind : Room := { frames := 1, cells := 0, slots := 0, locals := 20 }
theorem hd_X2_readsKind : yX2_readsKind.cls = RX2 ∧ yX2_readsKind.cls ≠ "java/lang/invoke/MethodHandle" ∧ yX2_readsKind.cls ≠ "java/lang/invoke/VarHandle" ∧ (parseMethodDescriptor yX2_readsKind.desc).map (fun d => d.parameters.length) = some 0 := by decide +kernel
theorem zi_X2_readsKind_X2 : ∀ w ∈ wsX20, w ∈ wsX2_readsKind := fun _ h => List.mem_cons_of_mem _ (List.mem_append_right _ h)
theorem zk_X2_readsKind_0 : Cond.fieldLink RX2 31 "GroutingIsFollowedModel" "numbers" "[I" ∈ wsX2_readsKind := by decide +kernel
theorem zk_X2_readsKind_1 : Cond.fieldLink RX2 89 "GroutingIsFollowedModel" "place" "I" ∈ wsX2_readsKind := by decide +kernel
set_option maxHeartbeats 4000000 in
set_option maxRecDepth 100000 in
theorem zc_X2_readsKind (l : Launch) (D : va_G) (cI : ClassId) (ad : Nat → Nat) (m_s : (Nat → Int32)) (m_m : (Nat → Int32)) (m_image : (Nat → Int32)) (m_was : (Nat → Int32)) (m_hasImage : Int32) (m_letters : (Nat → Int32)) (m_row : (Nat → Int32)) (m_refused : (Nat → Int32)) (m_letterMany : Int32) (m_rowMany : Int32) (m_place : Int32) (m_numbers : (Nat → Int32)) (m_cost : (Nat → Int32)) (m_seed : Int32) (r0 : Int32) (w_m_place : Int32) (w_m_numbers : (Nat → Int32)) (h : zf_X2_readsKind m_letters m_letterMany m_place m_numbers = some (r0, w_m_place, w_m_numbers)) : Cn l D cI yX2_readsKind wsX2_readsKind rm_X2_readsKind [.ref (ad 0)] (zb_M cI ad m_s m_m m_image m_was m_hasImage m_letters m_row m_refused m_letterMany m_rowMany m_place m_numbers m_cost m_seed) (some (.int r0)) (zb_M cI ad m_s m_m m_image m_was m_hasImage m_letters m_row m_refused m_letterMany m_rowMany w_m_place w_m_numbers m_cost m_seed) := by
  refine zb_ofW (cc := cX2_readsKind) (maxL := 1) (ret := (some .boolean)) (by decide) rfl (Nat.le_of_ble_eq_true rfl) ?_
  intro p e s m args below meth c A ls hx hb hr hml hts hown hlk hK hP hD hA hl
  have hS : va_S A s.heap s.heap [] := va_S.rf
  have hl : lv_has ls 1 [(0, .ref (ad 0))] := hl
  unfold zf_X2_readsKind at h
  refine lv_aload_n hx hb dX2_readsKind_0 rfl (lv_at hl 0 rfl) ?_
  refine va_get (D := D) (ci := 2) (v := .ref (ad 8)) (C := RX2) (T := TX2) (N := 14) hx hb hts zi_X2_readsKind_X2 hown hK.1 hP 0 rfl rfl 11 (by decide) (hts _ zk_X2_readsKind_0) (fun _ h9 => h9) rfl dX2_readsKind_1 ?_
  refine lv_iconst (v := (1 : Int32)) hx hb dX2_readsKind_4 (by decide) ?_
  refine lv_aload_n hx hb dX2_readsKind_5 rfl (lv_at hl 0 rfl) ?_
  obtain ⟨r1, g2, h⟩ := bo1 h
  refine zb_callV (As := []) (rest := [.int (1 : Int32), .ref (ad 8)]) ⟨hx, hb, hml, hown, hts⟩ (zc_X2_here l D cI ad m_s m_m m_image m_was m_hasImage m_letters m_row m_refused m_letterMany m_rowMany m_place m_numbers m_cost m_seed r1 g2) (cwV 0 hts gX2_readsKind_X2_here rfl rfl rfl hd_X2_here ⟨Nat.le_of_ble_eq_true rfl, Nat.le_of_ble_eq_true rfl⟩) hK hP hD hS hA (zb_sM) (q0 := 0) rfl rfl rfl hl.1 rfl (Nat.le_of_ble_eq_true rfl) dX2_readsKind_6 ⟨Nat.le_refl _, Nat.le_refl _⟩ (fun H locs hP hD hS => ?_)
  obtain ⟨r3, g4, h⟩ := bo1 h
  refine zb_callS (As := [.int r1]) (rest := [.int (1 : Int32), .ref (ad 8)]) ⟨hx, hb, hml, hown, hts⟩ (zc_X2_kindBy l D cI r1 r3 g4) (va_cwS 1 hts gX2_readsKind_X2_kindBy rfl rfl rfl hd_X2_kindBy.2 ⟨Nat.le_of_ble_eq_true rfl, Nat.le_of_ble_eq_true rfl⟩) hK hP hD hS hA (zb_none _) rfl hl.1 rfl (Nat.le_of_ble_eq_true rfl) dX2_readsKind_9 ⟨Nat.le_refl _, Nat.le_refl _⟩ (fun H locs hP hD hS => ?_)
  refine va_iast hx hb hK.1 hP hD hS 8 0 rfl rfl (vl_in (by decide)) dX2_readsKind_12 (fun H locs hP hD hS => ?_)
  have hP : va_P D zb_cl (zb_M cI ad m_s m_m m_image m_was m_hasImage m_letters m_row m_refused m_letterMany m_rowMany m_place (upd m_numbers (1 : Int32).toNatClampNeg r3) m_cost m_seed) H := hP
  have hD : va_D A (zb_M cI ad m_s m_m m_image m_was m_hasImage m_letters m_row m_refused m_letterMany m_rowMany m_place (upd m_numbers (1 : Int32).toNatClampNeg r3) m_cost m_seed) := hD
  refine lv_aload_n hx hb dX2_readsKind_13 rfl (lv_at hl 0 rfl) ?_
  refine lv_dup hx hb dX2_readsKind_14 rfl ?_
  refine va_get (D := D) (ci := 2) (v := .int m_place) (C := RX2) (T := TX2) (N := 14) hx hb hts zi_X2_readsKind_X2 hown hK.1 hP 0 rfl rfl 10 (by decide) (hts _ zk_X2_readsKind_1) (fun _ h9 => h9) rfl dX2_readsKind_15 ?_
  refine lv_aload_n hx hb dX2_readsKind_18 rfl (lv_at hl 0 rfl) ?_
  refine va_get (D := D) (ci := 2) (v := .ref (ad 8)) (C := RX2) (T := TX2) (N := 14) hx hb hts zi_X2_readsKind_X2 hown hK.1 hP 0 rfl rfl 11 (by decide) (hts _ zk_X2_readsKind_0) (fun _ h9 => h9) rfl dX2_readsKind_19 ?_
  refine lv_iconst (v := (1 : Int32)) hx hb dX2_readsKind_22 (by decide) ?_
  refine va_iald hx hb hK.1 hP 8 0 rfl rfl (vl_in (by decide)) dX2_readsKind_23 ?_
  refine lv_if_ge (tgt := 31) hx hb dX2_readsKind_24 (by decide) (fun c5 => ?_) (fun c5 => ?_)
  · replace h := it_t c5 h
    refine lv_iconst (v := (1 : Int32)) hx hb dX2_readsKind_31 (by decide) ?_
    refine lv_iadd hx hb dX2_readsKind_32 ?_
    refine va_put (D := D) (ci := 2) (v := .int (m_place + (1 : Int32))) (ty := .int) (C := RX2) (T := TX2) (N := 14) hx hb hts zi_X2_readsKind_X2 tyX2 tyX2_ok nmX2 hown hK.1 hP hD hS 0 rfl rfl 10 (by decide) (hts _ zk_X2_readsKind_1) (fun _ h9 => h9) rfl (by decide +kernel) rfl rfl (Nat.le_of_ble_eq_true rfl) dX2_readsKind_33 (fun H locs hP hD hS => ?_)
    have hP : va_P D zb_cl (zb_M cI ad m_s m_m m_image m_was m_hasImage m_letters m_row m_refused m_letterMany m_rowMany (m_place + (1 : Int32)) (upd m_numbers (1 : Int32).toNatClampNeg r3) m_cost m_seed) H := hP
    have hD : va_D A (zb_M cI ad m_s m_m m_image m_was m_hasImage m_letters m_row m_refused m_letterMany m_rowMany (m_place + (1 : Int32)) (upd m_numbers (1 : Int32).toNatClampNeg r3) m_cost m_seed) := hD
    refine lv_aload_n hx hb dX2_readsKind_36 rfl (lv_at hl 0 rfl) ?_
    refine va_get (D := D) (ci := 2) (v := .ref (ad 8)) (C := RX2) (T := TX2) (N := 14) hx hb hts zi_X2_readsKind_X2 hown hK.1 hP 0 rfl rfl 11 (by decide) (hts _ zk_X2_readsKind_0) (fun _ h9 => h9) rfl dX2_readsKind_37 ?_
    refine lv_iconst (v := (1 : Int32)) hx hb dX2_readsKind_40 (by decide) ?_
    refine va_iald hx hb hK.1 hP 8 0 rfl rfl (vl_in (by decide)) dX2_readsKind_41 ?_
    refine lv_if_lt (tgt := 49) hx hb dX2_readsKind_42 (by decide) (fun c6 => ?_) (fun c6 => ?_)
    · replace h := it_t c6 h
      refine lv_iconst (v := (0 : Int32)) hx hb dX2_readsKind_49 (by decide) ?_
      obtain ⟨rfl, rfl, rfl⟩ := re3 h
      exact zb_zret hx hb hr hlk rfl hP hS dX2_readsKind_50
    · replace h := it_f c6 h
      refine lv_iconst (v := (1 : Int32)) hx hb dX2_readsKind_45 (by decide) ?_
      refine lv_goto (tgt := 50) hx hb dX2_readsKind_46 (by decide) ?_
      obtain ⟨rfl, rfl, rfl⟩ := re3 h
      exact zb_zret hx hb hr hlk rfl hP hS dX2_readsKind_50
  · replace h := it_f c5 h
    refine lv_iconst (v := (0 : Int32)) hx hb dX2_readsKind_27 (by decide) ?_
    refine lv_goto (tgt := 32) hx hb dX2_readsKind_28 (by decide) ?_
    refine lv_iadd hx hb dX2_readsKind_32 ?_
    refine va_put (D := D) (ci := 2) (v := .int (m_place + (0 : Int32))) (ty := .int) (C := RX2) (T := TX2) (N := 14) hx hb hts zi_X2_readsKind_X2 tyX2 tyX2_ok nmX2 hown hK.1 hP hD hS 0 rfl rfl 10 (by decide) (hts _ zk_X2_readsKind_1) (fun _ h9 => h9) rfl (by decide +kernel) rfl rfl (Nat.le_of_ble_eq_true rfl) dX2_readsKind_33 (fun H locs hP hD hS => ?_)
    have hP : va_P D zb_cl (zb_M cI ad m_s m_m m_image m_was m_hasImage m_letters m_row m_refused m_letterMany m_rowMany (m_place + (0 : Int32)) (upd m_numbers (1 : Int32).toNatClampNeg r3) m_cost m_seed) H := hP
    have hD : va_D A (zb_M cI ad m_s m_m m_image m_was m_hasImage m_letters m_row m_refused m_letterMany m_rowMany (m_place + (0 : Int32)) (upd m_numbers (1 : Int32).toNatClampNeg r3) m_cost m_seed) := hD
    refine lv_aload_n hx hb dX2_readsKind_36 rfl (lv_at hl 0 rfl) ?_
    refine va_get (D := D) (ci := 2) (v := .ref (ad 8)) (C := RX2) (T := TX2) (N := 14) hx hb hts zi_X2_readsKind_X2 hown hK.1 hP 0 rfl rfl 11 (by decide) (hts _ zk_X2_readsKind_0) (fun _ h9 => h9) rfl dX2_readsKind_37 ?_
    refine lv_iconst (v := (1 : Int32)) hx hb dX2_readsKind_40 (by decide) ?_
    refine va_iald hx hb hK.1 hP 8 0 rfl rfl (vl_in (by decide)) dX2_readsKind_41 ?_
    refine lv_if_lt (tgt := 49) hx hb dX2_readsKind_42 (by decide) (fun c7 => ?_) (fun c7 => ?_)
    · replace h := it_t c7 h
      refine lv_iconst (v := (0 : Int32)) hx hb dX2_readsKind_49 (by decide) ?_
      obtain ⟨rfl, rfl, rfl⟩ := re3 h
      exact zb_zret hx hb hr hlk rfl hP hS dX2_readsKind_50
    · replace h := it_f c7 h
      refine lv_iconst (v := (1 : Int32)) hx hb dX2_readsKind_45 (by decide) ?_
      refine lv_goto (tgt := 50) hx hb dX2_readsKind_46 (by decide) ?_
      obtain ⟨rfl, rfl, rfl⟩ := re3 h
      exact zb_zret hx hb hr hlk rfl hP hS dX2_readsKind_50
abbrev rm_X2_readsStatement : Room := { frames := 2, cells := 0, slots := 0, locals := 45 }
theorem hd_X2_readsStatement : yX2_readsStatement.cls = RX2 ∧ yX2_readsStatement.cls ≠ "java/lang/invoke/MethodHandle" ∧ yX2_readsStatement.cls ≠ "java/lang/invoke/VarHandle" ∧ (parseMethodDescriptor yX2_readsStatement.desc).map (fun d => d.parameters.length) = some 0 := by decide +kernel
theorem zi_X2_readsStatement_X2 : ∀ w ∈ wsX20, w ∈ wsX2_readsStatement := fun _ h => List.mem_cons_of_mem _ (List.mem_append_right _ h)
theorem zk_X2_readsStatement_0 : Cond.fieldLink RX2 89 "GroutingIsFollowedModel" "place" "I" ∈ wsX2_readsStatement := by decide +kernel
set_option maxHeartbeats 4000000 in
set_option maxRecDepth 100000 in
theorem zc_X2_readsStatement (l : Launch) (D : va_G) (cI : ClassId) (ad : Nat → Nat) (m_s : (Nat → Int32)) (m_m : (Nat → Int32)) (m_image : (Nat → Int32)) (m_was : (Nat → Int32)) (m_hasImage : Int32) (m_letters : (Nat → Int32)) (m_row : (Nat → Int32)) (m_refused : (Nat → Int32)) (m_letterMany : Int32) (m_rowMany : Int32) (m_place : Int32) (m_numbers : (Nat → Int32)) (m_cost : (Nat → Int32)) (m_seed : Int32) (r0 : Int32) (w_m_place : Int32) (w_m_numbers : (Nat → Int32)) (h : zf_X2_readsStatement m_letters m_letterMany m_place m_numbers = some (r0, w_m_place, w_m_numbers)) : Cn l D cI yX2_readsStatement wsX2_readsStatement rm_X2_readsStatement [.ref (ad 0)] (zb_M cI ad m_s m_m m_image m_was m_hasImage m_letters m_row m_refused m_letterMany m_rowMany m_place m_numbers m_cost m_seed) (some (.int r0)) (zb_M cI ad m_s m_m m_image m_was m_hasImage m_letters m_row m_refused m_letterMany m_rowMany w_m_place w_m_numbers m_cost m_seed) := by
  refine zb_ofW (cc := cX2_readsStatement) (maxL := 3) (ret := (some .boolean)) (by decide) rfl (Nat.le_of_ble_eq_true rfl) ?_
  intro p e s m args below meth c A ls hx hb hr hml hts hown hlk hK hP hD hA hl
  have hS : va_S A s.heap s.heap [] := va_S.rf
  have hl : lv_has ls 3 [(0, .ref (ad 0))] := hl
  unfold zf_X2_readsStatement at h
  have j213 : ∀ (x1 : Int32) (x2 : Int32) (x3 : (Nat → Int32)) (H : Heap) (locs : List Loc) (hP : va_P D zb_cl (zb_M cI ad m_s m_m m_image m_was m_hasImage m_letters m_row m_refused m_letterMany m_rowMany x2 x3 m_cost m_seed) H) (hD : va_D A (zb_M cI ad m_s m_m m_image m_was m_hasImage m_letters m_row m_refused m_letterMany m_rowMany x2 x3 m_cost m_seed)) (hS : va_S A s.heap H locs) (ls : Array Slot) (hl : lv_has ls 3 [(0, .ref (ad 0)), (2, .int x1)]) (h : zf_X2_readsStatement_j213 x1 m_letters m_letterMany x2 x3 = some (r0, w_m_place, w_m_numbers)), W p l e rm_X2_readsStatement s m args below meth c H locs 0 0 (zb_Q below D (some (.int r0)) (zb_M cI ad m_s m_m m_image m_was m_hasImage m_letters m_row m_refused m_letterMany m_rowMany w_m_place w_m_numbers m_cost m_seed) A args s) (F0 m 213 ls []) := by
    intro x1 x2 x3 H locs hP hD hS ls hl h
    unfold zf_X2_readsStatement_j213 at h
    refine lv_iload_n hx hb dX2_readsStatement_213 rfl (lv_at hl 1 rfl) ?_
    refine lv_if_eq (tgt := 226) hx hb dX2_readsStatement_214 (by decide) (fun c4 => ?_) (fun c4 => ?_)
    · replace h := it_t c4 h
      refine lv_iconst (v := (0 : Int32)) hx hb dX2_readsStatement_226 (by decide) ?_
      obtain ⟨rfl, rfl, rfl⟩ := re3 h
      exact zb_zret hx hb hr hlk rfl hP hS dX2_readsStatement_227
    · replace h := it_f c4 h
      refine lv_aload_n hx hb dX2_readsStatement_217 rfl (lv_at hl 0 rfl) ?_
      obtain ⟨r5, g6, h⟩ := bo1 h
      refine zb_callV (As := []) (rest := []) ⟨hx, hb, hml, hown, hts⟩ (zc_X2_here l D cI ad m_s m_m m_image m_was m_hasImage m_letters m_row m_refused m_letterMany m_rowMany x2 x3 m_cost m_seed r5 g6) (cwV 0 hts gX2_readsStatement_X2_here rfl rfl rfl hd_X2_here ⟨Nat.le_of_ble_eq_true rfl, Nat.le_of_ble_eq_true rfl⟩) hK hP hD hS hA (zb_sM) (q0 := 0) rfl rfl rfl hl.1 rfl (Nat.le_of_ble_eq_true rfl) dX2_readsStatement_218 ⟨Nat.le_refl _, Nat.le_refl _⟩ (fun H locs hP hD hS => ?_)
      refine lv_bipush (v := (59 : Int32)) hx hb dX2_readsStatement_221 (by decide) ?_
      refine lv_icmp_eq (tgt := 228) hx hb dX2_readsStatement_223 (by decide) (fun c7 => ?_) (fun c7 => ?_)
      · replace h := it_t c7 h
        refine lv_aload_n hx hb dX2_readsStatement_228 rfl (lv_at hl 0 rfl) ?_
        refine lv_dup hx hb dX2_readsStatement_229 rfl ?_
        refine va_get (D := D) (ci := 2) (v := .int x2) (C := RX2) (T := TX2) (N := 14) hx hb hts zi_X2_readsStatement_X2 hown hK.1 hP 0 rfl rfl 10 (by decide) (hts _ zk_X2_readsStatement_0) (fun _ h9 => h9) rfl dX2_readsStatement_230 ?_
        refine lv_iconst (v := (1 : Int32)) hx hb dX2_readsStatement_233 (by decide) ?_
        refine lv_iadd hx hb dX2_readsStatement_234 ?_
        refine va_put (D := D) (ci := 2) (v := .int (x2 + (1 : Int32))) (ty := .int) (C := RX2) (T := TX2) (N := 14) hx hb hts zi_X2_readsStatement_X2 tyX2 tyX2_ok nmX2 hown hK.1 hP hD hS 0 rfl rfl 10 (by decide) (hts _ zk_X2_readsStatement_0) (fun _ h9 => h9) rfl (by decide +kernel) rfl rfl (Nat.le_of_ble_eq_true rfl) dX2_readsStatement_235 (fun H locs hP hD hS => ?_)
        have hP : va_P D zb_cl (zb_M cI ad m_s m_m m_image m_was m_hasImage m_letters m_row m_refused m_letterMany m_rowMany (x2 + (1 : Int32)) x3 m_cost m_seed) H := hP
        have hD : va_D A (zb_M cI ad m_s m_m m_image m_was m_hasImage m_letters m_row m_refused m_letterMany m_rowMany (x2 + (1 : Int32)) x3 m_cost m_seed) := hD
        refine lv_iconst (v := (1 : Int32)) hx hb dX2_readsStatement_238 (by decide) ?_
        obtain ⟨rfl, rfl, rfl⟩ := re3 h
        exact zb_zret hx hb hr hlk rfl hP hS dX2_readsStatement_239
      · replace h := it_f c7 h
        refine lv_iconst (v := (0 : Int32)) hx hb dX2_readsStatement_226 (by decide) ?_
        obtain ⟨rfl, rfl, rfl⟩ := re3 h
        exact zb_zret hx hb hr hlk rfl hP hS dX2_readsStatement_227
  refine lv_aload_n hx hb dX2_readsStatement_0 rfl (lv_at hl 0 rfl) ?_
  obtain ⟨r8, g9, h⟩ := bo1 h
  refine zb_callV (As := []) (rest := []) ⟨hx, hb, hml, hown, hts⟩ (zc_X2_here l D cI ad m_s m_m m_image m_was m_hasImage m_letters m_row m_refused m_letterMany m_rowMany m_place m_numbers m_cost m_seed r8 g9) (cwV 0 hts gX2_readsStatement_X2_here rfl rfl rfl hd_X2_here ⟨Nat.le_of_ble_eq_true rfl, Nat.le_of_ble_eq_true rfl⟩) hK hP hD hS hA (zb_sM) (q0 := 0) rfl rfl rfl hl.1 rfl (Nat.le_of_ble_eq_true rfl) dX2_readsStatement_1 ⟨Nat.le_refl _, Nat.le_refl _⟩ (fun H locs hP hD hS => ?_)
  refine lv_istore_n (lv' := [(1, .int r8), (0, .ref (ad 0))]) hx hb dX2_readsStatement_4 rfl hl (by decide) rfl (fun ls hl => ?_)
  refine lv_aload_n hx hb dX2_readsStatement_5 rfl (lv_at hl 1 rfl) ?_
  refine lv_dup hx hb dX2_readsStatement_6 rfl ?_
  refine va_get (D := D) (ci := 2) (v := .int m_place) (C := RX2) (T := TX2) (N := 14) hx hb hts zi_X2_readsStatement_X2 hown hK.1 hP 0 rfl rfl 10 (by decide) (hts _ zk_X2_readsStatement_0) (fun _ h9 => h9) rfl dX2_readsStatement_7 ?_
  refine lv_iconst (v := (1 : Int32)) hx hb dX2_readsStatement_10 (by decide) ?_
  refine lv_iadd hx hb dX2_readsStatement_11 ?_
  refine va_put (D := D) (ci := 2) (v := .int (m_place + (1 : Int32))) (ty := .int) (C := RX2) (T := TX2) (N := 14) hx hb hts zi_X2_readsStatement_X2 tyX2 tyX2_ok nmX2 hown hK.1 hP hD hS 0 rfl rfl 10 (by decide) (hts _ zk_X2_readsStatement_0) (fun _ h9 => h9) rfl (by decide +kernel) rfl rfl (Nat.le_of_ble_eq_true rfl) dX2_readsStatement_12 (fun H locs hP hD hS => ?_)
  have hP : va_P D zb_cl (zb_M cI ad m_s m_m m_image m_was m_hasImage m_letters m_row m_refused m_letterMany m_rowMany (m_place + (1 : Int32)) m_numbers m_cost m_seed) H := hP
  have hD : va_D A (zb_M cI ad m_s m_m m_image m_was m_hasImage m_letters m_row m_refused m_letterMany m_rowMany (m_place + (1 : Int32)) m_numbers m_cost m_seed) := hD
  refine lv_iload_n hx hb dX2_readsStatement_15 rfl (lv_at hl 0 rfl) ?_
  by_cases c10 : r8 = (97 : Int32)
  · replace h := it_t c10 h
    have e9 : r8.toInt = 97 := by rw [c10]; rfl
    refine lv_lookup (tgt := 164) hx hb dX2_readsStatement_16 (by decide) (by rw [e9]; try rfl) (by decide) ?_
    refine lv_aload_n hx hb dX2_readsStatement_164 rfl (lv_at hl 1 rfl) ?_
    refine lv_iconst (v := (0 : Int32)) hx hb dX2_readsStatement_165 (by decide) ?_
    refine lv_iconst (v := (1 : Int32)) hx hb dX2_readsStatement_166 (by decide) ?_
    obtain ⟨r11, n12, n13, g14, h⟩ := bo3 h
    refine zb_callV (As := [.int (0 : Int32), .int (1 : Int32)]) (rest := []) ⟨hx, hb, hml, hown, hts⟩ (zc_X2_readsNumber l D cI ad m_s m_m m_image m_was m_hasImage m_letters m_row m_refused m_letterMany m_rowMany (m_place + (1 : Int32)) m_numbers m_cost m_seed (0 : Int32) (1 : Int32) r11 n12 n13 g14) (cwV 2 hts gX2_readsStatement_X2_readsNumber rfl rfl rfl hd_X2_readsNumber ⟨Nat.le_of_ble_eq_true rfl, Nat.le_of_ble_eq_true rfl⟩) hK hP hD hS hA (zb_sM) (q0 := 0) rfl rfl rfl hl.1 rfl (Nat.le_of_ble_eq_true rfl) dX2_readsStatement_167 ⟨Nat.le_refl _, Nat.le_refl _⟩ (fun H locs hP hD hS => ?_)
    refine lv_if_eq (tgt := 186) hx hb dX2_readsStatement_170 (by decide) (fun c15 => ?_) (fun c15 => ?_)
    · replace h := it_t c15 h
      refine lv_iconst (v := (0 : Int32)) hx hb dX2_readsStatement_186 (by decide) ?_
      refine lv_istore_n (lv' := [(2, .int (0 : Int32)), (1, .int r8), (0, .ref (ad 0))]) hx hb dX2_readsStatement_187 rfl hl (by decide) rfl (fun ls hl => ?_)
      refine lv_goto (tgt := 213) hx hb dX2_readsStatement_188 (by decide) ?_
      exact j213 (0 : Int32) n12 n13 _ _ hP hD hS ls (lv_sub hl [2, 0] rfl) h
    · replace h := it_f c15 h
      refine lv_aload_n hx hb dX2_readsStatement_173 rfl (lv_at hl 1 rfl) ?_
      refine lv_iconst (v := (1 : Int32)) hx hb dX2_readsStatement_174 (by decide) ?_
      refine lv_iconst (v := (2 : Int32)) hx hb dX2_readsStatement_175 (by decide) ?_
      obtain ⟨r16, n17, n18, g19, h⟩ := bo3 h
      refine zb_callV (As := [.int (1 : Int32), .int (2 : Int32)]) (rest := []) ⟨hx, hb, hml, hown, hts⟩ (zc_X2_readsNumber l D cI ad m_s m_m m_image m_was m_hasImage m_letters m_row m_refused m_letterMany m_rowMany n12 n13 m_cost m_seed (1 : Int32) (2 : Int32) r16 n17 n18 g19) (cwV 2 hts gX2_readsStatement_X2_readsNumber rfl rfl rfl hd_X2_readsNumber ⟨Nat.le_of_ble_eq_true rfl, Nat.le_of_ble_eq_true rfl⟩) hK hP hD hS hA (zb_sM) (q0 := 0) rfl rfl rfl hl.1 rfl (Nat.le_of_ble_eq_true rfl) dX2_readsStatement_176 ⟨Nat.le_refl _, Nat.le_refl _⟩ (fun H locs hP hD hS => ?_)
      refine lv_if_eq (tgt := 186) hx hb dX2_readsStatement_179 (by decide) (fun c20 => ?_) (fun c20 => ?_)
      · replace h := it_t c20 h
        refine lv_iconst (v := (0 : Int32)) hx hb dX2_readsStatement_186 (by decide) ?_
        refine lv_istore_n (lv' := [(2, .int (0 : Int32)), (1, .int r8), (0, .ref (ad 0))]) hx hb dX2_readsStatement_187 rfl hl (by decide) rfl (fun ls hl => ?_)
        refine lv_goto (tgt := 213) hx hb dX2_readsStatement_188 (by decide) ?_
        exact j213 (0 : Int32) n17 n18 _ _ hP hD hS ls (lv_sub hl [2, 0] rfl) h
      · replace h := it_f c20 h
        refine lv_iconst (v := (1 : Int32)) hx hb dX2_readsStatement_182 (by decide) ?_
        refine lv_goto (tgt := 187) hx hb dX2_readsStatement_183 (by decide) ?_
        refine lv_istore_n (lv' := [(2, .int (1 : Int32)), (1, .int r8), (0, .ref (ad 0))]) hx hb dX2_readsStatement_187 rfl hl (by decide) rfl (fun ls hl => ?_)
        refine lv_goto (tgt := 213) hx hb dX2_readsStatement_188 (by decide) ?_
        exact j213 (1 : Int32) n17 n18 _ _ hP hD hS ls (lv_sub hl [2, 0] rfl) h
  replace h := it_f c10 h
  by_cases c21 : r8 = (104 : Int32)
  · replace h := it_t c21 h
    have e9 : r8.toInt = 104 := by rw [c21]; rfl
    refine lv_lookup (tgt := 137) hx hb dX2_readsStatement_16 (by decide) (by rw [e9]; try rfl) (by decide) ?_
    refine lv_aload_n hx hb dX2_readsStatement_137 rfl (lv_at hl 1 rfl) ?_
    refine lv_iconst (v := (0 : Int32)) hx hb dX2_readsStatement_138 (by decide) ?_
    refine lv_iconst (v := (1 : Int32)) hx hb dX2_readsStatement_139 (by decide) ?_
    obtain ⟨r22, n23, n24, g25, h⟩ := bo3 h
    refine zb_callV (As := [.int (0 : Int32), .int (1 : Int32)]) (rest := []) ⟨hx, hb, hml, hown, hts⟩ (zc_X2_readsNumber l D cI ad m_s m_m m_image m_was m_hasImage m_letters m_row m_refused m_letterMany m_rowMany (m_place + (1 : Int32)) m_numbers m_cost m_seed (0 : Int32) (1 : Int32) r22 n23 n24 g25) (cwV 2 hts gX2_readsStatement_X2_readsNumber rfl rfl rfl hd_X2_readsNumber ⟨Nat.le_of_ble_eq_true rfl, Nat.le_of_ble_eq_true rfl⟩) hK hP hD hS hA (zb_sM) (q0 := 0) rfl rfl rfl hl.1 rfl (Nat.le_of_ble_eq_true rfl) dX2_readsStatement_140 ⟨Nat.le_refl _, Nat.le_refl _⟩ (fun H locs hP hD hS => ?_)
    refine lv_if_eq (tgt := 159) hx hb dX2_readsStatement_143 (by decide) (fun c26 => ?_) (fun c26 => ?_)
    · replace h := it_t c26 h
      refine lv_iconst (v := (0 : Int32)) hx hb dX2_readsStatement_159 (by decide) ?_
      refine lv_istore_n (lv' := [(2, .int (0 : Int32)), (1, .int r8), (0, .ref (ad 0))]) hx hb dX2_readsStatement_160 rfl hl (by decide) rfl (fun ls hl => ?_)
      refine lv_goto (tgt := 213) hx hb dX2_readsStatement_161 (by decide) ?_
      exact j213 (0 : Int32) n23 n24 _ _ hP hD hS ls (lv_sub hl [2, 0] rfl) h
    · replace h := it_f c26 h
      refine lv_aload_n hx hb dX2_readsStatement_146 rfl (lv_at hl 1 rfl) ?_
      refine lv_iconst (v := (1 : Int32)) hx hb dX2_readsStatement_147 (by decide) ?_
      refine lv_iconst (v := (1 : Int32)) hx hb dX2_readsStatement_148 (by decide) ?_
      obtain ⟨r27, n28, n29, g30, h⟩ := bo3 h
      refine zb_callV (As := [.int (1 : Int32), .int (1 : Int32)]) (rest := []) ⟨hx, hb, hml, hown, hts⟩ (zc_X2_readsNumber l D cI ad m_s m_m m_image m_was m_hasImage m_letters m_row m_refused m_letterMany m_rowMany n23 n24 m_cost m_seed (1 : Int32) (1 : Int32) r27 n28 n29 g30) (cwV 2 hts gX2_readsStatement_X2_readsNumber rfl rfl rfl hd_X2_readsNumber ⟨Nat.le_of_ble_eq_true rfl, Nat.le_of_ble_eq_true rfl⟩) hK hP hD hS hA (zb_sM) (q0 := 0) rfl rfl rfl hl.1 rfl (Nat.le_of_ble_eq_true rfl) dX2_readsStatement_149 ⟨Nat.le_refl _, Nat.le_refl _⟩ (fun H locs hP hD hS => ?_)
      refine lv_if_eq (tgt := 159) hx hb dX2_readsStatement_152 (by decide) (fun c31 => ?_) (fun c31 => ?_)
      · replace h := it_t c31 h
        refine lv_iconst (v := (0 : Int32)) hx hb dX2_readsStatement_159 (by decide) ?_
        refine lv_istore_n (lv' := [(2, .int (0 : Int32)), (1, .int r8), (0, .ref (ad 0))]) hx hb dX2_readsStatement_160 rfl hl (by decide) rfl (fun ls hl => ?_)
        refine lv_goto (tgt := 213) hx hb dX2_readsStatement_161 (by decide) ?_
        exact j213 (0 : Int32) n28 n29 _ _ hP hD hS ls (lv_sub hl [2, 0] rfl) h
      · replace h := it_f c31 h
        refine lv_iconst (v := (1 : Int32)) hx hb dX2_readsStatement_155 (by decide) ?_
        refine lv_goto (tgt := 160) hx hb dX2_readsStatement_156 (by decide) ?_
        refine lv_istore_n (lv' := [(2, .int (1 : Int32)), (1, .int r8), (0, .ref (ad 0))]) hx hb dX2_readsStatement_160 rfl hl (by decide) rfl (fun ls hl => ?_)
        refine lv_goto (tgt := 213) hx hb dX2_readsStatement_161 (by decide) ?_
        exact j213 (1 : Int32) n28 n29 _ _ hP hD hS ls (lv_sub hl [2, 0] rfl) h
  replace h := it_f c21 h
  by_cases c32 : r8 = (110 : Int32)
  · replace h := it_t c32 h
    have e9 : r8.toInt = 110 := by rw [c32]; rfl
    refine lv_lookup (tgt := 76) hx hb dX2_readsStatement_16 (by decide) (by rw [e9]; try rfl) (by decide) ?_
    refine lv_aload_n hx hb dX2_readsStatement_76 rfl (lv_at hl 1 rfl) ?_
    refine lv_iconst (v := (0 : Int32)) hx hb dX2_readsStatement_77 (by decide) ?_
    refine lv_iconst (v := (2 : Int32)) hx hb dX2_readsStatement_78 (by decide) ?_
    obtain ⟨r33, n34, n35, g36, h⟩ := bo3 h
    refine zb_callV (As := [.int (0 : Int32), .int (2 : Int32)]) (rest := []) ⟨hx, hb, hml, hown, hts⟩ (zc_X2_readsNumber l D cI ad m_s m_m m_image m_was m_hasImage m_letters m_row m_refused m_letterMany m_rowMany (m_place + (1 : Int32)) m_numbers m_cost m_seed (0 : Int32) (2 : Int32) r33 n34 n35 g36) (cwV 2 hts gX2_readsStatement_X2_readsNumber rfl rfl rfl hd_X2_readsNumber ⟨Nat.le_of_ble_eq_true rfl, Nat.le_of_ble_eq_true rfl⟩) hK hP hD hS hA (zb_sM) (q0 := 0) rfl rfl rfl hl.1 rfl (Nat.le_of_ble_eq_true rfl) dX2_readsStatement_79 ⟨Nat.le_refl _, Nat.le_refl _⟩ (fun H locs hP hD hS => ?_)
    refine lv_if_eq (tgt := 105) hx hb dX2_readsStatement_82 (by decide) (fun c37 => ?_) (fun c37 => ?_)
    · replace h := it_t c37 h
      refine lv_iconst (v := (0 : Int32)) hx hb dX2_readsStatement_105 (by decide) ?_
      refine lv_istore_n (lv' := [(2, .int (0 : Int32)), (1, .int r8), (0, .ref (ad 0))]) hx hb dX2_readsStatement_106 rfl hl (by decide) rfl (fun ls hl => ?_)
      refine lv_goto (tgt := 213) hx hb dX2_readsStatement_107 (by decide) ?_
      exact j213 (0 : Int32) n34 n35 _ _ hP hD hS ls (lv_sub hl [2, 0] rfl) h
    · replace h := it_f c37 h
      refine lv_aload_n hx hb dX2_readsStatement_85 rfl (lv_at hl 1 rfl) ?_
      obtain ⟨r38, n39, n40, g41, h⟩ := bo3 h
      refine zb_callV (As := []) (rest := []) ⟨hx, hb, hml, hown, hts⟩ (zc_X2_readsKind l D cI ad m_s m_m m_image m_was m_hasImage m_letters m_row m_refused m_letterMany m_rowMany n34 n35 m_cost m_seed r38 n39 n40 g41) (cwV 0 hts gX2_readsStatement_X2_readsKind rfl rfl rfl hd_X2_readsKind ⟨Nat.le_of_ble_eq_true rfl, Nat.le_of_ble_eq_true rfl⟩) hK hP hD hS hA (zb_sM) (q0 := 0) rfl rfl rfl hl.1 rfl (Nat.le_of_ble_eq_true rfl) dX2_readsStatement_86 ⟨Nat.le_refl _, Nat.le_refl _⟩ (fun H locs hP hD hS => ?_)
      refine lv_if_eq (tgt := 105) hx hb dX2_readsStatement_89 (by decide) (fun c42 => ?_) (fun c42 => ?_)
      · replace h := it_t c42 h
        refine lv_iconst (v := (0 : Int32)) hx hb dX2_readsStatement_105 (by decide) ?_
        refine lv_istore_n (lv' := [(2, .int (0 : Int32)), (1, .int r8), (0, .ref (ad 0))]) hx hb dX2_readsStatement_106 rfl hl (by decide) rfl (fun ls hl => ?_)
        refine lv_goto (tgt := 213) hx hb dX2_readsStatement_107 (by decide) ?_
        exact j213 (0 : Int32) n39 n40 _ _ hP hD hS ls (lv_sub hl [2, 0] rfl) h
      · replace h := it_f c42 h
        refine lv_aload_n hx hb dX2_readsStatement_92 rfl (lv_at hl 1 rfl) ?_
        refine lv_iconst (v := (2 : Int32)) hx hb dX2_readsStatement_93 (by decide) ?_
        refine lv_iconst (v := (1 : Int32)) hx hb dX2_readsStatement_94 (by decide) ?_
        obtain ⟨r43, n44, n45, g46, h⟩ := bo3 h
        refine zb_callV (As := [.int (2 : Int32), .int (1 : Int32)]) (rest := []) ⟨hx, hb, hml, hown, hts⟩ (zc_X2_readsNumber l D cI ad m_s m_m m_image m_was m_hasImage m_letters m_row m_refused m_letterMany m_rowMany n39 n40 m_cost m_seed (2 : Int32) (1 : Int32) r43 n44 n45 g46) (cwV 2 hts gX2_readsStatement_X2_readsNumber rfl rfl rfl hd_X2_readsNumber ⟨Nat.le_of_ble_eq_true rfl, Nat.le_of_ble_eq_true rfl⟩) hK hP hD hS hA (zb_sM) (q0 := 0) rfl rfl rfl hl.1 rfl (Nat.le_of_ble_eq_true rfl) dX2_readsStatement_95 ⟨Nat.le_refl _, Nat.le_refl _⟩ (fun H locs hP hD hS => ?_)
        refine lv_if_eq (tgt := 105) hx hb dX2_readsStatement_98 (by decide) (fun c47 => ?_) (fun c47 => ?_)
        · replace h := it_t c47 h
          refine lv_iconst (v := (0 : Int32)) hx hb dX2_readsStatement_105 (by decide) ?_
          refine lv_istore_n (lv' := [(2, .int (0 : Int32)), (1, .int r8), (0, .ref (ad 0))]) hx hb dX2_readsStatement_106 rfl hl (by decide) rfl (fun ls hl => ?_)
          refine lv_goto (tgt := 213) hx hb dX2_readsStatement_107 (by decide) ?_
          exact j213 (0 : Int32) n44 n45 _ _ hP hD hS ls (lv_sub hl [2, 0] rfl) h
        · replace h := it_f c47 h
          refine lv_iconst (v := (1 : Int32)) hx hb dX2_readsStatement_101 (by decide) ?_
          refine lv_goto (tgt := 106) hx hb dX2_readsStatement_102 (by decide) ?_
          refine lv_istore_n (lv' := [(2, .int (1 : Int32)), (1, .int r8), (0, .ref (ad 0))]) hx hb dX2_readsStatement_106 rfl hl (by decide) rfl (fun ls hl => ?_)
          refine lv_goto (tgt := 213) hx hb dX2_readsStatement_107 (by decide) ?_
          exact j213 (1 : Int32) n44 n45 _ _ hP hD hS ls (lv_sub hl [2, 0] rfl) h
  replace h := it_f c32 h
  by_cases c48 : r8 = (112 : Int32)
  · replace h := it_t c48 h
    have e9 : r8.toInt = 112 := by rw [c48]; rfl
    refine lv_lookup (tgt := 110) hx hb dX2_readsStatement_16 (by decide) (by rw [e9]; try rfl) (by decide) ?_
    refine lv_aload_n hx hb dX2_readsStatement_110 rfl (lv_at hl 1 rfl) ?_
    refine lv_iconst (v := (0 : Int32)) hx hb dX2_readsStatement_111 (by decide) ?_
    refine lv_iconst (v := (2 : Int32)) hx hb dX2_readsStatement_112 (by decide) ?_
    obtain ⟨r49, n50, n51, g52, h⟩ := bo3 h
    refine zb_callV (As := [.int (0 : Int32), .int (2 : Int32)]) (rest := []) ⟨hx, hb, hml, hown, hts⟩ (zc_X2_readsNumber l D cI ad m_s m_m m_image m_was m_hasImage m_letters m_row m_refused m_letterMany m_rowMany (m_place + (1 : Int32)) m_numbers m_cost m_seed (0 : Int32) (2 : Int32) r49 n50 n51 g52) (cwV 2 hts gX2_readsStatement_X2_readsNumber rfl rfl rfl hd_X2_readsNumber ⟨Nat.le_of_ble_eq_true rfl, Nat.le_of_ble_eq_true rfl⟩) hK hP hD hS hA (zb_sM) (q0 := 0) rfl rfl rfl hl.1 rfl (Nat.le_of_ble_eq_true rfl) dX2_readsStatement_113 ⟨Nat.le_refl _, Nat.le_refl _⟩ (fun H locs hP hD hS => ?_)
    refine lv_if_eq (tgt := 132) hx hb dX2_readsStatement_116 (by decide) (fun c53 => ?_) (fun c53 => ?_)
    · replace h := it_t c53 h
      refine lv_iconst (v := (0 : Int32)) hx hb dX2_readsStatement_132 (by decide) ?_
      refine lv_istore_n (lv' := [(2, .int (0 : Int32)), (1, .int r8), (0, .ref (ad 0))]) hx hb dX2_readsStatement_133 rfl hl (by decide) rfl (fun ls hl => ?_)
      refine lv_goto (tgt := 213) hx hb dX2_readsStatement_134 (by decide) ?_
      exact j213 (0 : Int32) n50 n51 _ _ hP hD hS ls (lv_sub hl [2, 0] rfl) h
    · replace h := it_f c53 h
      refine lv_aload_n hx hb dX2_readsStatement_119 rfl (lv_at hl 1 rfl) ?_
      refine lv_iconst (v := (1 : Int32)) hx hb dX2_readsStatement_120 (by decide) ?_
      refine lv_iconst (v := (1 : Int32)) hx hb dX2_readsStatement_121 (by decide) ?_
      obtain ⟨r54, n55, n56, g57, h⟩ := bo3 h
      refine zb_callV (As := [.int (1 : Int32), .int (1 : Int32)]) (rest := []) ⟨hx, hb, hml, hown, hts⟩ (zc_X2_readsNumber l D cI ad m_s m_m m_image m_was m_hasImage m_letters m_row m_refused m_letterMany m_rowMany n50 n51 m_cost m_seed (1 : Int32) (1 : Int32) r54 n55 n56 g57) (cwV 2 hts gX2_readsStatement_X2_readsNumber rfl rfl rfl hd_X2_readsNumber ⟨Nat.le_of_ble_eq_true rfl, Nat.le_of_ble_eq_true rfl⟩) hK hP hD hS hA (zb_sM) (q0 := 0) rfl rfl rfl hl.1 rfl (Nat.le_of_ble_eq_true rfl) dX2_readsStatement_122 ⟨Nat.le_refl _, Nat.le_refl _⟩ (fun H locs hP hD hS => ?_)
      refine lv_if_eq (tgt := 132) hx hb dX2_readsStatement_125 (by decide) (fun c58 => ?_) (fun c58 => ?_)
      · replace h := it_t c58 h
        refine lv_iconst (v := (0 : Int32)) hx hb dX2_readsStatement_132 (by decide) ?_
        refine lv_istore_n (lv' := [(2, .int (0 : Int32)), (1, .int r8), (0, .ref (ad 0))]) hx hb dX2_readsStatement_133 rfl hl (by decide) rfl (fun ls hl => ?_)
        refine lv_goto (tgt := 213) hx hb dX2_readsStatement_134 (by decide) ?_
        exact j213 (0 : Int32) n55 n56 _ _ hP hD hS ls (lv_sub hl [2, 0] rfl) h
      · replace h := it_f c58 h
        refine lv_iconst (v := (1 : Int32)) hx hb dX2_readsStatement_128 (by decide) ?_
        refine lv_goto (tgt := 133) hx hb dX2_readsStatement_129 (by decide) ?_
        refine lv_istore_n (lv' := [(2, .int (1 : Int32)), (1, .int r8), (0, .ref (ad 0))]) hx hb dX2_readsStatement_133 rfl hl (by decide) rfl (fun ls hl => ?_)
        refine lv_goto (tgt := 213) hx hb dX2_readsStatement_134 (by decide) ?_
        exact j213 (1 : Int32) n55 n56 _ _ hP hD hS ls (lv_sub hl [2, 0] rfl) h
  replace h := it_f c48 h
  by_cases c59 : r8 = (115 : Int32)
  · replace h := it_t c59 h
    have e9 : r8.toInt = 115 := by rw [c59]; rfl
    refine lv_lookup (tgt := 191) hx hb dX2_readsStatement_16 (by decide) (by rw [e9]; try rfl) (by decide) ?_
    refine lv_aload_n hx hb dX2_readsStatement_191 rfl (lv_at hl 1 rfl) ?_
    refine lv_iconst (v := (0 : Int32)) hx hb dX2_readsStatement_192 (by decide) ?_
    refine lv_iconst (v := (2 : Int32)) hx hb dX2_readsStatement_193 (by decide) ?_
    obtain ⟨r60, n61, n62, g63, h⟩ := bo3 h
    refine zb_callV (As := [.int (0 : Int32), .int (2 : Int32)]) (rest := []) ⟨hx, hb, hml, hown, hts⟩ (zc_X2_readsNumber l D cI ad m_s m_m m_image m_was m_hasImage m_letters m_row m_refused m_letterMany m_rowMany (m_place + (1 : Int32)) m_numbers m_cost m_seed (0 : Int32) (2 : Int32) r60 n61 n62 g63) (cwV 2 hts gX2_readsStatement_X2_readsNumber rfl rfl rfl hd_X2_readsNumber ⟨Nat.le_of_ble_eq_true rfl, Nat.le_of_ble_eq_true rfl⟩) hK hP hD hS hA (zb_sM) (q0 := 0) rfl rfl rfl hl.1 rfl (Nat.le_of_ble_eq_true rfl) dX2_readsStatement_194 ⟨Nat.le_refl _, Nat.le_refl _⟩ (fun H locs hP hD hS => ?_)
    refine lv_istore_n (lv' := [(2, .int r60), (1, .int r8), (0, .ref (ad 0))]) hx hb dX2_readsStatement_197 rfl hl (by decide) rfl (fun ls hl => ?_)
    refine lv_goto (tgt := 213) hx hb dX2_readsStatement_198 (by decide) ?_
    exact j213 r60 n61 n62 _ _ hP hD hS ls (lv_sub hl [2, 0] rfl) h
  replace h := it_f c59 h
  by_cases c64 : r8 = (119 : Int32)
  · replace h := it_t c64 h
    have e9 : r8.toInt = 119 := by rw [c64]; rfl
    refine lv_lookup (tgt := 110) hx hb dX2_readsStatement_16 (by decide) (by rw [e9]; try rfl) (by decide) ?_
    refine lv_aload_n hx hb dX2_readsStatement_110 rfl (lv_at hl 1 rfl) ?_
    refine lv_iconst (v := (0 : Int32)) hx hb dX2_readsStatement_111 (by decide) ?_
    refine lv_iconst (v := (2 : Int32)) hx hb dX2_readsStatement_112 (by decide) ?_
    obtain ⟨r65, n66, n67, g68, h⟩ := bo3 h
    refine zb_callV (As := [.int (0 : Int32), .int (2 : Int32)]) (rest := []) ⟨hx, hb, hml, hown, hts⟩ (zc_X2_readsNumber l D cI ad m_s m_m m_image m_was m_hasImage m_letters m_row m_refused m_letterMany m_rowMany (m_place + (1 : Int32)) m_numbers m_cost m_seed (0 : Int32) (2 : Int32) r65 n66 n67 g68) (cwV 2 hts gX2_readsStatement_X2_readsNumber rfl rfl rfl hd_X2_readsNumber ⟨Nat.le_of_ble_eq_true rfl, Nat.le_of_ble_eq_true rfl⟩) hK hP hD hS hA (zb_sM) (q0 := 0) rfl rfl rfl hl.1 rfl (Nat.le_of_ble_eq_true rfl) dX2_readsStatement_113 ⟨Nat.le_refl _, Nat.le_refl _⟩ (fun H locs hP hD hS => ?_)
    refine lv_if_eq (tgt := 132) hx hb dX2_readsStatement_116 (by decide) (fun c69 => ?_) (fun c69 => ?_)
    · replace h := it_t c69 h
      refine lv_iconst (v := (0 : Int32)) hx hb dX2_readsStatement_132 (by decide) ?_
      refine lv_istore_n (lv' := [(2, .int (0 : Int32)), (1, .int r8), (0, .ref (ad 0))]) hx hb dX2_readsStatement_133 rfl hl (by decide) rfl (fun ls hl => ?_)
      refine lv_goto (tgt := 213) hx hb dX2_readsStatement_134 (by decide) ?_
      exact j213 (0 : Int32) n66 n67 _ _ hP hD hS ls (lv_sub hl [2, 0] rfl) h
    · replace h := it_f c69 h
      refine lv_aload_n hx hb dX2_readsStatement_119 rfl (lv_at hl 1 rfl) ?_
      refine lv_iconst (v := (1 : Int32)) hx hb dX2_readsStatement_120 (by decide) ?_
      refine lv_iconst (v := (1 : Int32)) hx hb dX2_readsStatement_121 (by decide) ?_
      obtain ⟨r70, n71, n72, g73, h⟩ := bo3 h
      refine zb_callV (As := [.int (1 : Int32), .int (1 : Int32)]) (rest := []) ⟨hx, hb, hml, hown, hts⟩ (zc_X2_readsNumber l D cI ad m_s m_m m_image m_was m_hasImage m_letters m_row m_refused m_letterMany m_rowMany n66 n67 m_cost m_seed (1 : Int32) (1 : Int32) r70 n71 n72 g73) (cwV 2 hts gX2_readsStatement_X2_readsNumber rfl rfl rfl hd_X2_readsNumber ⟨Nat.le_of_ble_eq_true rfl, Nat.le_of_ble_eq_true rfl⟩) hK hP hD hS hA (zb_sM) (q0 := 0) rfl rfl rfl hl.1 rfl (Nat.le_of_ble_eq_true rfl) dX2_readsStatement_122 ⟨Nat.le_refl _, Nat.le_refl _⟩ (fun H locs hP hD hS => ?_)
      refine lv_if_eq (tgt := 132) hx hb dX2_readsStatement_125 (by decide) (fun c74 => ?_) (fun c74 => ?_)
      · replace h := it_t c74 h
        refine lv_iconst (v := (0 : Int32)) hx hb dX2_readsStatement_132 (by decide) ?_
        refine lv_istore_n (lv' := [(2, .int (0 : Int32)), (1, .int r8), (0, .ref (ad 0))]) hx hb dX2_readsStatement_133 rfl hl (by decide) rfl (fun ls hl => ?_)
        refine lv_goto (tgt := 213) hx hb dX2_readsStatement_134 (by decide) ?_
        exact j213 (0 : Int32) n71 n72 _ _ hP hD hS ls (lv_sub hl [2, 0] rfl) h
      · replace h := it_f c74 h
        refine lv_iconst (v := (1 : Int32)) hx hb dX2_readsStatement_128 (by decide) ?_
        refine lv_goto (tgt := 133) hx hb dX2_readsStatement_129 (by decide) ?_
        refine lv_istore_n (lv' := [(2, .int (1 : Int32)), (1, .int r8), (0, .ref (ad 0))]) hx hb dX2_readsStatement_133 rfl hl (by decide) rfl (fun ls hl => ?_)
        refine lv_goto (tgt := 213) hx hb dX2_readsStatement_134 (by decide) ?_
        exact j213 (1 : Int32) n71 n72 _ _ hP hD hS ls (lv_sub hl [2, 0] rfl) h
  replace h := it_f c64 h
  have e_c10 := sw_ne (k := 97) rfl c10
  have e_c21 := sw_ne (k := 104) rfl c21
  have e_c32 := sw_ne (k := 110) rfl c32
  have e_c48 := sw_ne (k := 112) rfl c48
  have e_c59 := sw_ne (k := 115) rfl c59
  have e_c64 := sw_ne (k := 119) rfl c64
  refine lv_lookup (tgt := 201) hx hb dX2_readsStatement_16 (by decide) (by simp only [Op.lookupswitch.offset]; rw [if_neg (fun q => e_c10 q.symm), if_neg (fun q => e_c21 q.symm), if_neg (fun q => e_c32 q.symm), if_neg (fun q => e_c48 q.symm), if_neg (fun q => e_c59 q.symm), if_neg (fun q => e_c64 q.symm)]) (by decide) ?_
  refine lv_aload_n hx hb dX2_readsStatement_201 rfl (lv_at hl 1 rfl) ?_
  refine lv_dup hx hb dX2_readsStatement_202 rfl ?_
  refine va_get (D := D) (ci := 2) (v := .int (m_place + (1 : Int32))) (C := RX2) (T := TX2) (N := 14) hx hb hts zi_X2_readsStatement_X2 hown hK.1 hP 0 rfl rfl 10 (by decide) (hts _ zk_X2_readsStatement_0) (fun _ h9 => h9) rfl dX2_readsStatement_203 ?_
  refine lv_iconst (v := (1 : Int32)) hx hb dX2_readsStatement_206 (by decide) ?_
  refine lv_isub hx hb dX2_readsStatement_207 ?_
  refine va_put (D := D) (ci := 2) (v := .int ((m_place + (1 : Int32)) - (1 : Int32))) (ty := .int) (C := RX2) (T := TX2) (N := 14) hx hb hts zi_X2_readsStatement_X2 tyX2 tyX2_ok nmX2 hown hK.1 hP hD hS 0 rfl rfl 10 (by decide) (hts _ zk_X2_readsStatement_0) (fun _ h9 => h9) rfl (by decide +kernel) rfl rfl (Nat.le_of_ble_eq_true rfl) dX2_readsStatement_208 (fun H locs hP hD hS => ?_)
  have hP : va_P D zb_cl (zb_M cI ad m_s m_m m_image m_was m_hasImage m_letters m_row m_refused m_letterMany m_rowMany ((m_place + (1 : Int32)) - (1 : Int32)) m_numbers m_cost m_seed) H := hP
  have hD : va_D A (zb_M cI ad m_s m_m m_image m_was m_hasImage m_letters m_row m_refused m_letterMany m_rowMany ((m_place + (1 : Int32)) - (1 : Int32)) m_numbers m_cost m_seed) := hD
  refine lv_iconst (v := (0 : Int32)) hx hb dX2_readsStatement_211 (by decide) ?_
  obtain ⟨rfl, rfl, rfl⟩ := re3 h
  exact zb_zret hx hb hr hlk rfl hP hS dX2_readsStatement_212
abbrev rm_X2_adds : Room := { frames := 1, cells := 0, slots := 0, locals := 21 }
theorem hd_X2_adds : yX2_adds.cls = RX2 ∧ yX2_adds.cls ≠ "java/lang/invoke/MethodHandle" ∧ yX2_adds.cls ≠ "java/lang/invoke/VarHandle" ∧ (parseMethodDescriptor yX2_adds.desc).map (fun d => d.parameters.length) = some 2 := by decide +kernel
theorem zi_X2_adds_X2 : ∀ w ∈ wsX20, w ∈ wsX2_adds := fun _ h => List.mem_cons_of_mem _ (List.mem_append_right _ h)
theorem zk_X2_adds_0 : Cond.fieldLink RX2 9 "GroutingIsFollowedModel" "s" "[I" ∈ wsX2_adds := by decide +kernel
set_option maxHeartbeats 4000000 in
set_option maxRecDepth 100000 in
theorem zc_X2_adds (l : Launch) (D : va_G) (cI : ClassId) (ad : Nat → Nat) (m_s : (Nat → Int32)) (m_m : (Nat → Int32)) (m_image : (Nat → Int32)) (m_was : (Nat → Int32)) (m_hasImage : Int32) (m_letters : (Nat → Int32)) (m_row : (Nat → Int32)) (m_refused : (Nat → Int32)) (m_letterMany : Int32) (m_rowMany : Int32) (m_place : Int32) (m_numbers : (Nat → Int32)) (m_cost : (Nat → Int32)) (m_seed : Int32) (v1 : Int32) (v2 : Int32) (w_m_s : (Nat → Int32)) (h : zf_X2_adds m_s v1 v2 = some w_m_s) : Cn l D cI yX2_adds wsX2_adds rm_X2_adds [.ref (ad 0), .int v1, .int v2] (zb_M cI ad m_s m_m m_image m_was m_hasImage m_letters m_row m_refused m_letterMany m_rowMany m_place m_numbers m_cost m_seed) none (zb_M cI ad w_m_s m_m m_image m_was m_hasImage m_letters m_row m_refused m_letterMany m_rowMany m_place m_numbers m_cost m_seed) := by
  refine zb_ofW (cc := cX2_adds) (maxL := 3) (ret := none) (by decide) rfl (Nat.le_of_ble_eq_true rfl) ?_
  intro p e s m args below meth c A ls hx hb hr hml hts hown hlk hK hP hD hA hl
  have hS : va_S A s.heap s.heap [] := va_S.rf
  have hl : lv_has ls 3 [(0, .ref (ad 0)), (1, .int v1), (2, .int v2)] := hl
  unfold zf_X2_adds at h
  refine lv_aload_n hx hb dX2_adds_0 rfl (lv_at hl 0 rfl) ?_
  refine va_get (D := D) (ci := 2) (v := .ref (ad 1)) (C := RX2) (T := TX2) (N := 14) hx hb hts zi_X2_adds_X2 hown hK.1 hP 0 rfl rfl 0 (by decide) (hts _ zk_X2_adds_0) (fun _ h9 => h9) rfl dX2_adds_1 ?_
  refine lv_aload_n hx hb dX2_adds_4 rfl (lv_at hl 0 rfl) ?_
  refine va_get (D := D) (ci := 2) (v := .ref (ad 1)) (C := RX2) (T := TX2) (N := 14) hx hb hts zi_X2_adds_X2 hown hK.1 hP 0 rfl rfl 0 (by decide) (hts _ zk_X2_adds_0) (fun _ h9 => h9) rfl dX2_adds_5 ?_
  refine lv_iconst (v := (0 : Int32)) hx hb dX2_adds_8 (by decide) ?_
  refine va_iald hx hb hK.1 hP 1 0 rfl rfl (vl_in (by decide)) dX2_adds_9 ?_
  refine lv_iconst (v := (0 : Int32)) hx hb dX2_adds_10 (by decide) ?_
  obtain ⟨r1, g2, h⟩ := bo1 h
  refine zb_callS (As := [.int (m_s (0 : Int32).toNatClampNeg), .int (0 : Int32)]) (rest := [.ref (ad 1)]) ⟨hx, hb, hml, hown, hts⟩ (zc_X2_of l D cI (m_s (0 : Int32).toNatClampNeg) (0 : Int32) r1 g2) (va_cwS 2 hts gX2_adds_X2_of rfl rfl rfl hd_X2_of.2 ⟨Nat.le_of_ble_eq_true rfl, Nat.le_of_ble_eq_true rfl⟩) hK hP hD hS hA (zb_none _) rfl hl.1 rfl (Nat.le_of_ble_eq_true rfl) dX2_adds_11 ⟨Nat.le_refl _, Nat.le_refl _⟩ (fun H locs hP hD hS => ?_)
  refine lv_iload_n hx hb dX2_adds_14 rfl (lv_at hl 1 rfl) ?_
  obtain ⟨h3, h⟩ := it_g h
  refine va_iast hx hb hK.1 hP hD hS 1 0 rfl rfl h3 dX2_adds_15 (fun H locs hP hD hS => ?_)
  have hP : va_P D zb_cl (zb_M cI ad (upd m_s r1.toNatClampNeg v1) m_m m_image m_was m_hasImage m_letters m_row m_refused m_letterMany m_rowMany m_place m_numbers m_cost m_seed) H := hP
  have hD : va_D A (zb_M cI ad (upd m_s r1.toNatClampNeg v1) m_m m_image m_was m_hasImage m_letters m_row m_refused m_letterMany m_rowMany m_place m_numbers m_cost m_seed) := hD
  refine lv_aload_n hx hb dX2_adds_16 rfl (lv_at hl 0 rfl) ?_
  refine va_get (D := D) (ci := 2) (v := .ref (ad 1)) (C := RX2) (T := TX2) (N := 14) hx hb hts zi_X2_adds_X2 hown hK.1 hP 0 rfl rfl 0 (by decide) (hts _ zk_X2_adds_0) (fun _ h9 => h9) rfl dX2_adds_17 ?_
  refine lv_aload_n hx hb dX2_adds_20 rfl (lv_at hl 0 rfl) ?_
  refine va_get (D := D) (ci := 2) (v := .ref (ad 1)) (C := RX2) (T := TX2) (N := 14) hx hb hts zi_X2_adds_X2 hown hK.1 hP 0 rfl rfl 0 (by decide) (hts _ zk_X2_adds_0) (fun _ h9 => h9) rfl dX2_adds_21 ?_
  refine lv_iconst (v := (0 : Int32)) hx hb dX2_adds_24 (by decide) ?_
  refine va_iald hx hb hK.1 hP 1 0 rfl rfl (vl_in (by decide)) dX2_adds_25 ?_
  refine lv_iconst (v := (1 : Int32)) hx hb dX2_adds_26 (by decide) ?_
  obtain ⟨r4, g5, h⟩ := bo1 h
  refine zb_callS (As := [.int ((upd m_s r1.toNatClampNeg v1) (0 : Int32).toNatClampNeg), .int (1 : Int32)]) (rest := [.ref (ad 1)]) ⟨hx, hb, hml, hown, hts⟩ (zc_X2_of l D cI ((upd m_s r1.toNatClampNeg v1) (0 : Int32).toNatClampNeg) (1 : Int32) r4 g5) (va_cwS 2 hts gX2_adds_X2_of rfl rfl rfl hd_X2_of.2 ⟨Nat.le_of_ble_eq_true rfl, Nat.le_of_ble_eq_true rfl⟩) hK hP hD hS hA (zb_none _) rfl hl.1 rfl (Nat.le_of_ble_eq_true rfl) dX2_adds_27 ⟨Nat.le_refl _, Nat.le_refl _⟩ (fun H locs hP hD hS => ?_)
  refine lv_iload_n hx hb dX2_adds_30 rfl (lv_at hl 2 rfl) ?_
  obtain ⟨h6, h⟩ := it_g h
  refine va_iast hx hb hK.1 hP hD hS 1 0 rfl rfl h6 dX2_adds_31 (fun H locs hP hD hS => ?_)
  have hP : va_P D zb_cl (zb_M cI ad (upd (upd m_s r1.toNatClampNeg v1) r4.toNatClampNeg v2) m_m m_image m_was m_hasImage m_letters m_row m_refused m_letterMany m_rowMany m_place m_numbers m_cost m_seed) H := hP
  have hD : va_D A (zb_M cI ad (upd (upd m_s r1.toNatClampNeg v1) r4.toNatClampNeg v2) m_m m_image m_was m_hasImage m_letters m_row m_refused m_letterMany m_rowMany m_place m_numbers m_cost m_seed) := hD
  refine lv_aload_n hx hb dX2_adds_32 rfl (lv_at hl 0 rfl) ?_
  refine va_get (D := D) (ci := 2) (v := .ref (ad 1)) (C := RX2) (T := TX2) (N := 14) hx hb hts zi_X2_adds_X2 hown hK.1 hP 0 rfl rfl 0 (by decide) (hts _ zk_X2_adds_0) (fun _ h9 => h9) rfl dX2_adds_33 ?_
  refine lv_aload_n hx hb dX2_adds_36 rfl (lv_at hl 0 rfl) ?_
  refine va_get (D := D) (ci := 2) (v := .ref (ad 1)) (C := RX2) (T := TX2) (N := 14) hx hb hts zi_X2_adds_X2 hown hK.1 hP 0 rfl rfl 0 (by decide) (hts _ zk_X2_adds_0) (fun _ h9 => h9) rfl dX2_adds_37 ?_
  refine lv_iconst (v := (0 : Int32)) hx hb dX2_adds_40 (by decide) ?_
  refine va_iald hx hb hK.1 hP 1 0 rfl rfl (vl_in (by decide)) dX2_adds_41 ?_
  refine lv_iconst (v := (2 : Int32)) hx hb dX2_adds_42 (by decide) ?_
  obtain ⟨r7, g8, h⟩ := bo1 h
  refine zb_callS (As := [.int ((upd (upd m_s r1.toNatClampNeg v1) r4.toNatClampNeg v2) (0 : Int32).toNatClampNeg), .int (2 : Int32)]) (rest := [.ref (ad 1)]) ⟨hx, hb, hml, hown, hts⟩ (zc_X2_of l D cI ((upd (upd m_s r1.toNatClampNeg v1) r4.toNatClampNeg v2) (0 : Int32).toNatClampNeg) (2 : Int32) r7 g8) (va_cwS 2 hts gX2_adds_X2_of rfl rfl rfl hd_X2_of.2 ⟨Nat.le_of_ble_eq_true rfl, Nat.le_of_ble_eq_true rfl⟩) hK hP hD hS hA (zb_none _) rfl hl.1 rfl (Nat.le_of_ble_eq_true rfl) dX2_adds_43 ⟨Nat.le_refl _, Nat.le_refl _⟩ (fun H locs hP hD hS => ?_)
  refine lv_iconst (v := (0 : Int32)) hx hb dX2_adds_46 (by decide) ?_
  obtain ⟨h9, h⟩ := it_g h
  refine va_iast hx hb hK.1 hP hD hS 1 0 rfl rfl h9 dX2_adds_47 (fun H locs hP hD hS => ?_)
  have hP : va_P D zb_cl (zb_M cI ad (upd (upd (upd m_s r1.toNatClampNeg v1) r4.toNatClampNeg v2) r7.toNatClampNeg (0 : Int32)) m_m m_image m_was m_hasImage m_letters m_row m_refused m_letterMany m_rowMany m_place m_numbers m_cost m_seed) H := hP
  have hD : va_D A (zb_M cI ad (upd (upd (upd m_s r1.toNatClampNeg v1) r4.toNatClampNeg v2) r7.toNatClampNeg (0 : Int32)) m_m m_image m_was m_hasImage m_letters m_row m_refused m_letterMany m_rowMany m_place m_numbers m_cost m_seed) := hD
  refine lv_aload_n hx hb dX2_adds_48 rfl (lv_at hl 0 rfl) ?_
  refine va_get (D := D) (ci := 2) (v := .ref (ad 1)) (C := RX2) (T := TX2) (N := 14) hx hb hts zi_X2_adds_X2 hown hK.1 hP 0 rfl rfl 0 (by decide) (hts _ zk_X2_adds_0) (fun _ h9 => h9) rfl dX2_adds_49 ?_
  refine lv_iconst (v := (0 : Int32)) hx hb dX2_adds_52 (by decide) ?_
  refine lv_dup2_11 hx hb dX2_adds_53 rfl rfl ?_
  refine va_iald hx hb hK.1 hP 1 0 rfl rfl (vl_in (by decide)) dX2_adds_54 ?_
  refine lv_iconst (v := (1 : Int32)) hx hb dX2_adds_55 (by decide) ?_
  refine lv_iadd hx hb dX2_adds_56 ?_
  refine va_iast hx hb hK.1 hP hD hS 1 0 rfl rfl (vl_in (by decide)) dX2_adds_57 (fun H locs hP hD hS => ?_)
  have hP : va_P D zb_cl (zb_M cI ad (upd (upd (upd (upd m_s r1.toNatClampNeg v1) r4.toNatClampNeg v2) r7.toNatClampNeg (0 : Int32)) (0 : Int32).toNatClampNeg (((upd (upd (upd m_s r1.toNatClampNeg v1) r4.toNatClampNeg v2) r7.toNatClampNeg (0 : Int32)) (0 : Int32).toNatClampNeg) + (1 : Int32))) m_m m_image m_was m_hasImage m_letters m_row m_refused m_letterMany m_rowMany m_place m_numbers m_cost m_seed) H := hP
  have hD : va_D A (zb_M cI ad (upd (upd (upd (upd m_s r1.toNatClampNeg v1) r4.toNatClampNeg v2) r7.toNatClampNeg (0 : Int32)) (0 : Int32).toNatClampNeg (((upd (upd (upd m_s r1.toNatClampNeg v1) r4.toNatClampNeg v2) r7.toNatClampNeg (0 : Int32)) (0 : Int32).toNatClampNeg) + (1 : Int32))) m_m m_image m_was m_hasImage m_letters m_row m_refused m_letterMany m_rowMany m_place m_numbers m_cost m_seed) := hD
  obtain rfl := re1 h
  exact zb_vret hx hb hr hlk hP hS dX2_adds_58
abbrev rm_X2_isDone : Room := { frames := 5, cells := 0, slots := 0, locals := 113 }
theorem hd_X2_isDone : yX2_isDone.cls = RX2 ∧ yX2_isDone.cls ≠ "java/lang/invoke/MethodHandle" ∧ yX2_isDone.cls ≠ "java/lang/invoke/VarHandle" ∧ (parseMethodDescriptor yX2_isDone.desc).map (fun d => d.parameters.length) = some 1 := by decide +kernel
theorem zi_X2_isDone_X2 : ∀ w ∈ wsX20, w ∈ wsX2_isDone := fun _ h => List.mem_cons_of_mem _ (List.mem_append_right _ h)
theorem zk_X2_isDone_0 : Cond.fieldLink RX2 31 "GroutingIsFollowedModel" "numbers" "[I" ∈ wsX2_isDone := by decide +kernel
theorem zk_X2_isDone_1 : Cond.fieldLink RX2 9 "GroutingIsFollowedModel" "s" "[I" ∈ wsX2_isDone := by decide +kernel
set_option maxHeartbeats 4000000 in
set_option maxRecDepth 100000 in
theorem zc_X2_isDone (l : Launch) (D : va_G) (cI : ClassId) (ad : Nat → Nat) (m_s : (Nat → Int32)) (m_m : (Nat → Int32)) (m_image : (Nat → Int32)) (m_was : (Nat → Int32)) (m_hasImage : Int32) (m_letters : (Nat → Int32)) (m_row : (Nat → Int32)) (m_refused : (Nat → Int32)) (m_letterMany : Int32) (m_rowMany : Int32) (m_place : Int32) (m_numbers : (Nat → Int32)) (m_cost : (Nat → Int32)) (m_seed : Int32) (v1 : Int32) (r0 : Int32) (w_m_s : (Nat → Int32)) (h : zf_X2_isDone m_s m_numbers v1 = some (r0, w_m_s)) : Cn l D cI yX2_isDone wsX2_isDone rm_X2_isDone [.ref (ad 0), .int v1] (zb_M cI ad m_s m_m m_image m_was m_hasImage m_letters m_row m_refused m_letterMany m_rowMany m_place m_numbers m_cost m_seed) (some (.int r0)) (zb_M cI ad w_m_s m_m m_image m_was m_hasImage m_letters m_row m_refused m_letterMany m_rowMany m_place m_numbers m_cost m_seed) := by
  refine zb_ofW (cc := cX2_isDone) (maxL := 4) (ret := (some .boolean)) (by decide) rfl (Nat.le_of_ble_eq_true rfl) ?_
  intro p e s m args below meth c A ls hx hb hr hml hts hown hlk hK hP hD hA hl
  have hS : va_S A s.heap s.heap [] := va_S.rf
  have hl : lv_has ls 4 [(0, .ref (ad 0)), (1, .int v1)] := hl
  unfold zf_X2_isDone at h
  refine lv_aload_n hx hb dX2_isDone_0 rfl (lv_at hl 0 rfl) ?_
  refine va_get (D := D) (ci := 2) (v := .ref (ad 8)) (C := RX2) (T := TX2) (N := 14) hx hb hts zi_X2_isDone_X2 hown hK.1 hP 0 rfl rfl 11 (by decide) (hts _ zk_X2_isDone_0) (fun _ h9 => h9) rfl dX2_isDone_1 ?_
  refine lv_iconst (v := (0 : Int32)) hx hb dX2_isDone_4 (by decide) ?_
  refine va_iald hx hb hK.1 hP 8 0 rfl rfl (vl_in (by decide)) dX2_isDone_5 ?_
  refine lv_istore_n (lv' := [(2, .int (m_numbers (0 : Int32).toNatClampNeg)), (0, .ref (ad 0)), (1, .int v1)]) hx hb dX2_isDone_6 rfl hl (by decide) rfl (fun ls hl => ?_)
  refine lv_aload_n hx hb dX2_isDone_7 rfl (lv_at hl 1 rfl) ?_
  refine va_get (D := D) (ci := 2) (v := .ref (ad 8)) (C := RX2) (T := TX2) (N := 14) hx hb hts zi_X2_isDone_X2 hown hK.1 hP 0 rfl rfl 11 (by decide) (hts _ zk_X2_isDone_0) (fun _ h9 => h9) rfl dX2_isDone_8 ?_
  refine lv_iconst (v := (1 : Int32)) hx hb dX2_isDone_11 (by decide) ?_
  refine va_iald hx hb hK.1 hP 8 0 rfl rfl (vl_in (by decide)) dX2_isDone_12 ?_
  refine lv_istore_n (lv' := [(3, .int (m_numbers (1 : Int32).toNatClampNeg)), (2, .int (m_numbers (0 : Int32).toNatClampNeg)), (0, .ref (ad 0)), (1, .int v1)]) hx hb dX2_isDone_13 rfl hl (by decide) rfl (fun ls hl => ?_)
  refine lv_iload_n hx hb dX2_isDone_14 rfl (lv_at hl 3 rfl) ?_
  by_cases c1 : v1 = (97 : Int32)
  · replace h := it_t c1 h
    have e9 : v1.toInt = 97 := by rw [c1]; rfl
    refine lv_lookup (tgt := 184) hx hb dX2_isDone_15 (by decide) (by rw [e9]; try rfl) (by decide) ?_
    refine lv_aload_n hx hb dX2_isDone_184 rfl (lv_at hl 2 rfl) ?_
    refine lv_iload_n hx hb dX2_isDone_185 rfl (lv_at hl 1 rfl) ?_
    obtain ⟨r2, g3, h⟩ := bo1 h
    refine zb_callV (As := [.int (m_numbers (0 : Int32).toNatClampNeg)]) (rest := []) ⟨hx, hb, hml, hown, hts⟩ (zc_X2_isPerson l D cI ad m_s m_m m_image m_was m_hasImage m_letters m_row m_refused m_letterMany m_rowMany m_place m_numbers m_cost m_seed (m_numbers (0 : Int32).toNatClampNeg) r2 g3) (cwV 1 hts gX2_isDone_X2_isPerson rfl rfl rfl hd_X2_isPerson ⟨Nat.le_of_ble_eq_true rfl, Nat.le_of_ble_eq_true rfl⟩) hK hP hD hS hA (zb_sM) (q0 := 0) rfl rfl rfl hl.1 rfl (Nat.le_of_ble_eq_true rfl) dX2_isDone_186 ⟨Nat.le_refl _, Nat.le_refl _⟩ (fun H locs hP hD hS => ?_)
    refine lv_if_eq (tgt := 199) hx hb dX2_isDone_189 (by decide) (fun c4 => ?_) (fun c4 => ?_)
    · replace h := it_t c4 h
      refine lv_iconst (v := (0 : Int32)) hx hb dX2_isDone_199 (by decide) ?_
      obtain ⟨rfl, rfl⟩ := re2 h
      exact zb_zret hx hb hr hlk rfl hP hS dX2_isDone_200
    · replace h := it_f c4 h
      refine lv_iload_n hx hb dX2_isDone_192 rfl (lv_at hl 0 rfl) ?_
      obtain ⟨r5, g6, h⟩ := bo1 h
      refine zb_callS (As := [.int (m_numbers (1 : Int32).toNatClampNeg)]) (rest := []) ⟨hx, hb, hml, hown, hts⟩ (zc_X2_isNode l D cI (m_numbers (1 : Int32).toNatClampNeg) r5 g6) (va_cwS 1 hts gX2_isDone_X2_isNode rfl rfl rfl hd_X2_isNode.2 ⟨Nat.le_of_ble_eq_true rfl, Nat.le_of_ble_eq_true rfl⟩) hK hP hD hS hA (zb_none _) rfl hl.1 rfl (Nat.le_of_ble_eq_true rfl) dX2_isDone_193 ⟨Nat.le_refl _, Nat.le_refl _⟩ (fun H locs hP hD hS => ?_)
      refine lv_if_ne (tgt := 201) hx hb dX2_isDone_196 (by decide) (fun c7 => ?_) (fun c7 => ?_)
      · replace h := it_f c7 h
        refine lv_aload_n hx hb dX2_isDone_201 rfl (lv_at hl 2 rfl) ?_
        refine va_get (D := D) (ci := 2) (v := .ref (ad 1)) (C := RX2) (T := TX2) (N := 14) hx hb hts zi_X2_isDone_X2 hown hK.1 hP 0 rfl rfl 0 (by decide) (hts _ zk_X2_isDone_1) (fun _ h9 => h9) rfl dX2_isDone_202 ?_
        refine lv_iload_n hx hb dX2_isDone_205 rfl (lv_at hl 1 rfl) ?_
        refine lv_iconst (v := (0 : Int32)) hx hb dX2_isDone_206 (by decide) ?_
        obtain ⟨r8, g9, h⟩ := bo1 h
        refine zb_callS (As := [.int (m_numbers (0 : Int32).toNatClampNeg), .int (0 : Int32)]) (rest := [.ref (ad 1)]) ⟨hx, hb, hml, hown, hts⟩ (zc_X2_of l D cI (m_numbers (0 : Int32).toNatClampNeg) (0 : Int32) r8 g9) (va_cwS 2 hts gX2_isDone_X2_of rfl rfl rfl hd_X2_of.2 ⟨Nat.le_of_ble_eq_true rfl, Nat.le_of_ble_eq_true rfl⟩) hK hP hD hS hA (zb_none _) rfl hl.1 rfl (Nat.le_of_ble_eq_true rfl) dX2_isDone_207 ⟨Nat.le_refl _, Nat.le_refl _⟩ (fun H locs hP hD hS => ?_)
        refine lv_iload_n hx hb dX2_isDone_210 rfl (lv_at hl 0 rfl) ?_
        obtain ⟨h10, h⟩ := it_g h
        refine va_iast hx hb hK.1 hP hD hS 1 0 rfl rfl h10 dX2_isDone_211 (fun H locs hP hD hS => ?_)
        have hP : va_P D zb_cl (zb_M cI ad (upd m_s r8.toNatClampNeg (m_numbers (1 : Int32).toNatClampNeg)) m_m m_image m_was m_hasImage m_letters m_row m_refused m_letterMany m_rowMany m_place m_numbers m_cost m_seed) H := hP
        have hD : va_D A (zb_M cI ad (upd m_s r8.toNatClampNeg (m_numbers (1 : Int32).toNatClampNeg)) m_m m_image m_was m_hasImage m_letters m_row m_refused m_letterMany m_rowMany m_place m_numbers m_cost m_seed) := hD
        refine lv_iconst (v := (1 : Int32)) hx hb dX2_isDone_212 (by decide) ?_
        obtain ⟨rfl, rfl⟩ := re2 h
        exact zb_zret hx hb hr hlk rfl hP hS dX2_isDone_213
      · replace h := it_t c7 h
        refine lv_iconst (v := (0 : Int32)) hx hb dX2_isDone_199 (by decide) ?_
        obtain ⟨rfl, rfl⟩ := re2 h
        exact zb_zret hx hb hr hlk rfl hP hS dX2_isDone_200
  replace h := it_f c1 h
  by_cases c11 : v1 = (104 : Int32)
  · replace h := it_t c11 h
    have e9 : v1.toInt = 104 := by rw [c11]; rfl
    refine lv_lookup (tgt := 154) hx hb dX2_isDone_15 (by decide) (by rw [e9]; try rfl) (by decide) ?_
    refine lv_aload_n hx hb dX2_isDone_154 rfl (lv_at hl 2 rfl) ?_
    refine lv_iload_n hx hb dX2_isDone_155 rfl (lv_at hl 1 rfl) ?_
    obtain ⟨r12, g13, h⟩ := bo1 h
    refine zb_callV (As := [.int (m_numbers (0 : Int32).toNatClampNeg)]) (rest := []) ⟨hx, hb, hml, hown, hts⟩ (zc_X2_isPerson l D cI ad m_s m_m m_image m_was m_hasImage m_letters m_row m_refused m_letterMany m_rowMany m_place m_numbers m_cost m_seed (m_numbers (0 : Int32).toNatClampNeg) r12 g13) (cwV 1 hts gX2_isDone_X2_isPerson rfl rfl rfl hd_X2_isPerson ⟨Nat.le_of_ble_eq_true rfl, Nat.le_of_ble_eq_true rfl⟩) hK hP hD hS hA (zb_sM) (q0 := 0) rfl rfl rfl hl.1 rfl (Nat.le_of_ble_eq_true rfl) dX2_isDone_156 ⟨Nat.le_refl _, Nat.le_refl _⟩ (fun H locs hP hD hS => ?_)
    refine lv_if_eq (tgt := 169) hx hb dX2_isDone_159 (by decide) (fun c14 => ?_) (fun c14 => ?_)
    · replace h := it_t c14 h
      refine lv_iconst (v := (0 : Int32)) hx hb dX2_isDone_169 (by decide) ?_
      obtain ⟨rfl, rfl⟩ := re2 h
      exact zb_zret hx hb hr hlk rfl hP hS dX2_isDone_170
    · replace h := it_f c14 h
      refine lv_iload_n hx hb dX2_isDone_162 rfl (lv_at hl 0 rfl) ?_
      obtain ⟨r15, g16, h⟩ := bo1 h
      refine zb_callS (As := [.int (m_numbers (1 : Int32).toNatClampNeg)]) (rest := []) ⟨hx, hb, hml, hown, hts⟩ (zc_X2_isWay l D cI (m_numbers (1 : Int32).toNatClampNeg) r15 g16) (va_cwS 1 hts gX2_isDone_X2_isWay rfl rfl rfl hd_X2_isWay.2 ⟨Nat.le_of_ble_eq_true rfl, Nat.le_of_ble_eq_true rfl⟩) hK hP hD hS hA (zb_none _) rfl hl.1 rfl (Nat.le_of_ble_eq_true rfl) dX2_isDone_163 ⟨Nat.le_refl _, Nat.le_refl _⟩ (fun H locs hP hD hS => ?_)
      refine lv_if_ne (tgt := 171) hx hb dX2_isDone_166 (by decide) (fun c17 => ?_) (fun c17 => ?_)
      · replace h := it_f c17 h
        refine lv_aload_n hx hb dX2_isDone_171 rfl (lv_at hl 2 rfl) ?_
        refine va_get (D := D) (ci := 2) (v := .ref (ad 1)) (C := RX2) (T := TX2) (N := 14) hx hb hts zi_X2_isDone_X2 hown hK.1 hP 0 rfl rfl 0 (by decide) (hts _ zk_X2_isDone_1) (fun _ h9 => h9) rfl dX2_isDone_172 ?_
        refine lv_iload_n hx hb dX2_isDone_175 rfl (lv_at hl 1 rfl) ?_
        refine lv_iconst (v := (1 : Int32)) hx hb dX2_isDone_176 (by decide) ?_
        obtain ⟨r18, g19, h⟩ := bo1 h
        refine zb_callS (As := [.int (m_numbers (0 : Int32).toNatClampNeg), .int (1 : Int32)]) (rest := [.ref (ad 1)]) ⟨hx, hb, hml, hown, hts⟩ (zc_X2_of l D cI (m_numbers (0 : Int32).toNatClampNeg) (1 : Int32) r18 g19) (va_cwS 2 hts gX2_isDone_X2_of rfl rfl rfl hd_X2_of.2 ⟨Nat.le_of_ble_eq_true rfl, Nat.le_of_ble_eq_true rfl⟩) hK hP hD hS hA (zb_none _) rfl hl.1 rfl (Nat.le_of_ble_eq_true rfl) dX2_isDone_177 ⟨Nat.le_refl _, Nat.le_refl _⟩ (fun H locs hP hD hS => ?_)
        refine lv_iload_n hx hb dX2_isDone_180 rfl (lv_at hl 0 rfl) ?_
        obtain ⟨h20, h⟩ := it_g h
        refine va_iast hx hb hK.1 hP hD hS 1 0 rfl rfl h20 dX2_isDone_181 (fun H locs hP hD hS => ?_)
        have hP : va_P D zb_cl (zb_M cI ad (upd m_s r18.toNatClampNeg (m_numbers (1 : Int32).toNatClampNeg)) m_m m_image m_was m_hasImage m_letters m_row m_refused m_letterMany m_rowMany m_place m_numbers m_cost m_seed) H := hP
        have hD : va_D A (zb_M cI ad (upd m_s r18.toNatClampNeg (m_numbers (1 : Int32).toNatClampNeg)) m_m m_image m_was m_hasImage m_letters m_row m_refused m_letterMany m_rowMany m_place m_numbers m_cost m_seed) := hD
        refine lv_iconst (v := (1 : Int32)) hx hb dX2_isDone_182 (by decide) ?_
        obtain ⟨rfl, rfl⟩ := re2 h
        exact zb_zret hx hb hr hlk rfl hP hS dX2_isDone_183
      · replace h := it_t c17 h
        refine lv_iconst (v := (0 : Int32)) hx hb dX2_isDone_169 (by decide) ?_
        obtain ⟨rfl, rfl⟩ := re2 h
        exact zb_zret hx hb hr hlk rfl hP hS dX2_isDone_170
  replace h := it_f c11 h
  by_cases c21 : v1 = (110 : Int32)
  · replace h := it_t c21 h
    have e9 : v1.toInt = 110 := by rw [c21]; rfl
    refine lv_lookup (tgt := 64) hx hb dX2_isDone_15 (by decide) (by rw [e9]; try rfl) (by decide) ?_
    refine lv_iload_n hx hb dX2_isDone_64 rfl (lv_at hl 1 rfl) ?_
    obtain ⟨r22, g23, h⟩ := bo1 h
    refine zb_callS (As := [.int (m_numbers (0 : Int32).toNatClampNeg)]) (rest := []) ⟨hx, hb, hml, hown, hts⟩ (zc_X2_isNode l D cI (m_numbers (0 : Int32).toNatClampNeg) r22 g23) (va_cwS 1 hts gX2_isDone_X2_isNode rfl rfl rfl hd_X2_isNode.2 ⟨Nat.le_of_ble_eq_true rfl, Nat.le_of_ble_eq_true rfl⟩) hK hP hD hS hA (zb_none _) rfl hl.1 rfl (Nat.le_of_ble_eq_true rfl) dX2_isDone_65 ⟨Nat.le_refl _, Nat.le_refl _⟩ (fun H locs hP hD hS => ?_)
    refine lv_if_ne (tgt := 73) hx hb dX2_isDone_68 (by decide) (fun c24 => ?_) (fun c24 => ?_)
    · replace h := it_f c24 h
      refine lv_aload_n hx hb dX2_isDone_73 rfl (lv_at hl 2 rfl) ?_
      refine va_get (D := D) (ci := 2) (v := .ref (ad 1)) (C := RX2) (T := TX2) (N := 14) hx hb hts zi_X2_isDone_X2 hown hK.1 hP 0 rfl rfl 0 (by decide) (hts _ zk_X2_isDone_1) (fun _ h9 => h9) rfl dX2_isDone_74 ?_
      refine lv_iconst (v := (3 : Int32)) hx hb dX2_isDone_77 (by decide) ?_
      refine lv_iload_n hx hb dX2_isDone_78 rfl (lv_at hl 1 rfl) ?_
      refine lv_iadd hx hb dX2_isDone_79 ?_
      refine lv_iload_n hx hb dX2_isDone_80 rfl (lv_at hl 0 rfl) ?_
      obtain ⟨h25, h⟩ := it_g h
      refine va_iast hx hb hK.1 hP hD hS 1 0 rfl rfl h25 dX2_isDone_81 (fun H locs hP hD hS => ?_)
      have hP : va_P D zb_cl (zb_M cI ad (upd m_s ((3 : Int32) + (m_numbers (0 : Int32).toNatClampNeg)).toNatClampNeg (m_numbers (1 : Int32).toNatClampNeg)) m_m m_image m_was m_hasImage m_letters m_row m_refused m_letterMany m_rowMany m_place m_numbers m_cost m_seed) H := hP
      have hD : va_D A (zb_M cI ad (upd m_s ((3 : Int32) + (m_numbers (0 : Int32).toNatClampNeg)).toNatClampNeg (m_numbers (1 : Int32).toNatClampNeg)) m_m m_image m_was m_hasImage m_letters m_row m_refused m_letterMany m_rowMany m_place m_numbers m_cost m_seed) := hD
      refine lv_aload_n hx hb dX2_isDone_82 rfl (lv_at hl 2 rfl) ?_
      refine va_get (D := D) (ci := 2) (v := .ref (ad 1)) (C := RX2) (T := TX2) (N := 14) hx hb hts zi_X2_isDone_X2 hown hK.1 hP 0 rfl rfl 0 (by decide) (hts _ zk_X2_isDone_1) (fun _ h9 => h9) rfl dX2_isDone_83 ?_
      refine lv_bipush (v := (33 : Int32)) hx hb dX2_isDone_86 (by decide) ?_
      refine lv_iload_n hx hb dX2_isDone_88 rfl (lv_at hl 1 rfl) ?_
      refine lv_iadd hx hb dX2_isDone_89 ?_
      refine lv_aload_n hx hb dX2_isDone_90 rfl (lv_at hl 2 rfl) ?_
      refine va_get (D := D) (ci := 2) (v := .ref (ad 8)) (C := RX2) (T := TX2) (N := 14) hx hb hts zi_X2_isDone_X2 hown hK.1 hP 0 rfl rfl 11 (by decide) (hts _ zk_X2_isDone_0) (fun _ h9 => h9) rfl dX2_isDone_91 ?_
      refine lv_iconst (v := (2 : Int32)) hx hb dX2_isDone_94 (by decide) ?_
      refine va_iald hx hb hK.1 hP 8 0 rfl rfl (vl_in (by decide)) dX2_isDone_95 ?_
      obtain ⟨h26, h⟩ := it_g h
      refine va_iast hx hb hK.1 hP hD hS 1 0 rfl rfl h26 dX2_isDone_96 (fun H locs hP hD hS => ?_)
      have hP : va_P D zb_cl (zb_M cI ad (upd (upd m_s ((3 : Int32) + (m_numbers (0 : Int32).toNatClampNeg)).toNatClampNeg (m_numbers (1 : Int32).toNatClampNeg)) ((33 : Int32) + (m_numbers (0 : Int32).toNatClampNeg)).toNatClampNeg (m_numbers (2 : Int32).toNatClampNeg)) m_m m_image m_was m_hasImage m_letters m_row m_refused m_letterMany m_rowMany m_place m_numbers m_cost m_seed) H := hP
      have hD : va_D A (zb_M cI ad (upd (upd m_s ((3 : Int32) + (m_numbers (0 : Int32).toNatClampNeg)).toNatClampNeg (m_numbers (1 : Int32).toNatClampNeg)) ((33 : Int32) + (m_numbers (0 : Int32).toNatClampNeg)).toNatClampNeg (m_numbers (2 : Int32).toNatClampNeg)) m_m m_image m_was m_hasImage m_letters m_row m_refused m_letterMany m_rowMany m_place m_numbers m_cost m_seed) := hD
      refine lv_iconst (v := (1 : Int32)) hx hb dX2_isDone_97 (by decide) ?_
      obtain ⟨rfl, rfl⟩ := re2 h
      exact zb_zret hx hb hr hlk rfl hP hS dX2_isDone_98
    · replace h := it_t c24 h
      refine lv_iconst (v := (0 : Int32)) hx hb dX2_isDone_71 (by decide) ?_
      obtain ⟨rfl, rfl⟩ := re2 h
      exact zb_zret hx hb hr hlk rfl hP hS dX2_isDone_72
  replace h := it_f c21 h
  by_cases c27 : v1 = (112 : Int32)
  · replace h := it_t c27 h
    have e9 : v1.toInt = 112 := by rw [c27]; rfl
    refine lv_lookup (tgt := 120) hx hb dX2_isDone_15 (by decide) (by rw [e9]; try rfl) (by decide) ?_
    refine lv_iload_n hx hb dX2_isDone_120 rfl (lv_at hl 1 rfl) ?_
    obtain ⟨r28, g29, h⟩ := bo1 h
    refine zb_callS (As := [.int (m_numbers (0 : Int32).toNatClampNeg)]) (rest := []) ⟨hx, hb, hml, hown, hts⟩ (zc_X2_isNode l D cI (m_numbers (0 : Int32).toNatClampNeg) r28 g29) (va_cwS 1 hts gX2_isDone_X2_isNode rfl rfl rfl hd_X2_isNode.2 ⟨Nat.le_of_ble_eq_true rfl, Nat.le_of_ble_eq_true rfl⟩) hK hP hD hS hA (zb_none _) rfl hl.1 rfl (Nat.le_of_ble_eq_true rfl) dX2_isDone_121 ⟨Nat.le_refl _, Nat.le_refl _⟩ (fun H locs hP hD hS => ?_)
    refine lv_if_eq (tgt := 144) hx hb dX2_isDone_124 (by decide) (fun c30 => ?_) (fun c30 => ?_)
    · replace h := it_t c30 h
      refine lv_iconst (v := (0 : Int32)) hx hb dX2_isDone_144 (by decide) ?_
      obtain ⟨rfl, rfl⟩ := re2 h
      exact zb_zret hx hb hr hlk rfl hP hS dX2_isDone_145
    · replace h := it_f c30 h
      refine lv_iload_n hx hb dX2_isDone_127 rfl (lv_at hl 0 rfl) ?_
      obtain ⟨r31, g32, h⟩ := bo1 h
      refine zb_callS (As := [.int (m_numbers (1 : Int32).toNatClampNeg)]) (rest := []) ⟨hx, hb, hml, hown, hts⟩ (zc_X2_isWay l D cI (m_numbers (1 : Int32).toNatClampNeg) r31 g32) (va_cwS 1 hts gX2_isDone_X2_isWay rfl rfl rfl hd_X2_isWay.2 ⟨Nat.le_of_ble_eq_true rfl, Nat.le_of_ble_eq_true rfl⟩) hK hP hD hS hA (zb_none _) rfl hl.1 rfl (Nat.le_of_ble_eq_true rfl) dX2_isDone_128 ⟨Nat.le_refl _, Nat.le_refl _⟩ (fun H locs hP hD hS => ?_)
      refine lv_if_eq (tgt := 144) hx hb dX2_isDone_131 (by decide) (fun c33 => ?_) (fun c33 => ?_)
      · replace h := it_t c33 h
        refine lv_iconst (v := (0 : Int32)) hx hb dX2_isDone_144 (by decide) ?_
        obtain ⟨rfl, rfl⟩ := re2 h
        exact zb_zret hx hb hr hlk rfl hP hS dX2_isDone_145
      · replace h := it_f c33 h
        refine lv_aload_n hx hb dX2_isDone_134 rfl (lv_at hl 2 rfl) ?_
        refine va_get (D := D) (ci := 2) (v := .ref (ad 1)) (C := RX2) (T := TX2) (N := 14) hx hb hts zi_X2_isDone_X2 hown hK.1 hP 0 rfl rfl 0 (by decide) (hts _ zk_X2_isDone_1) (fun _ h9 => h9) rfl dX2_isDone_135 ?_
        refine lv_iconst (v := (0 : Int32)) hx hb dX2_isDone_138 (by decide) ?_
        refine va_iald hx hb hK.1 hP 1 0 rfl rfl (vl_in (by decide)) dX2_isDone_139 ?_
        refine lv_iconst (v := (4 : Int32)) hx hb dX2_isDone_140 (by decide) ?_
        refine lv_icmp_ne (tgt := 146) hx hb dX2_isDone_141 (by decide) (fun c34 => ?_) (fun c34 => ?_)
        · replace h := it_f c34 h
          refine lv_aload_n hx hb dX2_isDone_146 rfl (lv_at hl 2 rfl) ?_
          refine lv_iload_n hx hb dX2_isDone_147 rfl (lv_at hl 1 rfl) ?_
          refine lv_iload_n hx hb dX2_isDone_148 rfl (lv_at hl 0 rfl) ?_
          obtain ⟨n35, g36, h⟩ := bo1 h
          refine zb_callV (As := [.int (m_numbers (0 : Int32).toNatClampNeg), .int (m_numbers (1 : Int32).toNatClampNeg)]) (rest := []) ⟨hx, hb, hml, hown, hts⟩ (zc_X2_adds l D cI ad m_s m_m m_image m_was m_hasImage m_letters m_row m_refused m_letterMany m_rowMany m_place m_numbers m_cost m_seed (m_numbers (0 : Int32).toNatClampNeg) (m_numbers (1 : Int32).toNatClampNeg) n35 g36) (cwV 2 hts gX2_isDone_X2_adds rfl rfl rfl hd_X2_adds ⟨Nat.le_of_ble_eq_true rfl, Nat.le_of_ble_eq_true rfl⟩) hK hP hD hS hA (zb_sM) (q0 := 0) rfl rfl rfl hl.1 rfl (Nat.le_of_ble_eq_true rfl) dX2_isDone_149 ⟨Nat.le_refl _, Nat.le_refl _⟩ (fun H locs hP hD hS => ?_)
          refine lv_iconst (v := (1 : Int32)) hx hb dX2_isDone_152 (by decide) ?_
          obtain ⟨rfl, rfl⟩ := re2 h
          exact zb_zret hx hb hr hlk rfl hP hS dX2_isDone_153
        · replace h := it_t c34 h
          refine lv_iconst (v := (0 : Int32)) hx hb dX2_isDone_144 (by decide) ?_
          obtain ⟨rfl, rfl⟩ := re2 h
          exact zb_zret hx hb hr hlk rfl hP hS dX2_isDone_145
  replace h := it_f c27 h
  by_cases c37 : v1 = (119 : Int32)
  · replace h := it_t c37 h
    have e9 : v1.toInt = 119 := by rw [c37]; rfl
    refine lv_lookup (tgt := 99) hx hb dX2_isDone_15 (by decide) (by rw [e9]; try rfl) (by decide) ?_
    refine lv_iload_n hx hb dX2_isDone_99 rfl (lv_at hl 1 rfl) ?_
    obtain ⟨r38, g39, h⟩ := bo1 h
    refine zb_callS (As := [.int (m_numbers (0 : Int32).toNatClampNeg)]) (rest := []) ⟨hx, hb, hml, hown, hts⟩ (zc_X2_isNode l D cI (m_numbers (0 : Int32).toNatClampNeg) r38 g39) (va_cwS 1 hts gX2_isDone_X2_isNode rfl rfl rfl hd_X2_isNode.2 ⟨Nat.le_of_ble_eq_true rfl, Nat.le_of_ble_eq_true rfl⟩) hK hP hD hS hA (zb_none _) rfl hl.1 rfl (Nat.le_of_ble_eq_true rfl) dX2_isDone_100 ⟨Nat.le_refl _, Nat.le_refl _⟩ (fun H locs hP hD hS => ?_)
    refine lv_if_ne (tgt := 108) hx hb dX2_isDone_103 (by decide) (fun c40 => ?_) (fun c40 => ?_)
    · replace h := it_f c40 h
      refine lv_aload_n hx hb dX2_isDone_108 rfl (lv_at hl 2 rfl) ?_
      refine va_get (D := D) (ci := 2) (v := .ref (ad 1)) (C := RX2) (T := TX2) (N := 14) hx hb hts zi_X2_isDone_X2 hown hK.1 hP 0 rfl rfl 0 (by decide) (hts _ zk_X2_isDone_1) (fun _ h9 => h9) rfl dX2_isDone_109 ?_
      refine lv_bipush (v := (63 : Int32)) hx hb dX2_isDone_112 (by decide) ?_
      refine lv_iload_n hx hb dX2_isDone_114 rfl (lv_at hl 1 rfl) ?_
      refine lv_iadd hx hb dX2_isDone_115 ?_
      refine lv_iload_n hx hb dX2_isDone_116 rfl (lv_at hl 0 rfl) ?_
      obtain ⟨h41, h⟩ := it_g h
      refine va_iast hx hb hK.1 hP hD hS 1 0 rfl rfl h41 dX2_isDone_117 (fun H locs hP hD hS => ?_)
      have hP : va_P D zb_cl (zb_M cI ad (upd m_s ((63 : Int32) + (m_numbers (0 : Int32).toNatClampNeg)).toNatClampNeg (m_numbers (1 : Int32).toNatClampNeg)) m_m m_image m_was m_hasImage m_letters m_row m_refused m_letterMany m_rowMany m_place m_numbers m_cost m_seed) H := hP
      have hD : va_D A (zb_M cI ad (upd m_s ((63 : Int32) + (m_numbers (0 : Int32).toNatClampNeg)).toNatClampNeg (m_numbers (1 : Int32).toNatClampNeg)) m_m m_image m_was m_hasImage m_letters m_row m_refused m_letterMany m_rowMany m_place m_numbers m_cost m_seed) := hD
      refine lv_iconst (v := (1 : Int32)) hx hb dX2_isDone_118 (by decide) ?_
      obtain ⟨rfl, rfl⟩ := re2 h
      exact zb_zret hx hb hr hlk rfl hP hS dX2_isDone_119
    · replace h := it_t c40 h
      refine lv_iconst (v := (0 : Int32)) hx hb dX2_isDone_106 (by decide) ?_
      obtain ⟨rfl, rfl⟩ := re2 h
      exact zb_zret hx hb hr hlk rfl hP hS dX2_isDone_107
  replace h := it_f c37 h
  have e_c1 := sw_ne (k := 97) rfl c1
  have e_c11 := sw_ne (k := 104) rfl c11
  have e_c21 := sw_ne (k := 110) rfl c21
  have e_c27 := sw_ne (k := 112) rfl c27
  have e_c37 := sw_ne (k := 119) rfl c37
  refine lv_lookup (tgt := 214) hx hb dX2_isDone_15 (by decide) (by simp only [Op.lookupswitch.offset]; rw [if_neg (fun q => e_c1 q.symm), if_neg (fun q => e_c11 q.symm), if_neg (fun q => e_c21 q.symm), if_neg (fun q => e_c27 q.symm), if_neg (fun q => e_c37 q.symm)]) (by decide) ?_
  refine lv_iload_n hx hb dX2_isDone_214 rfl (lv_at hl 1 rfl) ?_
  refine lv_iconst (v := (1 : Int32)) hx hb dX2_isDone_215 (by decide) ?_
  refine lv_bipush (v := (60 : Int32)) hx hb dX2_isDone_216 (by decide) ?_
  obtain ⟨r42, g43, h⟩ := bo1 h
  refine zb_callS (As := [.int (m_numbers (0 : Int32).toNatClampNeg), .int (1 : Int32), .int (60 : Int32)]) (rest := []) ⟨hx, hb, hml, hown, hts⟩ (zc_X2_isIn l D cI (m_numbers (0 : Int32).toNatClampNeg) (1 : Int32) (60 : Int32) r42 g43) (va_cwS 3 hts gX2_isDone_X2_isIn rfl rfl rfl hd_X2_isIn.2 ⟨Nat.le_of_ble_eq_true rfl, Nat.le_of_ble_eq_true rfl⟩) hK hP hD hS hA (zb_none _) rfl hl.1 rfl (Nat.le_of_ble_eq_true rfl) dX2_isDone_218 ⟨Nat.le_refl _, Nat.le_refl _⟩ (fun H locs hP hD hS => ?_)
  refine lv_if_eq (tgt := 238) hx hb dX2_isDone_221 (by decide) (fun c44 => ?_) (fun c44 => ?_)
  · replace h := it_t c44 h
    refine lv_iconst (v := (0 : Int32)) hx hb dX2_isDone_238 (by decide) ?_
    obtain ⟨rfl, rfl⟩ := re2 h
    exact zb_zret hx hb hr hlk rfl hP hS dX2_isDone_239
  · replace h := it_f c44 h
    refine lv_aload_n hx hb dX2_isDone_224 rfl (lv_at hl 2 rfl) ?_
    refine va_get (D := D) (ci := 2) (v := .ref (ad 1)) (C := RX2) (T := TX2) (N := 14) hx hb hts zi_X2_isDone_X2 hown hK.1 hP 0 rfl rfl 0 (by decide) (hts _ zk_X2_isDone_1) (fun _ h9 => h9) rfl dX2_isDone_225 ?_
    refine lv_iconst (v := (1 : Int32)) hx hb dX2_isDone_228 (by decide) ?_
    refine va_iald hx hb hK.1 hP 1 0 rfl rfl (vl_in (by decide)) dX2_isDone_229 ?_
    refine lv_iload_n hx hb dX2_isDone_230 rfl (lv_at hl 1 rfl) ?_
    refine lv_iadd hx hb dX2_isDone_231 ?_
    refine lv_sipush (v := (999 : Int32)) hx hb dX2_isDone_232 (by decide) ?_
    refine lv_icmp_le (tgt := 240) hx hb dX2_isDone_235 (by decide) (fun c45 => ?_) (fun c45 => ?_)
    · replace h := it_t c45 h
      refine lv_aload_n hx hb dX2_isDone_240 rfl (lv_at hl 2 rfl) ?_
      refine va_get (D := D) (ci := 2) (v := .ref (ad 1)) (C := RX2) (T := TX2) (N := 14) hx hb hts zi_X2_isDone_X2 hown hK.1 hP 0 rfl rfl 0 (by decide) (hts _ zk_X2_isDone_1) (fun _ h9 => h9) rfl dX2_isDone_241 ?_
      refine lv_iload_n hx hb dX2_isDone_244 rfl (lv_at hl 1 rfl) ?_
      obtain ⟨n46, g47, h⟩ := bo1 h
      refine zb_callS (As := [.ref (ad 1), .int (m_numbers (0 : Int32).toNatClampNeg)]) (rest := []) ⟨hx, hb, hml, hown, hts⟩ (zc_X2_stepsOn l D cI (ad 1) m_s (m_numbers (0 : Int32).toNatClampNeg) n46 g47) (va_cwS 2 hts gX2_isDone_X2_stepsOn rfl rfl rfl hd_X2_stepsOn.2 ⟨Nat.le_of_ble_eq_true rfl, Nat.le_of_ble_eq_true rfl⟩) hK hP hD hS hA (zb_cM_s) rfl hl.1 rfl (Nat.le_of_ble_eq_true rfl) dX2_isDone_245 ⟨Nat.le_refl _, Nat.le_refl _⟩ (fun H locs hP hD hS => ?_)
      refine lv_iconst (v := (1 : Int32)) hx hb dX2_isDone_248 (by decide) ?_
      obtain ⟨rfl, rfl⟩ := re2 h
      exact zb_zret hx hb hr hlk rfl hP hS dX2_isDone_249
    · replace h := it_f c45 h
      refine lv_iconst (v := (0 : Int32)) hx hb dX2_isDone_238 (by decide) ?_
      obtain ⟨rfl, rfl⟩ := re2 h
      exact zb_zret hx hb hr hlk rfl hP hS dX2_isDone_239
