abbrev rm_X2_measures : Room := { frames := 1, cells := 0, slots := 0, locals := 21 }
theorem hd_X2_measures : yX2_measures.cls = RX2 ∧ yX2_measures.cls ≠ "java/lang/invoke/MethodHandle" ∧ yX2_measures.cls ≠ "java/lang/invoke/VarHandle" ∧ (parseMethodDescriptor yX2_measures.desc).map (fun d => d.parameters.length) = some 2 := by decide +kernel
theorem zi_X2_measures_X2 : ∀ w ∈ wsX20, w ∈ wsX2_measures := fun _ h => List.mem_cons_of_mem _ (List.mem_append_right _ h)
theorem zk_X2_measures_0 : Cond.fieldLink RX2 34 "GroutingIsFollowedModel" "cost" "[I" ∈ wsX2_measures := by decide +kernel
theorem zk_X2_measures_1 : Cond.constant RX2 166 (1000000000) ∈ wsX2_measures := by decide +kernel
theorem zk_X2_measures_2 : Cond.fieldLink RX2 9 "GroutingIsFollowedModel" "s" "[I" ∈ wsX2_measures := by decide +kernel
set_option maxHeartbeats 4000000 in
set_option maxRecDepth 100000 in
theorem zc_X2_measures (l : Launch) (D : va_G) (cI : ClassId) (ad : Nat → Nat) (m_s : (Nat → Int32)) (m_m : (Nat → Int32)) (m_image : (Nat → Int32)) (m_was : (Nat → Int32)) (m_hasImage : Int32) (m_letters : (Nat → Int32)) (m_row : (Nat → Int32)) (m_refused : (Nat → Int32)) (m_letterMany : Int32) (m_rowMany : Int32) (m_place : Int32) (m_numbers : (Nat → Int32)) (m_cost : (Nat → Int32)) (m_seed : Int32) (v1 : Int32) (v2 : Int32) (w_m_cost : (Nat → Int32)) (h : zf_X2_measures m_s m_cost v1 v2 = some w_m_cost) : Cn l D cI yX2_measures wsX2_measures rm_X2_measures [.ref (ad 0), .int v1, .int v2] (zb_M cI ad m_s m_m m_image m_was m_hasImage m_letters m_row m_refused m_letterMany m_rowMany m_place m_numbers m_cost m_seed) none (zb_M cI ad m_s m_m m_image m_was m_hasImage m_letters m_row m_refused m_letterMany m_rowMany m_place m_numbers w_m_cost m_seed) := by
  refine zb_ofW (cc := cX2_measures) (maxL := 8) (ret := none) (by decide) rfl (Nat.le_of_ble_eq_true rfl) ?_
  intro p e s m args below meth c A ls hx hb hr hml hts hown hlk hK hP hD hA hl
  have hS : va_S A s.heap s.heap [] := va_S.rf
  have hl : lv_has ls 8 [(0, .ref (ad 0)), (1, .int v1), (2, .int v2)] := hl
  unfold zf_X2_measures at h
  refine lv_iconst (v := (0 : Int32)) hx hb dX2_measures_0 (by decide) ?_
  refine lv_istore_n (lv' := [(3, .int (0 : Int32)), (0, .ref (ad 0)), (1, .int v1), (2, .int v2)]) hx hb dX2_measures_1 rfl hl (by decide) rfl (fun ls hl => ?_)
  have lp3 : ∀ (fu3 : Nat) (x1 : Int32) (x2 : (Nat → Int32)) (H : Heap) (locs : List Loc) (hP : va_P D zb_cl (zb_M cI ad m_s m_m m_image m_was m_hasImage m_letters m_row m_refused m_letterMany m_rowMany m_place m_numbers x2 m_seed) H) (hD : va_D A (zb_M cI ad m_s m_m m_image m_was m_hasImage m_letters m_row m_refused m_letterMany m_rowMany m_place m_numbers x2 m_seed)) (hS : va_S A s.heap H locs) (ls : Array Slot) (hl : lv_has ls 8 [(0, .ref (ad 0)), (1, .int v1), (2, .int v2), (3, .int x1)]) (h : zl2 (zf_X2_measures_b2 v1 v2 m_s) fu3 x1 x2 = some w_m_cost), W p l e rm_X2_measures s m args below meth c H locs 0 0 (zb_Q below D none (zb_M cI ad m_s m_m m_image m_was m_hasImage m_letters m_row m_refused m_letterMany m_rowMany m_place m_numbers w_m_cost m_seed) A args s) (F0 m 2 ls []) := by
    intro fu3
    induction fu3 with
    | zero => intro x1 x2 H locs hP hD hS ls hl h; exact zb_no h
    | succ fu3 ih3 =>
      intro x1 x2 H locs hP hD hS ls hl h
      replace h : zf_X2_measures_b2 v1 v2 m_s (zl2 (zf_X2_measures_b2 v1 v2 m_s) fu3) x1 x2 = some w_m_cost := h
      unfold zf_X2_measures_b2 at h
      refine lv_iload_n hx hb dX2_measures_2 rfl (lv_at hl 3 rfl) ?_
      refine lv_bipush (v := (30 : Int32)) hx hb dX2_measures_3 (by decide) ?_
      refine lv_icmp_ge (tgt := 31) hx hb dX2_measures_5 (by decide) (fun c4 => ?_) (fun c4 => ?_)
      · replace h := it_t c4 h
        refine lv_iconst (v := (0 : Int32)) hx hb dX2_measures_31 (by decide) ?_
        refine lv_istore_n (lv' := [(3, .int (0 : Int32)), (0, .ref (ad 0)), (1, .int v1), (2, .int v2)]) hx hb dX2_measures_32 rfl hl (by decide) rfl (fun ls hl => ?_)
        have lp7 : ∀ (fu7 : Nat) (x5 : Int32) (x6 : (Nat → Int32)) (H : Heap) (locs : List Loc) (hP : va_P D zb_cl (zb_M cI ad m_s m_m m_image m_was m_hasImage m_letters m_row m_refused m_letterMany m_rowMany m_place m_numbers x6 m_seed) H) (hD : va_D A (zb_M cI ad m_s m_m m_image m_was m_hasImage m_letters m_row m_refused m_letterMany m_rowMany m_place m_numbers x6 m_seed)) (hS : va_S A s.heap H locs) (ls : Array Slot) (hl : lv_has ls 8 [(0, .ref (ad 0)), (2, .int v2), (3, .int x5)]) (h : zl2 (zf_X2_measures_b33 v2 m_s) fu7 x5 x6 = some w_m_cost), W p l e rm_X2_measures s m args below meth c H locs 0 0 (zb_Q below D none (zb_M cI ad m_s m_m m_image m_was m_hasImage m_letters m_row m_refused m_letterMany m_rowMany m_place m_numbers w_m_cost m_seed) A args s) (F0 m 33 ls []) := by
          intro fu7
          induction fu7 with
          | zero => intro x5 x6 H locs hP hD hS ls hl h; exact zb_no h
          | succ fu7 ih7 =>
            intro x5 x6 H locs hP hD hS ls hl h
            replace h : zf_X2_measures_b33 v2 m_s (zl2 (zf_X2_measures_b33 v2 m_s) fu7) x5 x6 = some w_m_cost := h
            unfold zf_X2_measures_b33 at h
            refine lv_iload_n hx hb dX2_measures_33 rfl (lv_at hl 2 rfl) ?_
            refine lv_bipush (v := (30 : Int32)) hx hb dX2_measures_34 (by decide) ?_
            refine lv_icmp_ge (tgt := 175) hx hb dX2_measures_36 (by decide) (fun c8 => ?_) (fun c8 => ?_)
            · replace h := it_t c8 h
              obtain rfl := re1 h
              exact zb_vret hx hb hr hlk hP hS dX2_measures_175
            · replace h := it_f c8 h
              refine lv_iconst (v := (0 : Int32)) hx hb dX2_measures_39 (by decide) ?_
              refine lv_istore (lv' := [(4, .int (0 : Int32)), (0, .ref (ad 0)), (2, .int v2), (3, .int x5)]) hx hb dX2_measures_40 hl (by decide) rfl (fun ls hl => ?_)
              have lp11 : ∀ (fu11 : Nat) (x9 : Int32) (x10 : (Nat → Int32)) (H : Heap) (locs : List Loc) (hP : va_P D zb_cl (zb_M cI ad m_s m_m m_image m_was m_hasImage m_letters m_row m_refused m_letterMany m_rowMany m_place m_numbers x10 m_seed) H) (hD : va_D A (zb_M cI ad m_s m_m m_image m_was m_hasImage m_letters m_row m_refused m_letterMany m_rowMany m_place m_numbers x10 m_seed)) (hS : va_S A s.heap H locs) (ls : Array Slot) (hl : lv_has ls 8 [(0, .ref (ad 0)), (2, .int v2), (3, .int x5), (4, .int x9)]) (h : zl2 (zf_X2_measures_b42 (zl2 (zf_X2_measures_b33 v2 m_s) fu7) v2 x5 m_s) fu11 x9 x10 = some w_m_cost), W p l e rm_X2_measures s m args below meth c H locs 0 0 (zb_Q below D none (zb_M cI ad m_s m_m m_image m_was m_hasImage m_letters m_row m_refused m_letterMany m_rowMany m_place m_numbers w_m_cost m_seed) A args s) (F0 m 42 ls []) := by
                intro fu11
                induction fu11 with
                | zero => intro x9 x10 H locs hP hD hS ls hl h; exact zb_no h
                | succ fu11 ih11 =>
                  intro x9 x10 H locs hP hD hS ls hl h
                  replace h : zf_X2_measures_b42 (zl2 (zf_X2_measures_b33 v2 m_s) fu7) v2 x5 m_s (zl2 (zf_X2_measures_b42 (zl2 (zf_X2_measures_b33 v2 m_s) fu7) v2 x5 m_s) fu11) x9 x10 = some w_m_cost := h
                  unfold zf_X2_measures_b42 at h
                  refine lv_iload hx hb dX2_measures_42 (lv_at hl 3 rfl) ?_
                  refine lv_bipush (v := (30 : Int32)) hx hb dX2_measures_44 (by decide) ?_
                  refine lv_icmp_ge (tgt := 169) hx hb dX2_measures_46 (by decide) (fun c12 => ?_) (fun c12 => ?_)
                  · replace h := it_t c12 h
                    refine lv_iinc (v := (x5 + (1 : Int32))) (lv' := [(3, .int (x5 + (1 : Int32))), (0, .ref (ad 0)), (2, .int v2), (4, .int x9)]) hx hb dX2_measures_169 hl (k := 2) rfl (by first | rfl | decide) (by decide) rfl (fun ls hl => ?_)
                    refine lv_goto (tgt := 33) hx hb dX2_measures_172 (by decide) ?_
                    exact ih7 (x5 + (1 : Int32)) x10 _ _ hP hD hS ls (lv_sub hl [1, 2, 0] rfl) h
                  · replace h := it_f c12 h
                    refine lv_aload_n hx hb dX2_measures_49 rfl (lv_at hl 0 rfl) ?_
                    refine va_get (D := D) (ci := 2) (v := .ref (ad 9)) (C := RX2) (T := TX2) (N := 14) hx hb hts zi_X2_measures_X2 hown hK.1 hP 0 rfl rfl 12 (by decide) (hts _ zk_X2_measures_0) (fun _ h9 => h9) rfl dX2_measures_50 ?_
                    refine lv_iload hx hb dX2_measures_53 (lv_at hl 3 rfl) ?_
                    obtain ⟨h13, h⟩ := it_g h
                    refine va_iald hx hb hK.1 hP 9 0 rfl rfl h13 dX2_measures_55 ?_
                    refine lv_ldc (v := (1000000000 : Int32)) hx hb hown (hts _ zk_X2_measures_1) dX2_measures_56 ?_
                    refine lv_icmp_ge (tgt := 163) hx hb dX2_measures_58 (by decide) (fun c14 => ?_) (fun c14 => ?_)
                    · replace h := it_t c14 h
                      refine lv_iinc (v := (x9 + (1 : Int32))) (lv' := [(4, .int (x9 + (1 : Int32))), (0, .ref (ad 0)), (2, .int v2), (3, .int x5)]) hx hb dX2_measures_163 hl (k := 3) rfl (by first | rfl | decide) (by decide) rfl (fun ls hl => ?_)
                      refine lv_goto (tgt := 42) hx hb dX2_measures_166 (by decide) ?_
                      exact ih11 (x9 + (1 : Int32)) x10 _ _ hP hD hS ls (lv_sub hl [1, 2, 3, 0] rfl) h
                    · replace h := it_f c14 h
                      refine lv_iload_n hx hb dX2_measures_61 rfl (lv_at hl 1 rfl) ?_
                      refine lv_if_ne (tgt := 80) hx hb dX2_measures_62 (by decide) (fun c15 => ?_) (fun c15 => ?_)
                      · replace h := it_f c15 h
                        refine lv_iload_n hx hb dX2_measures_80 rfl (lv_at hl 1 rfl) ?_
                        refine lv_if_eq (tgt := 104) hx hb dX2_measures_81 (by decide) (fun c16 => ?_) (fun c16 => ?_)
                        · replace h := it_t c16 h
                          refine lv_iconst (v := (1 : Int32)) hx hb dX2_measures_104 (by decide) ?_
                          refine lv_istore (lv' := [(5, .int (1 : Int32)), (0, .ref (ad 0)), (2, .int v2), (3, .int x5), (4, .int x9)]) hx hb dX2_measures_105 hl (by decide) rfl (fun ls hl => ?_)
                          refine lv_iconst (v := (0 : Int32)) hx hb dX2_measures_107 (by decide) ?_
                          refine lv_istore (lv' := [(6, .int (0 : Int32)), (5, .int (1 : Int32)), (0, .ref (ad 0)), (2, .int v2), (3, .int x5), (4, .int x9)]) hx hb dX2_measures_108 hl (by decide) rfl (fun ls hl => ?_)
                          have lp19 : ∀ (fu19 : Nat) (x17 : Int32) (x18 : (Nat → Int32)) (H : Heap) (locs : List Loc) (hP : va_P D zb_cl (zb_M cI ad m_s m_m m_image m_was m_hasImage m_letters m_row m_refused m_letterMany m_rowMany m_place m_numbers x18 m_seed) H) (hD : va_D A (zb_M cI ad m_s m_m m_image m_was m_hasImage m_letters m_row m_refused m_letterMany m_rowMany m_place m_numbers x18 m_seed)) (hS : va_S A s.heap H locs) (ls : Array Slot) (hl : lv_has ls 8 [(0, .ref (ad 0)), (2, .int v2), (3, .int x5), (4, .int x9), (5, .int (1 : Int32)), (6, .int x17)]) (h : zl2 (zf_X2_measures_b110 (zl2 (zf_X2_measures_b42 (zl2 (zf_X2_measures_b33 v2 m_s) fu7) v2 x5 m_s) fu11) x9 (1 : Int32)) fu19 x17 x18 = some w_m_cost), W p l e rm_X2_measures s m args below meth c H locs 0 0 (zb_Q below D none (zb_M cI ad m_s m_m m_image m_was m_hasImage m_letters m_row m_refused m_letterMany m_rowMany m_place m_numbers w_m_cost m_seed) A args s) (F0 m 110 ls []) := by
                            intro fu19
                            induction fu19 with
                            | zero => intro x17 x18 H locs hP hD hS ls hl h; exact zb_no h
                            | succ fu19 ih19 =>
                              intro x17 x18 H locs hP hD hS ls hl h
                              replace h : zf_X2_measures_b110 (zl2 (zf_X2_measures_b42 (zl2 (zf_X2_measures_b33 v2 m_s) fu7) v2 x5 m_s) fu11) x9 (1 : Int32) (zl2 (zf_X2_measures_b110 (zl2 (zf_X2_measures_b42 (zl2 (zf_X2_measures_b33 v2 m_s) fu7) v2 x5 m_s) fu11) x9 (1 : Int32)) fu19) x17 x18 = some w_m_cost := h
                              unfold zf_X2_measures_b110 at h
                              refine lv_iload hx hb dX2_measures_110 (lv_at hl 5 rfl) ?_
                              refine lv_iconst (v := (4 : Int32)) hx hb dX2_measures_112 (by decide) ?_
                              refine lv_icmp_ge (tgt := 163) hx hb dX2_measures_113 (by decide) (fun c20 => ?_) (fun c20 => ?_)
                              · replace h := it_t c20 h
                                refine lv_iinc (v := (x9 + (1 : Int32))) (lv' := [(4, .int (x9 + (1 : Int32))), (0, .ref (ad 0)), (2, .int v2), (3, .int x5), (5, .int (1 : Int32)), (6, .int x17)]) hx hb dX2_measures_163 hl (k := 3) rfl (by first | rfl | decide) (by decide) rfl (fun ls hl => ?_)
                                refine lv_goto (tgt := 42) hx hb dX2_measures_166 (by decide) ?_
                                exact ih11 (x9 + (1 : Int32)) x18 _ _ hP hD hS ls (lv_sub hl [1, 2, 3, 0] rfl) h
                              · replace h := it_f c20 h
                                refine lv_iload hx hb dX2_measures_116 (lv_at hl 3 rfl) ?_
                                refine lv_iload hx hb dX2_measures_118 (lv_at hl 5 rfl) ?_
                                obtain ⟨r21, g22, h⟩ := bo1 h
                                refine zb_callS (As := [.int x9, .int x17]) (rest := []) ⟨hx, hb, hml, hown, hts⟩ (zc_X2_nodeThere l D cI x9 x17 r21 g22) (va_cwS 2 hts gX2_measures_X2_nodeThere rfl rfl rfl hd_X2_nodeThere.2 ⟨Nat.le_of_ble_eq_true rfl, Nat.le_of_ble_eq_true rfl⟩) hK hP hD hS hA (zb_none _) rfl hl.1 rfl (Nat.le_of_ble_eq_true rfl) dX2_measures_120 ⟨Nat.le_refl _, Nat.le_refl _⟩ (fun H locs hP hD hS => ?_)
                                refine lv_istore (lv' := [(7, .int r21), (0, .ref (ad 0)), (2, .int v2), (3, .int x5), (4, .int x9), (5, .int (1 : Int32)), (6, .int x17)]) hx hb dX2_measures_123 hl (by decide) rfl (fun ls hl => ?_)
                                refine lv_iload hx hb dX2_measures_125 (lv_at hl 0 rfl) ?_
                                refine lv_if_lt (tgt := 157) hx hb dX2_measures_127 (by decide) (fun c23 => ?_) (fun c23 => ?_)
                                · replace h := it_t c23 h
                                  refine lv_iinc (v := (x17 + (1 : Int32))) (lv' := [(6, .int (x17 + (1 : Int32))), (7, .int r21), (0, .ref (ad 0)), (2, .int v2), (3, .int x5), (4, .int x9), (5, .int (1 : Int32))]) hx hb dX2_measures_157 hl (k := 6) rfl (by first | rfl | decide) (by decide) rfl (fun ls hl => ?_)
                                  refine lv_goto (tgt := 110) hx hb dX2_measures_160 (by decide) ?_
                                  exact ih19 (x17 + (1 : Int32)) x18 _ _ hP hD hS ls (lv_sub hl [2, 3, 4, 5, 6, 0] rfl) h
                                · replace h := it_f c23 h
                                  refine lv_aload_n hx hb dX2_measures_130 rfl (lv_at hl 1 rfl) ?_
                                  refine va_get (D := D) (ci := 2) (v := .ref (ad 9)) (C := RX2) (T := TX2) (N := 14) hx hb hts zi_X2_measures_X2 hown hK.1 hP 0 rfl rfl 12 (by decide) (hts _ zk_X2_measures_0) (fun _ h9 => h9) rfl dX2_measures_131 ?_
                                  refine lv_iload hx hb dX2_measures_134 (lv_at hl 0 rfl) ?_
                                  refine lv_aload_n hx hb dX2_measures_136 rfl (lv_at hl 1 rfl) ?_
                                  refine va_get (D := D) (ci := 2) (v := .ref (ad 9)) (C := RX2) (T := TX2) (N := 14) hx hb hts zi_X2_measures_X2 hown hK.1 hP 0 rfl rfl 12 (by decide) (hts _ zk_X2_measures_0) (fun _ h9 => h9) rfl dX2_measures_137 ?_
                                  refine lv_iload hx hb dX2_measures_140 (lv_at hl 0 rfl) ?_
                                  obtain ⟨h24, h⟩ := it_g h
                                  refine va_iald hx hb hK.1 hP 9 0 rfl rfl h24 dX2_measures_142 ?_
                                  refine lv_aload_n hx hb dX2_measures_143 rfl (lv_at hl 1 rfl) ?_
                                  refine va_get (D := D) (ci := 2) (v := .ref (ad 9)) (C := RX2) (T := TX2) (N := 14) hx hb hts zi_X2_measures_X2 hown hK.1 hP 0 rfl rfl 12 (by decide) (hts _ zk_X2_measures_0) (fun _ h9 => h9) rfl dX2_measures_144 ?_
                                  refine lv_iload hx hb dX2_measures_147 (lv_at hl 4 rfl) ?_
                                  obtain ⟨h25, h⟩ := it_g h
                                  refine va_iald hx hb hK.1 hP 9 0 rfl rfl h25 dX2_measures_149 ?_
                                  refine lv_iload hx hb dX2_measures_150 (lv_at hl 5 rfl) ?_
                                  refine lv_iadd hx hb dX2_measures_152 ?_
                                  obtain ⟨r26, g27, h⟩ := bo1 h
                                  refine zb_callS (As := [.int (x18 r21.toNatClampNeg), .int ((x18 x9.toNatClampNeg) + (1 : Int32))]) (rest := [.int r21, .ref (ad 9)]) ⟨hx, hb, hml, hown, hts⟩ (zc_X2_least l D cI (x18 r21.toNatClampNeg) ((x18 x9.toNatClampNeg) + (1 : Int32)) r26 g27) (va_cwS 2 hts gX2_measures_X2_least rfl rfl rfl hd_X2_least.2 ⟨Nat.le_of_ble_eq_true rfl, Nat.le_of_ble_eq_true rfl⟩) hK hP hD hS hA (zb_none _) rfl hl.1 rfl (Nat.le_of_ble_eq_true rfl) dX2_measures_153 ⟨Nat.le_refl _, Nat.le_refl _⟩ (fun H locs hP hD hS => ?_)
                                  obtain ⟨h28, h⟩ := it_g h
                                  refine va_iast hx hb hK.1 hP hD hS 9 0 rfl rfl h28 dX2_measures_156 (fun H locs hP hD hS => ?_)
                                  have hP : va_P D zb_cl (zb_M cI ad m_s m_m m_image m_was m_hasImage m_letters m_row m_refused m_letterMany m_rowMany m_place m_numbers (upd x18 r21.toNatClampNeg r26) m_seed) H := hP
                                  have hD : va_D A (zb_M cI ad m_s m_m m_image m_was m_hasImage m_letters m_row m_refused m_letterMany m_rowMany m_place m_numbers (upd x18 r21.toNatClampNeg r26) m_seed) := hD
                                  refine lv_iinc (v := (x17 + (1 : Int32))) (lv' := [(6, .int (x17 + (1 : Int32))), (7, .int r21), (0, .ref (ad 0)), (2, .int v2), (3, .int x5), (4, .int x9), (5, .int (1 : Int32))]) hx hb dX2_measures_157 hl (k := 6) rfl (by first | rfl | decide) (by decide) rfl (fun ls hl => ?_)
                                  refine lv_goto (tgt := 110) hx hb dX2_measures_160 (by decide) ?_
                                  exact ih19 (x17 + (1 : Int32)) (upd x18 r21.toNatClampNeg r26) _ _ hP hD hS ls (lv_sub hl [2, 3, 4, 5, 6, 0] rfl) h
                          exact lp19 zb_FU (0 : Int32) x10 _ _ hP hD hS ls (lv_sub hl [2, 3, 4, 5, 1, 0] rfl) h
                        · replace h := it_f c16 h
                          refine lv_aload_n hx hb dX2_measures_84 rfl (lv_at hl 0 rfl) ?_
                          refine va_get (D := D) (ci := 2) (v := .ref (ad 1)) (C := RX2) (T := TX2) (N := 14) hx hb hts zi_X2_measures_X2 hown hK.1 hP 0 rfl rfl 0 (by decide) (hts _ zk_X2_measures_2) (fun _ h9 => h9) rfl dX2_measures_85 ?_
                          refine lv_iload hx hb dX2_measures_88 (lv_at hl 3 rfl) ?_
                          obtain ⟨r29, g30, h⟩ := bo1 h
                          refine zb_callS (As := [.ref (ad 1), .int x9]) (rest := []) ⟨hx, hb, hml, hown, hts⟩ (zc_X2_isDry l D cI (ad 1) m_s x9 r29 g30) (va_cwS 2 hts gX2_measures_X2_isDry rfl rfl rfl hd_X2_isDry.2 ⟨Nat.le_of_ble_eq_true rfl, Nat.le_of_ble_eq_true rfl⟩) hK hP hD hS hA (zb_cM_s) rfl hl.1 rfl (Nat.le_of_ble_eq_true rfl) dX2_measures_90 ⟨Nat.le_refl _, Nat.le_refl _⟩ (fun H locs hP hD hS => ?_)
                          refine lv_if_eq (tgt := 100) hx hb dX2_measures_93 (by decide) (fun c31 => ?_) (fun c31 => ?_)
                          · replace h := it_t c31 h
                            refine lv_iconst (v := (0 : Int32)) hx hb dX2_measures_100 (by decide) ?_
                            refine lv_goto (tgt := 105) hx hb dX2_measures_101 (by decide) ?_
                            refine lv_istore (lv' := [(5, .int (0 : Int32)), (0, .ref (ad 0)), (2, .int v2), (3, .int x5), (4, .int x9)]) hx hb dX2_measures_105 hl (by decide) rfl (fun ls hl => ?_)
                            refine lv_iconst (v := (0 : Int32)) hx hb dX2_measures_107 (by decide) ?_
                            refine lv_istore (lv' := [(6, .int (0 : Int32)), (5, .int (0 : Int32)), (0, .ref (ad 0)), (2, .int v2), (3, .int x5), (4, .int x9)]) hx hb dX2_measures_108 hl (by decide) rfl (fun ls hl => ?_)
                            have lp34 : ∀ (fu34 : Nat) (x32 : Int32) (x33 : (Nat → Int32)) (H : Heap) (locs : List Loc) (hP : va_P D zb_cl (zb_M cI ad m_s m_m m_image m_was m_hasImage m_letters m_row m_refused m_letterMany m_rowMany m_place m_numbers x33 m_seed) H) (hD : va_D A (zb_M cI ad m_s m_m m_image m_was m_hasImage m_letters m_row m_refused m_letterMany m_rowMany m_place m_numbers x33 m_seed)) (hS : va_S A s.heap H locs) (ls : Array Slot) (hl : lv_has ls 8 [(0, .ref (ad 0)), (2, .int v2), (3, .int x5), (4, .int x9), (5, .int (0 : Int32)), (6, .int x32)]) (h : zl2 (zf_X2_measures_b110 (zl2 (zf_X2_measures_b42 (zl2 (zf_X2_measures_b33 v2 m_s) fu7) v2 x5 m_s) fu11) x9 (0 : Int32)) fu34 x32 x33 = some w_m_cost), W p l e rm_X2_measures s m args below meth c H locs 0 0 (zb_Q below D none (zb_M cI ad m_s m_m m_image m_was m_hasImage m_letters m_row m_refused m_letterMany m_rowMany m_place m_numbers w_m_cost m_seed) A args s) (F0 m 110 ls []) := by
                              intro fu34
                              induction fu34 with
                              | zero => intro x32 x33 H locs hP hD hS ls hl h; exact zb_no h
                              | succ fu34 ih34 =>
                                intro x32 x33 H locs hP hD hS ls hl h
                                replace h : zf_X2_measures_b110 (zl2 (zf_X2_measures_b42 (zl2 (zf_X2_measures_b33 v2 m_s) fu7) v2 x5 m_s) fu11) x9 (0 : Int32) (zl2 (zf_X2_measures_b110 (zl2 (zf_X2_measures_b42 (zl2 (zf_X2_measures_b33 v2 m_s) fu7) v2 x5 m_s) fu11) x9 (0 : Int32)) fu34) x32 x33 = some w_m_cost := h
                                unfold zf_X2_measures_b110 at h
                                refine lv_iload hx hb dX2_measures_110 (lv_at hl 5 rfl) ?_
                                refine lv_iconst (v := (4 : Int32)) hx hb dX2_measures_112 (by decide) ?_
                                refine lv_icmp_ge (tgt := 163) hx hb dX2_measures_113 (by decide) (fun c35 => ?_) (fun c35 => ?_)
                                · replace h := it_t c35 h
                                  refine lv_iinc (v := (x9 + (1 : Int32))) (lv' := [(4, .int (x9 + (1 : Int32))), (0, .ref (ad 0)), (2, .int v2), (3, .int x5), (5, .int (0 : Int32)), (6, .int x32)]) hx hb dX2_measures_163 hl (k := 3) rfl (by first | rfl | decide) (by decide) rfl (fun ls hl => ?_)
                                  refine lv_goto (tgt := 42) hx hb dX2_measures_166 (by decide) ?_
                                  exact ih11 (x9 + (1 : Int32)) x33 _ _ hP hD hS ls (lv_sub hl [1, 2, 3, 0] rfl) h
                                · replace h := it_f c35 h
                                  refine lv_iload hx hb dX2_measures_116 (lv_at hl 3 rfl) ?_
                                  refine lv_iload hx hb dX2_measures_118 (lv_at hl 5 rfl) ?_
                                  obtain ⟨r36, g37, h⟩ := bo1 h
                                  refine zb_callS (As := [.int x9, .int x32]) (rest := []) ⟨hx, hb, hml, hown, hts⟩ (zc_X2_nodeThere l D cI x9 x32 r36 g37) (va_cwS 2 hts gX2_measures_X2_nodeThere rfl rfl rfl hd_X2_nodeThere.2 ⟨Nat.le_of_ble_eq_true rfl, Nat.le_of_ble_eq_true rfl⟩) hK hP hD hS hA (zb_none _) rfl hl.1 rfl (Nat.le_of_ble_eq_true rfl) dX2_measures_120 ⟨Nat.le_refl _, Nat.le_refl _⟩ (fun H locs hP hD hS => ?_)
                                  refine lv_istore (lv' := [(7, .int r36), (0, .ref (ad 0)), (2, .int v2), (3, .int x5), (4, .int x9), (5, .int (0 : Int32)), (6, .int x32)]) hx hb dX2_measures_123 hl (by decide) rfl (fun ls hl => ?_)
                                  refine lv_iload hx hb dX2_measures_125 (lv_at hl 0 rfl) ?_
                                  refine lv_if_lt (tgt := 157) hx hb dX2_measures_127 (by decide) (fun c38 => ?_) (fun c38 => ?_)
                                  · replace h := it_t c38 h
                                    refine lv_iinc (v := (x32 + (1 : Int32))) (lv' := [(6, .int (x32 + (1 : Int32))), (7, .int r36), (0, .ref (ad 0)), (2, .int v2), (3, .int x5), (4, .int x9), (5, .int (0 : Int32))]) hx hb dX2_measures_157 hl (k := 6) rfl (by first | rfl | decide) (by decide) rfl (fun ls hl => ?_)
                                    refine lv_goto (tgt := 110) hx hb dX2_measures_160 (by decide) ?_
                                    exact ih34 (x32 + (1 : Int32)) x33 _ _ hP hD hS ls (lv_sub hl [2, 3, 4, 5, 6, 0] rfl) h
                                  · replace h := it_f c38 h
                                    refine lv_aload_n hx hb dX2_measures_130 rfl (lv_at hl 1 rfl) ?_
                                    refine va_get (D := D) (ci := 2) (v := .ref (ad 9)) (C := RX2) (T := TX2) (N := 14) hx hb hts zi_X2_measures_X2 hown hK.1 hP 0 rfl rfl 12 (by decide) (hts _ zk_X2_measures_0) (fun _ h9 => h9) rfl dX2_measures_131 ?_
                                    refine lv_iload hx hb dX2_measures_134 (lv_at hl 0 rfl) ?_
                                    refine lv_aload_n hx hb dX2_measures_136 rfl (lv_at hl 1 rfl) ?_
                                    refine va_get (D := D) (ci := 2) (v := .ref (ad 9)) (C := RX2) (T := TX2) (N := 14) hx hb hts zi_X2_measures_X2 hown hK.1 hP 0 rfl rfl 12 (by decide) (hts _ zk_X2_measures_0) (fun _ h9 => h9) rfl dX2_measures_137 ?_
                                    refine lv_iload hx hb dX2_measures_140 (lv_at hl 0 rfl) ?_
                                    obtain ⟨h39, h⟩ := it_g h
                                    refine va_iald hx hb hK.1 hP 9 0 rfl rfl h39 dX2_measures_142 ?_
                                    refine lv_aload_n hx hb dX2_measures_143 rfl (lv_at hl 1 rfl) ?_
                                    refine va_get (D := D) (ci := 2) (v := .ref (ad 9)) (C := RX2) (T := TX2) (N := 14) hx hb hts zi_X2_measures_X2 hown hK.1 hP 0 rfl rfl 12 (by decide) (hts _ zk_X2_measures_0) (fun _ h9 => h9) rfl dX2_measures_144 ?_
                                    refine lv_iload hx hb dX2_measures_147 (lv_at hl 4 rfl) ?_
                                    obtain ⟨h40, h⟩ := it_g h
                                    refine va_iald hx hb hK.1 hP 9 0 rfl rfl h40 dX2_measures_149 ?_
                                    refine lv_iload hx hb dX2_measures_150 (lv_at hl 5 rfl) ?_
                                    refine lv_iadd hx hb dX2_measures_152 ?_
                                    obtain ⟨r41, g42, h⟩ := bo1 h
                                    refine zb_callS (As := [.int (x33 r36.toNatClampNeg), .int ((x33 x9.toNatClampNeg) + (0 : Int32))]) (rest := [.int r36, .ref (ad 9)]) ⟨hx, hb, hml, hown, hts⟩ (zc_X2_least l D cI (x33 r36.toNatClampNeg) ((x33 x9.toNatClampNeg) + (0 : Int32)) r41 g42) (va_cwS 2 hts gX2_measures_X2_least rfl rfl rfl hd_X2_least.2 ⟨Nat.le_of_ble_eq_true rfl, Nat.le_of_ble_eq_true rfl⟩) hK hP hD hS hA (zb_none _) rfl hl.1 rfl (Nat.le_of_ble_eq_true rfl) dX2_measures_153 ⟨Nat.le_refl _, Nat.le_refl _⟩ (fun H locs hP hD hS => ?_)
                                    obtain ⟨h43, h⟩ := it_g h
                                    refine va_iast hx hb hK.1 hP hD hS 9 0 rfl rfl h43 dX2_measures_156 (fun H locs hP hD hS => ?_)
                                    have hP : va_P D zb_cl (zb_M cI ad m_s m_m m_image m_was m_hasImage m_letters m_row m_refused m_letterMany m_rowMany m_place m_numbers (upd x33 r36.toNatClampNeg r41) m_seed) H := hP
                                    have hD : va_D A (zb_M cI ad m_s m_m m_image m_was m_hasImage m_letters m_row m_refused m_letterMany m_rowMany m_place m_numbers (upd x33 r36.toNatClampNeg r41) m_seed) := hD
                                    refine lv_iinc (v := (x32 + (1 : Int32))) (lv' := [(6, .int (x32 + (1 : Int32))), (7, .int r36), (0, .ref (ad 0)), (2, .int v2), (3, .int x5), (4, .int x9), (5, .int (0 : Int32))]) hx hb dX2_measures_157 hl (k := 6) rfl (by first | rfl | decide) (by decide) rfl (fun ls hl => ?_)
                                    refine lv_goto (tgt := 110) hx hb dX2_measures_160 (by decide) ?_
                                    exact ih34 (x32 + (1 : Int32)) (upd x33 r36.toNatClampNeg r41) _ _ hP hD hS ls (lv_sub hl [2, 3, 4, 5, 6, 0] rfl) h
                            exact lp34 zb_FU (0 : Int32) x10 _ _ hP hD hS ls (lv_sub hl [2, 3, 4, 5, 1, 0] rfl) h
                          · replace h := it_f c31 h
                            refine lv_iconst (v := (1 : Int32)) hx hb dX2_measures_96 (by decide) ?_
                            refine lv_goto (tgt := 105) hx hb dX2_measures_97 (by decide) ?_
                            refine lv_istore (lv' := [(5, .int (1 : Int32)), (0, .ref (ad 0)), (2, .int v2), (3, .int x5), (4, .int x9)]) hx hb dX2_measures_105 hl (by decide) rfl (fun ls hl => ?_)
                            refine lv_iconst (v := (0 : Int32)) hx hb dX2_measures_107 (by decide) ?_
                            refine lv_istore (lv' := [(6, .int (0 : Int32)), (5, .int (1 : Int32)), (0, .ref (ad 0)), (2, .int v2), (3, .int x5), (4, .int x9)]) hx hb dX2_measures_108 hl (by decide) rfl (fun ls hl => ?_)
                            have lp46 : ∀ (fu46 : Nat) (x44 : Int32) (x45 : (Nat → Int32)) (H : Heap) (locs : List Loc) (hP : va_P D zb_cl (zb_M cI ad m_s m_m m_image m_was m_hasImage m_letters m_row m_refused m_letterMany m_rowMany m_place m_numbers x45 m_seed) H) (hD : va_D A (zb_M cI ad m_s m_m m_image m_was m_hasImage m_letters m_row m_refused m_letterMany m_rowMany m_place m_numbers x45 m_seed)) (hS : va_S A s.heap H locs) (ls : Array Slot) (hl : lv_has ls 8 [(0, .ref (ad 0)), (2, .int v2), (3, .int x5), (4, .int x9), (5, .int (1 : Int32)), (6, .int x44)]) (h : zl2 (zf_X2_measures_b110 (zl2 (zf_X2_measures_b42 (zl2 (zf_X2_measures_b33 v2 m_s) fu7) v2 x5 m_s) fu11) x9 (1 : Int32)) fu46 x44 x45 = some w_m_cost), W p l e rm_X2_measures s m args below meth c H locs 0 0 (zb_Q below D none (zb_M cI ad m_s m_m m_image m_was m_hasImage m_letters m_row m_refused m_letterMany m_rowMany m_place m_numbers w_m_cost m_seed) A args s) (F0 m 110 ls []) := by
                              intro fu46
                              induction fu46 with
                              | zero => intro x44 x45 H locs hP hD hS ls hl h; exact zb_no h
                              | succ fu46 ih46 =>
                                intro x44 x45 H locs hP hD hS ls hl h
                                replace h : zf_X2_measures_b110 (zl2 (zf_X2_measures_b42 (zl2 (zf_X2_measures_b33 v2 m_s) fu7) v2 x5 m_s) fu11) x9 (1 : Int32) (zl2 (zf_X2_measures_b110 (zl2 (zf_X2_measures_b42 (zl2 (zf_X2_measures_b33 v2 m_s) fu7) v2 x5 m_s) fu11) x9 (1 : Int32)) fu46) x44 x45 = some w_m_cost := h
                                unfold zf_X2_measures_b110 at h
                                refine lv_iload hx hb dX2_measures_110 (lv_at hl 5 rfl) ?_
                                refine lv_iconst (v := (4 : Int32)) hx hb dX2_measures_112 (by decide) ?_
                                refine lv_icmp_ge (tgt := 163) hx hb dX2_measures_113 (by decide) (fun c47 => ?_) (fun c47 => ?_)
                                · replace h := it_t c47 h
                                  refine lv_iinc (v := (x9 + (1 : Int32))) (lv' := [(4, .int (x9 + (1 : Int32))), (0, .ref (ad 0)), (2, .int v2), (3, .int x5), (5, .int (1 : Int32)), (6, .int x44)]) hx hb dX2_measures_163 hl (k := 3) rfl (by first | rfl | decide) (by decide) rfl (fun ls hl => ?_)
                                  refine lv_goto (tgt := 42) hx hb dX2_measures_166 (by decide) ?_
                                  exact ih11 (x9 + (1 : Int32)) x45 _ _ hP hD hS ls (lv_sub hl [1, 2, 3, 0] rfl) h
                                · replace h := it_f c47 h
                                  refine lv_iload hx hb dX2_measures_116 (lv_at hl 3 rfl) ?_
                                  refine lv_iload hx hb dX2_measures_118 (lv_at hl 5 rfl) ?_
                                  obtain ⟨r48, g49, h⟩ := bo1 h
                                  refine zb_callS (As := [.int x9, .int x44]) (rest := []) ⟨hx, hb, hml, hown, hts⟩ (zc_X2_nodeThere l D cI x9 x44 r48 g49) (va_cwS 2 hts gX2_measures_X2_nodeThere rfl rfl rfl hd_X2_nodeThere.2 ⟨Nat.le_of_ble_eq_true rfl, Nat.le_of_ble_eq_true rfl⟩) hK hP hD hS hA (zb_none _) rfl hl.1 rfl (Nat.le_of_ble_eq_true rfl) dX2_measures_120 ⟨Nat.le_refl _, Nat.le_refl _⟩ (fun H locs hP hD hS => ?_)
                                  refine lv_istore (lv' := [(7, .int r48), (0, .ref (ad 0)), (2, .int v2), (3, .int x5), (4, .int x9), (5, .int (1 : Int32)), (6, .int x44)]) hx hb dX2_measures_123 hl (by decide) rfl (fun ls hl => ?_)
                                  refine lv_iload hx hb dX2_measures_125 (lv_at hl 0 rfl) ?_
                                  refine lv_if_lt (tgt := 157) hx hb dX2_measures_127 (by decide) (fun c50 => ?_) (fun c50 => ?_)
                                  · replace h := it_t c50 h
                                    refine lv_iinc (v := (x44 + (1 : Int32))) (lv' := [(6, .int (x44 + (1 : Int32))), (7, .int r48), (0, .ref (ad 0)), (2, .int v2), (3, .int x5), (4, .int x9), (5, .int (1 : Int32))]) hx hb dX2_measures_157 hl (k := 6) rfl (by first | rfl | decide) (by decide) rfl (fun ls hl => ?_)
                                    refine lv_goto (tgt := 110) hx hb dX2_measures_160 (by decide) ?_
                                    exact ih46 (x44 + (1 : Int32)) x45 _ _ hP hD hS ls (lv_sub hl [2, 3, 4, 5, 6, 0] rfl) h
                                  · replace h := it_f c50 h
                                    refine lv_aload_n hx hb dX2_measures_130 rfl (lv_at hl 1 rfl) ?_
                                    refine va_get (D := D) (ci := 2) (v := .ref (ad 9)) (C := RX2) (T := TX2) (N := 14) hx hb hts zi_X2_measures_X2 hown hK.1 hP 0 rfl rfl 12 (by decide) (hts _ zk_X2_measures_0) (fun _ h9 => h9) rfl dX2_measures_131 ?_
                                    refine lv_iload hx hb dX2_measures_134 (lv_at hl 0 rfl) ?_
                                    refine lv_aload_n hx hb dX2_measures_136 rfl (lv_at hl 1 rfl) ?_
                                    refine va_get (D := D) (ci := 2) (v := .ref (ad 9)) (C := RX2) (T := TX2) (N := 14) hx hb hts zi_X2_measures_X2 hown hK.1 hP 0 rfl rfl 12 (by decide) (hts _ zk_X2_measures_0) (fun _ h9 => h9) rfl dX2_measures_137 ?_
                                    refine lv_iload hx hb dX2_measures_140 (lv_at hl 0 rfl) ?_
                                    obtain ⟨h51, h⟩ := it_g h
                                    refine va_iald hx hb hK.1 hP 9 0 rfl rfl h51 dX2_measures_142 ?_
                                    refine lv_aload_n hx hb dX2_measures_143 rfl (lv_at hl 1 rfl) ?_
                                    refine va_get (D := D) (ci := 2) (v := .ref (ad 9)) (C := RX2) (T := TX2) (N := 14) hx hb hts zi_X2_measures_X2 hown hK.1 hP 0 rfl rfl 12 (by decide) (hts _ zk_X2_measures_0) (fun _ h9 => h9) rfl dX2_measures_144 ?_
                                    refine lv_iload hx hb dX2_measures_147 (lv_at hl 4 rfl) ?_
                                    obtain ⟨h52, h⟩ := it_g h
                                    refine va_iald hx hb hK.1 hP 9 0 rfl rfl h52 dX2_measures_149 ?_
                                    refine lv_iload hx hb dX2_measures_150 (lv_at hl 5 rfl) ?_
                                    refine lv_iadd hx hb dX2_measures_152 ?_
                                    obtain ⟨r53, g54, h⟩ := bo1 h
                                    refine zb_callS (As := [.int (x45 r48.toNatClampNeg), .int ((x45 x9.toNatClampNeg) + (1 : Int32))]) (rest := [.int r48, .ref (ad 9)]) ⟨hx, hb, hml, hown, hts⟩ (zc_X2_least l D cI (x45 r48.toNatClampNeg) ((x45 x9.toNatClampNeg) + (1 : Int32)) r53 g54) (va_cwS 2 hts gX2_measures_X2_least rfl rfl rfl hd_X2_least.2 ⟨Nat.le_of_ble_eq_true rfl, Nat.le_of_ble_eq_true rfl⟩) hK hP hD hS hA (zb_none _) rfl hl.1 rfl (Nat.le_of_ble_eq_true rfl) dX2_measures_153 ⟨Nat.le_refl _, Nat.le_refl _⟩ (fun H locs hP hD hS => ?_)
                                    obtain ⟨h55, h⟩ := it_g h
                                    refine va_iast hx hb hK.1 hP hD hS 9 0 rfl rfl h55 dX2_measures_156 (fun H locs hP hD hS => ?_)
                                    have hP : va_P D zb_cl (zb_M cI ad m_s m_m m_image m_was m_hasImage m_letters m_row m_refused m_letterMany m_rowMany m_place m_numbers (upd x45 r48.toNatClampNeg r53) m_seed) H := hP
                                    have hD : va_D A (zb_M cI ad m_s m_m m_image m_was m_hasImage m_letters m_row m_refused m_letterMany m_rowMany m_place m_numbers (upd x45 r48.toNatClampNeg r53) m_seed) := hD
                                    refine lv_iinc (v := (x44 + (1 : Int32))) (lv' := [(6, .int (x44 + (1 : Int32))), (7, .int r48), (0, .ref (ad 0)), (2, .int v2), (3, .int x5), (4, .int x9), (5, .int (1 : Int32))]) hx hb dX2_measures_157 hl (k := 6) rfl (by first | rfl | decide) (by decide) rfl (fun ls hl => ?_)
                                    refine lv_goto (tgt := 110) hx hb dX2_measures_160 (by decide) ?_
                                    exact ih46 (x44 + (1 : Int32)) (upd x45 r48.toNatClampNeg r53) _ _ hP hD hS ls (lv_sub hl [2, 3, 4, 5, 6, 0] rfl) h
                            exact lp46 zb_FU (0 : Int32) x10 _ _ hP hD hS ls (lv_sub hl [2, 3, 4, 5, 1, 0] rfl) h
                      · replace h := it_t c15 h
                        refine lv_aload_n hx hb dX2_measures_65 rfl (lv_at hl 0 rfl) ?_
                        refine va_get (D := D) (ci := 2) (v := .ref (ad 1)) (C := RX2) (T := TX2) (N := 14) hx hb hts zi_X2_measures_X2 hown hK.1 hP 0 rfl rfl 0 (by decide) (hts _ zk_X2_measures_2) (fun _ h9 => h9) rfl dX2_measures_66 ?_
                        refine lv_iload hx hb dX2_measures_69 (lv_at hl 3 rfl) ?_
                        obtain ⟨r56, g57, h⟩ := bo1 h
                        refine zb_callS (As := [.ref (ad 1), .int x9]) (rest := []) ⟨hx, hb, hml, hown, hts⟩ (zc_X2_isDry l D cI (ad 1) m_s x9 r56 g57) (va_cwS 2 hts gX2_measures_X2_isDry rfl rfl rfl hd_X2_isDry.2 ⟨Nat.le_of_ble_eq_true rfl, Nat.le_of_ble_eq_true rfl⟩) hK hP hD hS hA (zb_cM_s) rfl hl.1 rfl (Nat.le_of_ble_eq_true rfl) dX2_measures_71 ⟨Nat.le_refl _, Nat.le_refl _⟩ (fun H locs hP hD hS => ?_)
                        refine lv_if_eq (tgt := 80) hx hb dX2_measures_74 (by decide) (fun c58 => ?_) (fun c58 => ?_)
                        · replace h := it_t c58 h
                          refine lv_iload_n hx hb dX2_measures_80 rfl (lv_at hl 1 rfl) ?_
                          refine lv_if_eq (tgt := 104) hx hb dX2_measures_81 (by decide) (fun c59 => ?_) (fun c59 => ?_)
                          · replace h := it_t c59 h
                            refine lv_iconst (v := (1 : Int32)) hx hb dX2_measures_104 (by decide) ?_
                            refine lv_istore (lv' := [(5, .int (1 : Int32)), (0, .ref (ad 0)), (2, .int v2), (3, .int x5), (4, .int x9)]) hx hb dX2_measures_105 hl (by decide) rfl (fun ls hl => ?_)
                            refine lv_iconst (v := (0 : Int32)) hx hb dX2_measures_107 (by decide) ?_
                            refine lv_istore (lv' := [(6, .int (0 : Int32)), (5, .int (1 : Int32)), (0, .ref (ad 0)), (2, .int v2), (3, .int x5), (4, .int x9)]) hx hb dX2_measures_108 hl (by decide) rfl (fun ls hl => ?_)
                            have lp62 : ∀ (fu62 : Nat) (x60 : Int32) (x61 : (Nat → Int32)) (H : Heap) (locs : List Loc) (hP : va_P D zb_cl (zb_M cI ad m_s m_m m_image m_was m_hasImage m_letters m_row m_refused m_letterMany m_rowMany m_place m_numbers x61 m_seed) H) (hD : va_D A (zb_M cI ad m_s m_m m_image m_was m_hasImage m_letters m_row m_refused m_letterMany m_rowMany m_place m_numbers x61 m_seed)) (hS : va_S A s.heap H locs) (ls : Array Slot) (hl : lv_has ls 8 [(0, .ref (ad 0)), (2, .int v2), (3, .int x5), (4, .int x9), (5, .int (1 : Int32)), (6, .int x60)]) (h : zl2 (zf_X2_measures_b110 (zl2 (zf_X2_measures_b42 (zl2 (zf_X2_measures_b33 v2 m_s) fu7) v2 x5 m_s) fu11) x9 (1 : Int32)) fu62 x60 x61 = some w_m_cost), W p l e rm_X2_measures s m args below meth c H locs 0 0 (zb_Q below D none (zb_M cI ad m_s m_m m_image m_was m_hasImage m_letters m_row m_refused m_letterMany m_rowMany m_place m_numbers w_m_cost m_seed) A args s) (F0 m 110 ls []) := by
                              intro fu62
                              induction fu62 with
                              | zero => intro x60 x61 H locs hP hD hS ls hl h; exact zb_no h
                              | succ fu62 ih62 =>
                                intro x60 x61 H locs hP hD hS ls hl h
                                replace h : zf_X2_measures_b110 (zl2 (zf_X2_measures_b42 (zl2 (zf_X2_measures_b33 v2 m_s) fu7) v2 x5 m_s) fu11) x9 (1 : Int32) (zl2 (zf_X2_measures_b110 (zl2 (zf_X2_measures_b42 (zl2 (zf_X2_measures_b33 v2 m_s) fu7) v2 x5 m_s) fu11) x9 (1 : Int32)) fu62) x60 x61 = some w_m_cost := h
                                unfold zf_X2_measures_b110 at h
                                refine lv_iload hx hb dX2_measures_110 (lv_at hl 5 rfl) ?_
                                refine lv_iconst (v := (4 : Int32)) hx hb dX2_measures_112 (by decide) ?_
                                refine lv_icmp_ge (tgt := 163) hx hb dX2_measures_113 (by decide) (fun c63 => ?_) (fun c63 => ?_)
                                · replace h := it_t c63 h
                                  refine lv_iinc (v := (x9 + (1 : Int32))) (lv' := [(4, .int (x9 + (1 : Int32))), (0, .ref (ad 0)), (2, .int v2), (3, .int x5), (5, .int (1 : Int32)), (6, .int x60)]) hx hb dX2_measures_163 hl (k := 3) rfl (by first | rfl | decide) (by decide) rfl (fun ls hl => ?_)
                                  refine lv_goto (tgt := 42) hx hb dX2_measures_166 (by decide) ?_
                                  exact ih11 (x9 + (1 : Int32)) x61 _ _ hP hD hS ls (lv_sub hl [1, 2, 3, 0] rfl) h
                                · replace h := it_f c63 h
                                  refine lv_iload hx hb dX2_measures_116 (lv_at hl 3 rfl) ?_
                                  refine lv_iload hx hb dX2_measures_118 (lv_at hl 5 rfl) ?_
                                  obtain ⟨r64, g65, h⟩ := bo1 h
                                  refine zb_callS (As := [.int x9, .int x60]) (rest := []) ⟨hx, hb, hml, hown, hts⟩ (zc_X2_nodeThere l D cI x9 x60 r64 g65) (va_cwS 2 hts gX2_measures_X2_nodeThere rfl rfl rfl hd_X2_nodeThere.2 ⟨Nat.le_of_ble_eq_true rfl, Nat.le_of_ble_eq_true rfl⟩) hK hP hD hS hA (zb_none _) rfl hl.1 rfl (Nat.le_of_ble_eq_true rfl) dX2_measures_120 ⟨Nat.le_refl _, Nat.le_refl _⟩ (fun H locs hP hD hS => ?_)
                                  refine lv_istore (lv' := [(7, .int r64), (0, .ref (ad 0)), (2, .int v2), (3, .int x5), (4, .int x9), (5, .int (1 : Int32)), (6, .int x60)]) hx hb dX2_measures_123 hl (by decide) rfl (fun ls hl => ?_)
                                  refine lv_iload hx hb dX2_measures_125 (lv_at hl 0 rfl) ?_
                                  refine lv_if_lt (tgt := 157) hx hb dX2_measures_127 (by decide) (fun c66 => ?_) (fun c66 => ?_)
                                  · replace h := it_t c66 h
                                    refine lv_iinc (v := (x60 + (1 : Int32))) (lv' := [(6, .int (x60 + (1 : Int32))), (7, .int r64), (0, .ref (ad 0)), (2, .int v2), (3, .int x5), (4, .int x9), (5, .int (1 : Int32))]) hx hb dX2_measures_157 hl (k := 6) rfl (by first | rfl | decide) (by decide) rfl (fun ls hl => ?_)
                                    refine lv_goto (tgt := 110) hx hb dX2_measures_160 (by decide) ?_
                                    exact ih62 (x60 + (1 : Int32)) x61 _ _ hP hD hS ls (lv_sub hl [2, 3, 4, 5, 6, 0] rfl) h
                                  · replace h := it_f c66 h
                                    refine lv_aload_n hx hb dX2_measures_130 rfl (lv_at hl 1 rfl) ?_
                                    refine va_get (D := D) (ci := 2) (v := .ref (ad 9)) (C := RX2) (T := TX2) (N := 14) hx hb hts zi_X2_measures_X2 hown hK.1 hP 0 rfl rfl 12 (by decide) (hts _ zk_X2_measures_0) (fun _ h9 => h9) rfl dX2_measures_131 ?_
                                    refine lv_iload hx hb dX2_measures_134 (lv_at hl 0 rfl) ?_
                                    refine lv_aload_n hx hb dX2_measures_136 rfl (lv_at hl 1 rfl) ?_
                                    refine va_get (D := D) (ci := 2) (v := .ref (ad 9)) (C := RX2) (T := TX2) (N := 14) hx hb hts zi_X2_measures_X2 hown hK.1 hP 0 rfl rfl 12 (by decide) (hts _ zk_X2_measures_0) (fun _ h9 => h9) rfl dX2_measures_137 ?_
                                    refine lv_iload hx hb dX2_measures_140 (lv_at hl 0 rfl) ?_
                                    obtain ⟨h67, h⟩ := it_g h
                                    refine va_iald hx hb hK.1 hP 9 0 rfl rfl h67 dX2_measures_142 ?_
                                    refine lv_aload_n hx hb dX2_measures_143 rfl (lv_at hl 1 rfl) ?_
                                    refine va_get (D := D) (ci := 2) (v := .ref (ad 9)) (C := RX2) (T := TX2) (N := 14) hx hb hts zi_X2_measures_X2 hown hK.1 hP 0 rfl rfl 12 (by decide) (hts _ zk_X2_measures_0) (fun _ h9 => h9) rfl dX2_measures_144 ?_
                                    refine lv_iload hx hb dX2_measures_147 (lv_at hl 4 rfl) ?_
                                    obtain ⟨h68, h⟩ := it_g h
                                    refine va_iald hx hb hK.1 hP 9 0 rfl rfl h68 dX2_measures_149 ?_
                                    refine lv_iload hx hb dX2_measures_150 (lv_at hl 5 rfl) ?_
                                    refine lv_iadd hx hb dX2_measures_152 ?_
                                    obtain ⟨r69, g70, h⟩ := bo1 h
                                    refine zb_callS (As := [.int (x61 r64.toNatClampNeg), .int ((x61 x9.toNatClampNeg) + (1 : Int32))]) (rest := [.int r64, .ref (ad 9)]) ⟨hx, hb, hml, hown, hts⟩ (zc_X2_least l D cI (x61 r64.toNatClampNeg) ((x61 x9.toNatClampNeg) + (1 : Int32)) r69 g70) (va_cwS 2 hts gX2_measures_X2_least rfl rfl rfl hd_X2_least.2 ⟨Nat.le_of_ble_eq_true rfl, Nat.le_of_ble_eq_true rfl⟩) hK hP hD hS hA (zb_none _) rfl hl.1 rfl (Nat.le_of_ble_eq_true rfl) dX2_measures_153 ⟨Nat.le_refl _, Nat.le_refl _⟩ (fun H locs hP hD hS => ?_)
                                    obtain ⟨h71, h⟩ := it_g h
                                    refine va_iast hx hb hK.1 hP hD hS 9 0 rfl rfl h71 dX2_measures_156 (fun H locs hP hD hS => ?_)
                                    have hP : va_P D zb_cl (zb_M cI ad m_s m_m m_image m_was m_hasImage m_letters m_row m_refused m_letterMany m_rowMany m_place m_numbers (upd x61 r64.toNatClampNeg r69) m_seed) H := hP
                                    have hD : va_D A (zb_M cI ad m_s m_m m_image m_was m_hasImage m_letters m_row m_refused m_letterMany m_rowMany m_place m_numbers (upd x61 r64.toNatClampNeg r69) m_seed) := hD
                                    refine lv_iinc (v := (x60 + (1 : Int32))) (lv' := [(6, .int (x60 + (1 : Int32))), (7, .int r64), (0, .ref (ad 0)), (2, .int v2), (3, .int x5), (4, .int x9), (5, .int (1 : Int32))]) hx hb dX2_measures_157 hl (k := 6) rfl (by first | rfl | decide) (by decide) rfl (fun ls hl => ?_)
                                    refine lv_goto (tgt := 110) hx hb dX2_measures_160 (by decide) ?_
                                    exact ih62 (x60 + (1 : Int32)) (upd x61 r64.toNatClampNeg r69) _ _ hP hD hS ls (lv_sub hl [2, 3, 4, 5, 6, 0] rfl) h
                            exact lp62 zb_FU (0 : Int32) x10 _ _ hP hD hS ls (lv_sub hl [2, 3, 4, 5, 1, 0] rfl) h
                          · replace h := it_f c59 h
                            refine lv_aload_n hx hb dX2_measures_84 rfl (lv_at hl 0 rfl) ?_
                            refine va_get (D := D) (ci := 2) (v := .ref (ad 1)) (C := RX2) (T := TX2) (N := 14) hx hb hts zi_X2_measures_X2 hown hK.1 hP 0 rfl rfl 0 (by decide) (hts _ zk_X2_measures_2) (fun _ h9 => h9) rfl dX2_measures_85 ?_
                            refine lv_iload hx hb dX2_measures_88 (lv_at hl 3 rfl) ?_
                            obtain ⟨r72, g73, h⟩ := bo1 h
                            refine zb_callS (As := [.ref (ad 1), .int x9]) (rest := []) ⟨hx, hb, hml, hown, hts⟩ (zc_X2_isDry l D cI (ad 1) m_s x9 r72 g73) (va_cwS 2 hts gX2_measures_X2_isDry rfl rfl rfl hd_X2_isDry.2 ⟨Nat.le_of_ble_eq_true rfl, Nat.le_of_ble_eq_true rfl⟩) hK hP hD hS hA (zb_cM_s) rfl hl.1 rfl (Nat.le_of_ble_eq_true rfl) dX2_measures_90 ⟨Nat.le_refl _, Nat.le_refl _⟩ (fun H locs hP hD hS => ?_)
                            refine lv_if_eq (tgt := 100) hx hb dX2_measures_93 (by decide) (fun c74 => ?_) (fun c74 => ?_)
                            · replace h := it_t c74 h
                              refine lv_iconst (v := (0 : Int32)) hx hb dX2_measures_100 (by decide) ?_
                              refine lv_goto (tgt := 105) hx hb dX2_measures_101 (by decide) ?_
                              refine lv_istore (lv' := [(5, .int (0 : Int32)), (0, .ref (ad 0)), (2, .int v2), (3, .int x5), (4, .int x9)]) hx hb dX2_measures_105 hl (by decide) rfl (fun ls hl => ?_)
                              refine lv_iconst (v := (0 : Int32)) hx hb dX2_measures_107 (by decide) ?_
                              refine lv_istore (lv' := [(6, .int (0 : Int32)), (5, .int (0 : Int32)), (0, .ref (ad 0)), (2, .int v2), (3, .int x5), (4, .int x9)]) hx hb dX2_measures_108 hl (by decide) rfl (fun ls hl => ?_)
                              have lp77 : ∀ (fu77 : Nat) (x75 : Int32) (x76 : (Nat → Int32)) (H : Heap) (locs : List Loc) (hP : va_P D zb_cl (zb_M cI ad m_s m_m m_image m_was m_hasImage m_letters m_row m_refused m_letterMany m_rowMany m_place m_numbers x76 m_seed) H) (hD : va_D A (zb_M cI ad m_s m_m m_image m_was m_hasImage m_letters m_row m_refused m_letterMany m_rowMany m_place m_numbers x76 m_seed)) (hS : va_S A s.heap H locs) (ls : Array Slot) (hl : lv_has ls 8 [(0, .ref (ad 0)), (2, .int v2), (3, .int x5), (4, .int x9), (5, .int (0 : Int32)), (6, .int x75)]) (h : zl2 (zf_X2_measures_b110 (zl2 (zf_X2_measures_b42 (zl2 (zf_X2_measures_b33 v2 m_s) fu7) v2 x5 m_s) fu11) x9 (0 : Int32)) fu77 x75 x76 = some w_m_cost), W p l e rm_X2_measures s m args below meth c H locs 0 0 (zb_Q below D none (zb_M cI ad m_s m_m m_image m_was m_hasImage m_letters m_row m_refused m_letterMany m_rowMany m_place m_numbers w_m_cost m_seed) A args s) (F0 m 110 ls []) := by
                                intro fu77
                                induction fu77 with
                                | zero => intro x75 x76 H locs hP hD hS ls hl h; exact zb_no h
                                | succ fu77 ih77 =>
                                  intro x75 x76 H locs hP hD hS ls hl h
                                  replace h : zf_X2_measures_b110 (zl2 (zf_X2_measures_b42 (zl2 (zf_X2_measures_b33 v2 m_s) fu7) v2 x5 m_s) fu11) x9 (0 : Int32) (zl2 (zf_X2_measures_b110 (zl2 (zf_X2_measures_b42 (zl2 (zf_X2_measures_b33 v2 m_s) fu7) v2 x5 m_s) fu11) x9 (0 : Int32)) fu77) x75 x76 = some w_m_cost := h
                                  unfold zf_X2_measures_b110 at h
                                  refine lv_iload hx hb dX2_measures_110 (lv_at hl 5 rfl) ?_
                                  refine lv_iconst (v := (4 : Int32)) hx hb dX2_measures_112 (by decide) ?_
                                  refine lv_icmp_ge (tgt := 163) hx hb dX2_measures_113 (by decide) (fun c78 => ?_) (fun c78 => ?_)
                                  · replace h := it_t c78 h
                                    refine lv_iinc (v := (x9 + (1 : Int32))) (lv' := [(4, .int (x9 + (1 : Int32))), (0, .ref (ad 0)), (2, .int v2), (3, .int x5), (5, .int (0 : Int32)), (6, .int x75)]) hx hb dX2_measures_163 hl (k := 3) rfl (by first | rfl | decide) (by decide) rfl (fun ls hl => ?_)
                                    refine lv_goto (tgt := 42) hx hb dX2_measures_166 (by decide) ?_
                                    exact ih11 (x9 + (1 : Int32)) x76 _ _ hP hD hS ls (lv_sub hl [1, 2, 3, 0] rfl) h
                                  · replace h := it_f c78 h
                                    refine lv_iload hx hb dX2_measures_116 (lv_at hl 3 rfl) ?_
                                    refine lv_iload hx hb dX2_measures_118 (lv_at hl 5 rfl) ?_
                                    obtain ⟨r79, g80, h⟩ := bo1 h
                                    refine zb_callS (As := [.int x9, .int x75]) (rest := []) ⟨hx, hb, hml, hown, hts⟩ (zc_X2_nodeThere l D cI x9 x75 r79 g80) (va_cwS 2 hts gX2_measures_X2_nodeThere rfl rfl rfl hd_X2_nodeThere.2 ⟨Nat.le_of_ble_eq_true rfl, Nat.le_of_ble_eq_true rfl⟩) hK hP hD hS hA (zb_none _) rfl hl.1 rfl (Nat.le_of_ble_eq_true rfl) dX2_measures_120 ⟨Nat.le_refl _, Nat.le_refl _⟩ (fun H locs hP hD hS => ?_)
                                    refine lv_istore (lv' := [(7, .int r79), (0, .ref (ad 0)), (2, .int v2), (3, .int x5), (4, .int x9), (5, .int (0 : Int32)), (6, .int x75)]) hx hb dX2_measures_123 hl (by decide) rfl (fun ls hl => ?_)
                                    refine lv_iload hx hb dX2_measures_125 (lv_at hl 0 rfl) ?_
                                    refine lv_if_lt (tgt := 157) hx hb dX2_measures_127 (by decide) (fun c81 => ?_) (fun c81 => ?_)
                                    · replace h := it_t c81 h
                                      refine lv_iinc (v := (x75 + (1 : Int32))) (lv' := [(6, .int (x75 + (1 : Int32))), (7, .int r79), (0, .ref (ad 0)), (2, .int v2), (3, .int x5), (4, .int x9), (5, .int (0 : Int32))]) hx hb dX2_measures_157 hl (k := 6) rfl (by first | rfl | decide) (by decide) rfl (fun ls hl => ?_)
                                      refine lv_goto (tgt := 110) hx hb dX2_measures_160 (by decide) ?_
                                      exact ih77 (x75 + (1 : Int32)) x76 _ _ hP hD hS ls (lv_sub hl [2, 3, 4, 5, 6, 0] rfl) h
                                    · replace h := it_f c81 h
                                      refine lv_aload_n hx hb dX2_measures_130 rfl (lv_at hl 1 rfl) ?_
                                      refine va_get (D := D) (ci := 2) (v := .ref (ad 9)) (C := RX2) (T := TX2) (N := 14) hx hb hts zi_X2_measures_X2 hown hK.1 hP 0 rfl rfl 12 (by decide) (hts _ zk_X2_measures_0) (fun _ h9 => h9) rfl dX2_measures_131 ?_
                                      refine lv_iload hx hb dX2_measures_134 (lv_at hl 0 rfl) ?_
                                      refine lv_aload_n hx hb dX2_measures_136 rfl (lv_at hl 1 rfl) ?_
                                      refine va_get (D := D) (ci := 2) (v := .ref (ad 9)) (C := RX2) (T := TX2) (N := 14) hx hb hts zi_X2_measures_X2 hown hK.1 hP 0 rfl rfl 12 (by decide) (hts _ zk_X2_measures_0) (fun _ h9 => h9) rfl dX2_measures_137 ?_
                                      refine lv_iload hx hb dX2_measures_140 (lv_at hl 0 rfl) ?_
                                      obtain ⟨h82, h⟩ := it_g h
                                      refine va_iald hx hb hK.1 hP 9 0 rfl rfl h82 dX2_measures_142 ?_
                                      refine lv_aload_n hx hb dX2_measures_143 rfl (lv_at hl 1 rfl) ?_
                                      refine va_get (D := D) (ci := 2) (v := .ref (ad 9)) (C := RX2) (T := TX2) (N := 14) hx hb hts zi_X2_measures_X2 hown hK.1 hP 0 rfl rfl 12 (by decide) (hts _ zk_X2_measures_0) (fun _ h9 => h9) rfl dX2_measures_144 ?_
                                      refine lv_iload hx hb dX2_measures_147 (lv_at hl 4 rfl) ?_
                                      obtain ⟨h83, h⟩ := it_g h
                                      refine va_iald hx hb hK.1 hP 9 0 rfl rfl h83 dX2_measures_149 ?_
                                      refine lv_iload hx hb dX2_measures_150 (lv_at hl 5 rfl) ?_
                                      refine lv_iadd hx hb dX2_measures_152 ?_
                                      obtain ⟨r84, g85, h⟩ := bo1 h
                                      refine zb_callS (As := [.int (x76 r79.toNatClampNeg), .int ((x76 x9.toNatClampNeg) + (0 : Int32))]) (rest := [.int r79, .ref (ad 9)]) ⟨hx, hb, hml, hown, hts⟩ (zc_X2_least l D cI (x76 r79.toNatClampNeg) ((x76 x9.toNatClampNeg) + (0 : Int32)) r84 g85) (va_cwS 2 hts gX2_measures_X2_least rfl rfl rfl hd_X2_least.2 ⟨Nat.le_of_ble_eq_true rfl, Nat.le_of_ble_eq_true rfl⟩) hK hP hD hS hA (zb_none _) rfl hl.1 rfl (Nat.le_of_ble_eq_true rfl) dX2_measures_153 ⟨Nat.le_refl _, Nat.le_refl _⟩ (fun H locs hP hD hS => ?_)
                                      obtain ⟨h86, h⟩ := it_g h
                                      refine va_iast hx hb hK.1 hP hD hS 9 0 rfl rfl h86 dX2_measures_156 (fun H locs hP hD hS => ?_)
                                      have hP : va_P D zb_cl (zb_M cI ad m_s m_m m_image m_was m_hasImage m_letters m_row m_refused m_letterMany m_rowMany m_place m_numbers (upd x76 r79.toNatClampNeg r84) m_seed) H := hP
                                      have hD : va_D A (zb_M cI ad m_s m_m m_image m_was m_hasImage m_letters m_row m_refused m_letterMany m_rowMany m_place m_numbers (upd x76 r79.toNatClampNeg r84) m_seed) := hD
                                      refine lv_iinc (v := (x75 + (1 : Int32))) (lv' := [(6, .int (x75 + (1 : Int32))), (7, .int r79), (0, .ref (ad 0)), (2, .int v2), (3, .int x5), (4, .int x9), (5, .int (0 : Int32))]) hx hb dX2_measures_157 hl (k := 6) rfl (by first | rfl | decide) (by decide) rfl (fun ls hl => ?_)
                                      refine lv_goto (tgt := 110) hx hb dX2_measures_160 (by decide) ?_
                                      exact ih77 (x75 + (1 : Int32)) (upd x76 r79.toNatClampNeg r84) _ _ hP hD hS ls (lv_sub hl [2, 3, 4, 5, 6, 0] rfl) h
                              exact lp77 zb_FU (0 : Int32) x10 _ _ hP hD hS ls (lv_sub hl [2, 3, 4, 5, 1, 0] rfl) h
                            · replace h := it_f c74 h
                              refine lv_iconst (v := (1 : Int32)) hx hb dX2_measures_96 (by decide) ?_
                              refine lv_goto (tgt := 105) hx hb dX2_measures_97 (by decide) ?_
                              refine lv_istore (lv' := [(5, .int (1 : Int32)), (0, .ref (ad 0)), (2, .int v2), (3, .int x5), (4, .int x9)]) hx hb dX2_measures_105 hl (by decide) rfl (fun ls hl => ?_)
                              refine lv_iconst (v := (0 : Int32)) hx hb dX2_measures_107 (by decide) ?_
                              refine lv_istore (lv' := [(6, .int (0 : Int32)), (5, .int (1 : Int32)), (0, .ref (ad 0)), (2, .int v2), (3, .int x5), (4, .int x9)]) hx hb dX2_measures_108 hl (by decide) rfl (fun ls hl => ?_)
                              have lp89 : ∀ (fu89 : Nat) (x87 : Int32) (x88 : (Nat → Int32)) (H : Heap) (locs : List Loc) (hP : va_P D zb_cl (zb_M cI ad m_s m_m m_image m_was m_hasImage m_letters m_row m_refused m_letterMany m_rowMany m_place m_numbers x88 m_seed) H) (hD : va_D A (zb_M cI ad m_s m_m m_image m_was m_hasImage m_letters m_row m_refused m_letterMany m_rowMany m_place m_numbers x88 m_seed)) (hS : va_S A s.heap H locs) (ls : Array Slot) (hl : lv_has ls 8 [(0, .ref (ad 0)), (2, .int v2), (3, .int x5), (4, .int x9), (5, .int (1 : Int32)), (6, .int x87)]) (h : zl2 (zf_X2_measures_b110 (zl2 (zf_X2_measures_b42 (zl2 (zf_X2_measures_b33 v2 m_s) fu7) v2 x5 m_s) fu11) x9 (1 : Int32)) fu89 x87 x88 = some w_m_cost), W p l e rm_X2_measures s m args below meth c H locs 0 0 (zb_Q below D none (zb_M cI ad m_s m_m m_image m_was m_hasImage m_letters m_row m_refused m_letterMany m_rowMany m_place m_numbers w_m_cost m_seed) A args s) (F0 m 110 ls []) := by
                                intro fu89
                                induction fu89 with
                                | zero => intro x87 x88 H locs hP hD hS ls hl h; exact zb_no h
                                | succ fu89 ih89 =>
                                  intro x87 x88 H locs hP hD hS ls hl h
                                  replace h : zf_X2_measures_b110 (zl2 (zf_X2_measures_b42 (zl2 (zf_X2_measures_b33 v2 m_s) fu7) v2 x5 m_s) fu11) x9 (1 : Int32) (zl2 (zf_X2_measures_b110 (zl2 (zf_X2_measures_b42 (zl2 (zf_X2_measures_b33 v2 m_s) fu7) v2 x5 m_s) fu11) x9 (1 : Int32)) fu89) x87 x88 = some w_m_cost := h
                                  unfold zf_X2_measures_b110 at h
                                  refine lv_iload hx hb dX2_measures_110 (lv_at hl 5 rfl) ?_
                                  refine lv_iconst (v := (4 : Int32)) hx hb dX2_measures_112 (by decide) ?_
                                  refine lv_icmp_ge (tgt := 163) hx hb dX2_measures_113 (by decide) (fun c90 => ?_) (fun c90 => ?_)
                                  · replace h := it_t c90 h
                                    refine lv_iinc (v := (x9 + (1 : Int32))) (lv' := [(4, .int (x9 + (1 : Int32))), (0, .ref (ad 0)), (2, .int v2), (3, .int x5), (5, .int (1 : Int32)), (6, .int x87)]) hx hb dX2_measures_163 hl (k := 3) rfl (by first | rfl | decide) (by decide) rfl (fun ls hl => ?_)
                                    refine lv_goto (tgt := 42) hx hb dX2_measures_166 (by decide) ?_
                                    exact ih11 (x9 + (1 : Int32)) x88 _ _ hP hD hS ls (lv_sub hl [1, 2, 3, 0] rfl) h
                                  · replace h := it_f c90 h
                                    refine lv_iload hx hb dX2_measures_116 (lv_at hl 3 rfl) ?_
                                    refine lv_iload hx hb dX2_measures_118 (lv_at hl 5 rfl) ?_
                                    obtain ⟨r91, g92, h⟩ := bo1 h
                                    refine zb_callS (As := [.int x9, .int x87]) (rest := []) ⟨hx, hb, hml, hown, hts⟩ (zc_X2_nodeThere l D cI x9 x87 r91 g92) (va_cwS 2 hts gX2_measures_X2_nodeThere rfl rfl rfl hd_X2_nodeThere.2 ⟨Nat.le_of_ble_eq_true rfl, Nat.le_of_ble_eq_true rfl⟩) hK hP hD hS hA (zb_none _) rfl hl.1 rfl (Nat.le_of_ble_eq_true rfl) dX2_measures_120 ⟨Nat.le_refl _, Nat.le_refl _⟩ (fun H locs hP hD hS => ?_)
                                    refine lv_istore (lv' := [(7, .int r91), (0, .ref (ad 0)), (2, .int v2), (3, .int x5), (4, .int x9), (5, .int (1 : Int32)), (6, .int x87)]) hx hb dX2_measures_123 hl (by decide) rfl (fun ls hl => ?_)
                                    refine lv_iload hx hb dX2_measures_125 (lv_at hl 0 rfl) ?_
                                    refine lv_if_lt (tgt := 157) hx hb dX2_measures_127 (by decide) (fun c93 => ?_) (fun c93 => ?_)
                                    · replace h := it_t c93 h
                                      refine lv_iinc (v := (x87 + (1 : Int32))) (lv' := [(6, .int (x87 + (1 : Int32))), (7, .int r91), (0, .ref (ad 0)), (2, .int v2), (3, .int x5), (4, .int x9), (5, .int (1 : Int32))]) hx hb dX2_measures_157 hl (k := 6) rfl (by first | rfl | decide) (by decide) rfl (fun ls hl => ?_)
                                      refine lv_goto (tgt := 110) hx hb dX2_measures_160 (by decide) ?_
                                      exact ih89 (x87 + (1 : Int32)) x88 _ _ hP hD hS ls (lv_sub hl [2, 3, 4, 5, 6, 0] rfl) h
                                    · replace h := it_f c93 h
                                      refine lv_aload_n hx hb dX2_measures_130 rfl (lv_at hl 1 rfl) ?_
                                      refine va_get (D := D) (ci := 2) (v := .ref (ad 9)) (C := RX2) (T := TX2) (N := 14) hx hb hts zi_X2_measures_X2 hown hK.1 hP 0 rfl rfl 12 (by decide) (hts _ zk_X2_measures_0) (fun _ h9 => h9) rfl dX2_measures_131 ?_
                                      refine lv_iload hx hb dX2_measures_134 (lv_at hl 0 rfl) ?_
                                      refine lv_aload_n hx hb dX2_measures_136 rfl (lv_at hl 1 rfl) ?_
                                      refine va_get (D := D) (ci := 2) (v := .ref (ad 9)) (C := RX2) (T := TX2) (N := 14) hx hb hts zi_X2_measures_X2 hown hK.1 hP 0 rfl rfl 12 (by decide) (hts _ zk_X2_measures_0) (fun _ h9 => h9) rfl dX2_measures_137 ?_
                                      refine lv_iload hx hb dX2_measures_140 (lv_at hl 0 rfl) ?_
                                      obtain ⟨h94, h⟩ := it_g h
                                      refine va_iald hx hb hK.1 hP 9 0 rfl rfl h94 dX2_measures_142 ?_
                                      refine lv_aload_n hx hb dX2_measures_143 rfl (lv_at hl 1 rfl) ?_
                                      refine va_get (D := D) (ci := 2) (v := .ref (ad 9)) (C := RX2) (T := TX2) (N := 14) hx hb hts zi_X2_measures_X2 hown hK.1 hP 0 rfl rfl 12 (by decide) (hts _ zk_X2_measures_0) (fun _ h9 => h9) rfl dX2_measures_144 ?_
                                      refine lv_iload hx hb dX2_measures_147 (lv_at hl 4 rfl) ?_
                                      obtain ⟨h95, h⟩ := it_g h
                                      refine va_iald hx hb hK.1 hP 9 0 rfl rfl h95 dX2_measures_149 ?_
                                      refine lv_iload hx hb dX2_measures_150 (lv_at hl 5 rfl) ?_
                                      refine lv_iadd hx hb dX2_measures_152 ?_
                                      obtain ⟨r96, g97, h⟩ := bo1 h
                                      refine zb_callS (As := [.int (x88 r91.toNatClampNeg), .int ((x88 x9.toNatClampNeg) + (1 : Int32))]) (rest := [.int r91, .ref (ad 9)]) ⟨hx, hb, hml, hown, hts⟩ (zc_X2_least l D cI (x88 r91.toNatClampNeg) ((x88 x9.toNatClampNeg) + (1 : Int32)) r96 g97) (va_cwS 2 hts gX2_measures_X2_least rfl rfl rfl hd_X2_least.2 ⟨Nat.le_of_ble_eq_true rfl, Nat.le_of_ble_eq_true rfl⟩) hK hP hD hS hA (zb_none _) rfl hl.1 rfl (Nat.le_of_ble_eq_true rfl) dX2_measures_153 ⟨Nat.le_refl _, Nat.le_refl _⟩ (fun H locs hP hD hS => ?_)
                                      obtain ⟨h98, h⟩ := it_g h
                                      refine va_iast hx hb hK.1 hP hD hS 9 0 rfl rfl h98 dX2_measures_156 (fun H locs hP hD hS => ?_)
                                      have hP : va_P D zb_cl (zb_M cI ad m_s m_m m_image m_was m_hasImage m_letters m_row m_refused m_letterMany m_rowMany m_place m_numbers (upd x88 r91.toNatClampNeg r96) m_seed) H := hP
                                      have hD : va_D A (zb_M cI ad m_s m_m m_image m_was m_hasImage m_letters m_row m_refused m_letterMany m_rowMany m_place m_numbers (upd x88 r91.toNatClampNeg r96) m_seed) := hD
                                      refine lv_iinc (v := (x87 + (1 : Int32))) (lv' := [(6, .int (x87 + (1 : Int32))), (7, .int r91), (0, .ref (ad 0)), (2, .int v2), (3, .int x5), (4, .int x9), (5, .int (1 : Int32))]) hx hb dX2_measures_157 hl (k := 6) rfl (by first | rfl | decide) (by decide) rfl (fun ls hl => ?_)
                                      refine lv_goto (tgt := 110) hx hb dX2_measures_160 (by decide) ?_
                                      exact ih89 (x87 + (1 : Int32)) (upd x88 r91.toNatClampNeg r96) _ _ hP hD hS ls (lv_sub hl [2, 3, 4, 5, 6, 0] rfl) h
                              exact lp89 zb_FU (0 : Int32) x10 _ _ hP hD hS ls (lv_sub hl [2, 3, 4, 5, 1, 0] rfl) h
                        · replace h := it_f c58 h
                          refine lv_goto (tgt := 163) hx hb dX2_measures_77 (by decide) ?_
                          refine lv_iinc (v := (x9 + (1 : Int32))) (lv' := [(4, .int (x9 + (1 : Int32))), (0, .ref (ad 0)), (2, .int v2), (3, .int x5)]) hx hb dX2_measures_163 hl (k := 3) rfl (by first | rfl | decide) (by decide) rfl (fun ls hl => ?_)
                          refine lv_goto (tgt := 42) hx hb dX2_measures_166 (by decide) ?_
                          exact ih11 (x9 + (1 : Int32)) x10 _ _ hP hD hS ls (lv_sub hl [1, 2, 3, 0] rfl) h
              exact lp11 zb_FU (0 : Int32) x6 _ _ hP hD hS ls (lv_sub hl [1, 2, 3, 0] rfl) h
        exact lp7 zb_FU (0 : Int32) x2 _ _ hP hD hS ls (lv_sub hl [1, 3, 0] rfl) h
      · replace h := it_f c4 h
        refine lv_aload_n hx hb dX2_measures_8 rfl (lv_at hl 0 rfl) ?_
        refine va_get (D := D) (ci := 2) (v := .ref (ad 9)) (C := RX2) (T := TX2) (N := 14) hx hb hts zi_X2_measures_X2 hown hK.1 hP 0 rfl rfl 12 (by decide) (hts _ zk_X2_measures_0) (fun _ h9 => h9) rfl dX2_measures_9 ?_
        refine lv_iload_n hx hb dX2_measures_12 rfl (lv_at hl 3 rfl) ?_
        refine lv_iload_n hx hb dX2_measures_13 rfl (lv_at hl 3 rfl) ?_
        refine lv_iload_n hx hb dX2_measures_14 rfl (lv_at hl 1 rfl) ?_
        refine lv_icmp_ne (tgt := 22) hx hb dX2_measures_15 (by decide) (fun c99 => ?_) (fun c99 => ?_)
        · replace h := it_f c99 h
          refine lv_ldc (v := (1000000000 : Int32)) hx hb hown (hts _ zk_X2_measures_1) dX2_measures_22 ?_
          obtain ⟨h100, h⟩ := it_g h
          refine va_iast hx hb hK.1 hP hD hS 9 0 rfl rfl h100 dX2_measures_24 (fun H locs hP hD hS => ?_)
          have hP : va_P D zb_cl (zb_M cI ad m_s m_m m_image m_was m_hasImage m_letters m_row m_refused m_letterMany m_rowMany m_place m_numbers (upd x2 x1.toNatClampNeg (1000000000 : Int32)) m_seed) H := hP
          have hD : va_D A (zb_M cI ad m_s m_m m_image m_was m_hasImage m_letters m_row m_refused m_letterMany m_rowMany m_place m_numbers (upd x2 x1.toNatClampNeg (1000000000 : Int32)) m_seed) := hD
          refine lv_iinc (v := (x1 + (1 : Int32))) (lv' := [(3, .int (x1 + (1 : Int32))), (0, .ref (ad 0)), (1, .int v1), (2, .int v2)]) hx hb dX2_measures_25 hl (k := 3) rfl (by first | rfl | decide) (by decide) rfl (fun ls hl => ?_)
          refine lv_goto (tgt := 2) hx hb dX2_measures_28 (by decide) ?_
          exact ih3 (x1 + (1 : Int32)) (upd x2 x1.toNatClampNeg (1000000000 : Int32)) _ _ hP hD hS ls (lv_sub hl [1, 2, 3, 0] rfl) h
        · replace h := it_t c99 h
          refine lv_iconst (v := (0 : Int32)) hx hb dX2_measures_18 (by decide) ?_
          refine lv_goto (tgt := 24) hx hb dX2_measures_19 (by decide) ?_
          obtain ⟨h101, h⟩ := it_g h
          refine va_iast hx hb hK.1 hP hD hS 9 0 rfl rfl h101 dX2_measures_24 (fun H locs hP hD hS => ?_)
          have hP : va_P D zb_cl (zb_M cI ad m_s m_m m_image m_was m_hasImage m_letters m_row m_refused m_letterMany m_rowMany m_place m_numbers (upd x2 x1.toNatClampNeg (0 : Int32)) m_seed) H := hP
          have hD : va_D A (zb_M cI ad m_s m_m m_image m_was m_hasImage m_letters m_row m_refused m_letterMany m_rowMany m_place m_numbers (upd x2 x1.toNatClampNeg (0 : Int32)) m_seed) := hD
          refine lv_iinc (v := (x1 + (1 : Int32))) (lv' := [(3, .int (x1 + (1 : Int32))), (0, .ref (ad 0)), (1, .int v1), (2, .int v2)]) hx hb dX2_measures_25 hl (k := 3) rfl (by first | rfl | decide) (by decide) rfl (fun ls hl => ?_)
          refine lv_goto (tgt := 2) hx hb dX2_measures_28 (by decide) ?_
          exact ih3 (x1 + (1 : Int32)) (upd x2 x1.toNatClampNeg (0 : Int32)) _ _ hP hD hS ls (lv_sub hl [1, 2, 3, 0] rfl) h
  exact lp3 zb_FU (0 : Int32) m_cost _ _ hP hD hS ls (lv_sub hl [1, 2, 3, 0] rfl) h
abbrev rm_X2_way : Room := { frames := 2, cells := 0, slots := 0, locals := 48 }
theorem hd_X2_way : yX2_way.cls = RX2 ∧ yX2_way.cls ≠ "java/lang/invoke/MethodHandle" ∧ yX2_way.cls ≠ "java/lang/invoke/VarHandle" ∧ (parseMethodDescriptor yX2_way.desc).map (fun d => d.parameters.length) = some 3 := by decide +kernel
theorem zi_X2_way_X2 : ∀ w ∈ wsX20, w ∈ wsX2_way := fun _ h => List.mem_cons_of_mem _ (List.mem_append_right _ h)
theorem zk_X2_way_0 : Cond.fieldLink RX2 34 "GroutingIsFollowedModel" "cost" "[I" ∈ wsX2_way := by decide +kernel
theorem zk_X2_way_1 : Cond.constant RX2 166 (1000000000) ∈ wsX2_way := by decide +kernel
set_option maxHeartbeats 4000000 in
set_option maxRecDepth 100000 in
theorem zc_X2_way (l : Launch) (D : va_G) (cI : ClassId) (ad : Nat → Nat) (m_s : (Nat → Int32)) (m_m : (Nat → Int32)) (m_image : (Nat → Int32)) (m_was : (Nat → Int32)) (m_hasImage : Int32) (m_letters : (Nat → Int32)) (m_row : (Nat → Int32)) (m_refused : (Nat → Int32)) (m_letterMany : Int32) (m_rowMany : Int32) (m_place : Int32) (m_numbers : (Nat → Int32)) (m_cost : (Nat → Int32)) (m_seed : Int32) (v1 : Int32) (v2 : Int32) (v3 : Int32) (r0 : Int32) (w_m_refused : (Nat → Int32)) (w_m_cost : (Nat → Int32)) (h : zf_X2_way m_s m_refused m_cost v1 v2 v3 = some (r0, w_m_refused, w_m_cost)) : Cn l D cI yX2_way wsX2_way rm_X2_way [.ref (ad 0), .int v1, .int v2, .int v3] (zb_M cI ad m_s m_m m_image m_was m_hasImage m_letters m_row m_refused m_letterMany m_rowMany m_place m_numbers m_cost m_seed) (some (.int r0)) (zb_M cI ad m_s m_m m_image m_was m_hasImage m_letters m_row w_m_refused m_letterMany m_rowMany m_place m_numbers w_m_cost m_seed) := by
  refine zb_ofW (cc := cX2_way) (maxL := 4) (ret := (some .int)) (by decide) rfl (Nat.le_of_ble_eq_true rfl) ?_
  intro p e s m args below meth c A ls hx hb hr hml hts hown hlk hK hP hD hA hl
  have hS : va_S A s.heap s.heap [] := va_S.rf
  have hl : lv_has ls 4 [(0, .ref (ad 0)), (1, .int v1), (2, .int v2), (3, .int v3)] := hl
  unfold zf_X2_way at h
  refine lv_iload_n hx hb dX2_way_0 rfl (lv_at hl 1 rfl) ?_
  obtain ⟨r1, g2, h⟩ := bo1 h
  refine zb_callS (As := [.int v1]) (rest := []) ⟨hx, hb, hml, hown, hts⟩ (zc_X2_isNode l D cI v1 r1 g2) (va_cwS 1 hts gX2_way_X2_isNode rfl rfl rfl hd_X2_isNode.2 ⟨Nat.le_of_ble_eq_true rfl, Nat.le_of_ble_eq_true rfl⟩) hK hP hD hS hA (zb_none _) rfl hl.1 rfl (Nat.le_of_ble_eq_true rfl) dX2_way_1 ⟨Nat.le_refl _, Nat.le_refl _⟩ (fun H locs hP hD hS => ?_)
  refine lv_if_eq (tgt := 14) hx hb dX2_way_4 (by decide) (fun c3 => ?_) (fun c3 => ?_)
  · replace h := it_t c3 h
    refine lv_aload_n hx hb dX2_way_14 rfl (lv_at hl 0 rfl) ?_
    refine lv_iconst (v := ((-1) : Int32)) hx hb dX2_way_15 (by decide) ?_
    obtain ⟨r4, n5, g6, h⟩ := bo2 h
    refine zb_callV (As := [.int ((-1) : Int32)]) (rest := []) ⟨hx, hb, hml, hown, hts⟩ (zc_X2_no l D cI ad m_s m_m m_image m_was m_hasImage m_letters m_row m_refused m_letterMany m_rowMany m_place m_numbers m_cost m_seed ((-1) : Int32) r4 n5 g6) (cwV 1 hts gX2_way_X2_no rfl rfl rfl hd_X2_no ⟨Nat.le_of_ble_eq_true rfl, Nat.le_of_ble_eq_true rfl⟩) hK hP hD hS hA (zb_sM) (q0 := 0) rfl rfl rfl hl.1 rfl (Nat.le_of_ble_eq_true rfl) dX2_way_16 ⟨Nat.le_refl _, Nat.le_refl _⟩ (fun H locs hP hD hS => ?_)
    obtain ⟨rfl, rfl, rfl⟩ := re3 h
    exact zb_iret hx hb hr hlk hP hS dX2_way_19
  · replace h := it_f c3 h
    refine lv_iload_n hx hb dX2_way_7 rfl (lv_at hl 2 rfl) ?_
    obtain ⟨r7, g8, h⟩ := bo1 h
    refine zb_callS (As := [.int v2]) (rest := []) ⟨hx, hb, hml, hown, hts⟩ (zc_X2_isNode l D cI v2 r7 g8) (va_cwS 1 hts gX2_way_X2_isNode rfl rfl rfl hd_X2_isNode.2 ⟨Nat.le_of_ble_eq_true rfl, Nat.le_of_ble_eq_true rfl⟩) hK hP hD hS hA (zb_none _) rfl hl.1 rfl (Nat.le_of_ble_eq_true rfl) dX2_way_8 ⟨Nat.le_refl _, Nat.le_refl _⟩ (fun H locs hP hD hS => ?_)
    refine lv_if_ne (tgt := 20) hx hb dX2_way_11 (by decide) (fun c9 => ?_) (fun c9 => ?_)
    · replace h := it_f c9 h
      refine lv_iload_n hx hb dX2_way_20 rfl (lv_at hl 3 rfl) ?_
      refine lv_iconst (v := (0 : Int32)) hx hb dX2_way_21 (by decide) ?_
      refine lv_iconst (v := (1 : Int32)) hx hb dX2_way_22 (by decide) ?_
      obtain ⟨r10, g11, h⟩ := bo1 h
      refine zb_callS (As := [.int v3, .int (0 : Int32), .int (1 : Int32)]) (rest := []) ⟨hx, hb, hml, hown, hts⟩ (zc_X2_isIn l D cI v3 (0 : Int32) (1 : Int32) r10 g11) (va_cwS 3 hts gX2_way_X2_isIn rfl rfl rfl hd_X2_isIn.2 ⟨Nat.le_of_ble_eq_true rfl, Nat.le_of_ble_eq_true rfl⟩) hK hP hD hS hA (zb_none _) rfl hl.1 rfl (Nat.le_of_ble_eq_true rfl) dX2_way_23 ⟨Nat.le_refl _, Nat.le_refl _⟩ (fun H locs hP hD hS => ?_)
      refine lv_if_ne (tgt := 36) hx hb dX2_way_26 (by decide) (fun c12 => ?_) (fun c12 => ?_)
      · replace h := it_f c12 h
        refine lv_aload_n hx hb dX2_way_36 rfl (lv_at hl 0 rfl) ?_
        refine lv_iload_n hx hb dX2_way_37 rfl (lv_at hl 1 rfl) ?_
        refine lv_iload_n hx hb dX2_way_38 rfl (lv_at hl 3 rfl) ?_
        refine lv_iconst (v := (1 : Int32)) hx hb dX2_way_39 (by decide) ?_
        refine lv_icmp_ne (tgt := 47) hx hb dX2_way_40 (by decide) (fun c13 => ?_) (fun c13 => ?_)
        · replace h := it_f c13 h
          refine lv_iconst (v := (0 : Int32)) hx hb dX2_way_47 (by decide) ?_
          obtain ⟨n14, g15, h⟩ := bo1 h
          refine zb_callV (As := [.int v1, .int (0 : Int32)]) (rest := []) ⟨hx, hb, hml, hown, hts⟩ (zc_X2_measures l D cI ad m_s m_m m_image m_was m_hasImage m_letters m_row m_refused m_letterMany m_rowMany m_place m_numbers m_cost m_seed v1 (0 : Int32) n14 g15) (cwV 2 hts gX2_way_X2_measures rfl rfl rfl hd_X2_measures ⟨Nat.le_of_ble_eq_true rfl, Nat.le_of_ble_eq_true rfl⟩) hK hP hD hS hA (zb_sM) (q0 := 0) rfl rfl rfl hl.1 rfl (Nat.le_of_ble_eq_true rfl) dX2_way_48 ⟨Nat.le_refl _, Nat.le_refl _⟩ (fun H locs hP hD hS => ?_)
          refine lv_aload_n hx hb dX2_way_51 rfl (lv_at hl 0 rfl) ?_
          refine va_get (D := D) (ci := 2) (v := .ref (ad 9)) (C := RX2) (T := TX2) (N := 14) hx hb hts zi_X2_way_X2 hown hK.1 hP 0 rfl rfl 12 (by decide) (hts _ zk_X2_way_0) (fun _ h9 => h9) rfl dX2_way_52 ?_
          refine lv_iload_n hx hb dX2_way_55 rfl (lv_at hl 2 rfl) ?_
          obtain ⟨h16, h⟩ := it_g h
          refine va_iald hx hb hK.1 hP 9 0 rfl rfl h16 dX2_way_56 ?_
          refine lv_ldc (v := (1000000000 : Int32)) hx hb hown (hts _ zk_X2_way_1) dX2_way_57 ?_
          refine lv_icmp_lt (tgt := 67) hx hb dX2_way_59 (by decide) (fun c17 => ?_) (fun c17 => ?_)
          · replace h := it_t c17 h
            refine lv_aload_n hx hb dX2_way_67 rfl (lv_at hl 0 rfl) ?_
            refine va_get (D := D) (ci := 2) (v := .ref (ad 9)) (C := RX2) (T := TX2) (N := 14) hx hb hts zi_X2_way_X2 hown hK.1 hP 0 rfl rfl 12 (by decide) (hts _ zk_X2_way_0) (fun _ h9 => h9) rfl dX2_way_68 ?_
            refine lv_iload_n hx hb dX2_way_71 rfl (lv_at hl 2 rfl) ?_
            obtain ⟨h18, h⟩ := it_g h
            refine va_iald hx hb hK.1 hP 9 0 rfl rfl h18 dX2_way_72 ?_
            obtain ⟨rfl, rfl, rfl⟩ := re3 h
            exact zb_iret hx hb hr hlk hP hS dX2_way_73
          · replace h := it_f c17 h
            refine lv_bipush (v := ((-9) : Int32)) hx hb dX2_way_62 (by decide) ?_
            refine lv_goto (tgt := 73) hx hb dX2_way_64 (by decide) ?_
            obtain ⟨rfl, rfl, rfl⟩ := re3 h
            exact zb_iret hx hb hr hlk hP hS dX2_way_73
        · replace h := it_t c13 h
          refine lv_iconst (v := (1 : Int32)) hx hb dX2_way_43 (by decide) ?_
          refine lv_goto (tgt := 48) hx hb dX2_way_44 (by decide) ?_
          obtain ⟨n19, g20, h⟩ := bo1 h
          refine zb_callV (As := [.int v1, .int (1 : Int32)]) (rest := []) ⟨hx, hb, hml, hown, hts⟩ (zc_X2_measures l D cI ad m_s m_m m_image m_was m_hasImage m_letters m_row m_refused m_letterMany m_rowMany m_place m_numbers m_cost m_seed v1 (1 : Int32) n19 g20) (cwV 2 hts gX2_way_X2_measures rfl rfl rfl hd_X2_measures ⟨Nat.le_of_ble_eq_true rfl, Nat.le_of_ble_eq_true rfl⟩) hK hP hD hS hA (zb_sM) (q0 := 0) rfl rfl rfl hl.1 rfl (Nat.le_of_ble_eq_true rfl) dX2_way_48 ⟨Nat.le_refl _, Nat.le_refl _⟩ (fun H locs hP hD hS => ?_)
          refine lv_aload_n hx hb dX2_way_51 rfl (lv_at hl 0 rfl) ?_
          refine va_get (D := D) (ci := 2) (v := .ref (ad 9)) (C := RX2) (T := TX2) (N := 14) hx hb hts zi_X2_way_X2 hown hK.1 hP 0 rfl rfl 12 (by decide) (hts _ zk_X2_way_0) (fun _ h9 => h9) rfl dX2_way_52 ?_
          refine lv_iload_n hx hb dX2_way_55 rfl (lv_at hl 2 rfl) ?_
          obtain ⟨h21, h⟩ := it_g h
          refine va_iald hx hb hK.1 hP 9 0 rfl rfl h21 dX2_way_56 ?_
          refine lv_ldc (v := (1000000000 : Int32)) hx hb hown (hts _ zk_X2_way_1) dX2_way_57 ?_
          refine lv_icmp_lt (tgt := 67) hx hb dX2_way_59 (by decide) (fun c22 => ?_) (fun c22 => ?_)
          · replace h := it_t c22 h
            refine lv_aload_n hx hb dX2_way_67 rfl (lv_at hl 0 rfl) ?_
            refine va_get (D := D) (ci := 2) (v := .ref (ad 9)) (C := RX2) (T := TX2) (N := 14) hx hb hts zi_X2_way_X2 hown hK.1 hP 0 rfl rfl 12 (by decide) (hts _ zk_X2_way_0) (fun _ h9 => h9) rfl dX2_way_68 ?_
            refine lv_iload_n hx hb dX2_way_71 rfl (lv_at hl 2 rfl) ?_
            obtain ⟨h23, h⟩ := it_g h
            refine va_iald hx hb hK.1 hP 9 0 rfl rfl h23 dX2_way_72 ?_
            obtain ⟨rfl, rfl, rfl⟩ := re3 h
            exact zb_iret hx hb hr hlk hP hS dX2_way_73
          · replace h := it_f c22 h
            refine lv_bipush (v := ((-9) : Int32)) hx hb dX2_way_62 (by decide) ?_
            refine lv_goto (tgt := 73) hx hb dX2_way_64 (by decide) ?_
            obtain ⟨rfl, rfl, rfl⟩ := re3 h
            exact zb_iret hx hb hr hlk hP hS dX2_way_73
      · replace h := it_t c12 h
        refine lv_aload_n hx hb dX2_way_29 rfl (lv_at hl 0 rfl) ?_
        refine lv_bipush (v := ((-2) : Int32)) hx hb dX2_way_30 (by decide) ?_
        obtain ⟨r24, n25, g26, h⟩ := bo2 h
        refine zb_callV (As := [.int ((-2) : Int32)]) (rest := []) ⟨hx, hb, hml, hown, hts⟩ (zc_X2_no l D cI ad m_s m_m m_image m_was m_hasImage m_letters m_row m_refused m_letterMany m_rowMany m_place m_numbers m_cost m_seed ((-2) : Int32) r24 n25 g26) (cwV 1 hts gX2_way_X2_no rfl rfl rfl hd_X2_no ⟨Nat.le_of_ble_eq_true rfl, Nat.le_of_ble_eq_true rfl⟩) hK hP hD hS hA (zb_sM) (q0 := 0) rfl rfl rfl hl.1 rfl (Nat.le_of_ble_eq_true rfl) dX2_way_32 ⟨Nat.le_refl _, Nat.le_refl _⟩ (fun H locs hP hD hS => ?_)
        obtain ⟨rfl, rfl, rfl⟩ := re3 h
        exact zb_iret hx hb hr hlk hP hS dX2_way_35
    · replace h := it_t c9 h
      refine lv_aload_n hx hb dX2_way_14 rfl (lv_at hl 0 rfl) ?_
      refine lv_iconst (v := ((-1) : Int32)) hx hb dX2_way_15 (by decide) ?_
      obtain ⟨r27, n28, g29, h⟩ := bo2 h
      refine zb_callV (As := [.int ((-1) : Int32)]) (rest := []) ⟨hx, hb, hml, hown, hts⟩ (zc_X2_no l D cI ad m_s m_m m_image m_was m_hasImage m_letters m_row m_refused m_letterMany m_rowMany m_place m_numbers m_cost m_seed ((-1) : Int32) r27 n28 g29) (cwV 1 hts gX2_way_X2_no rfl rfl rfl hd_X2_no ⟨Nat.le_of_ble_eq_true rfl, Nat.le_of_ble_eq_true rfl⟩) hK hP hD hS hA (zb_sM) (q0 := 0) rfl rfl rfl hl.1 rfl (Nat.le_of_ble_eq_true rfl) dX2_way_16 ⟨Nat.le_refl _, Nat.le_refl _⟩ (fun H locs hP hD hS => ?_)
      obtain ⟨rfl, rfl, rfl⟩ := re3 h
      exact zb_iret hx hb hr hlk hP hS dX2_way_19
abbrev rm_X2_begin : Room := { frames := 5, cells := 0, slots := 0, locals := 115 }
theorem hd_X2_begin : yX2_begin.cls = RX2 ∧ yX2_begin.cls ≠ "java/lang/invoke/MethodHandle" ∧ yX2_begin.cls ≠ "java/lang/invoke/VarHandle" ∧ (parseMethodDescriptor yX2_begin.desc).map (fun d => d.parameters.length) = some 3 := by decide +kernel
theorem zi_X2_begin_X2 : ∀ w ∈ wsX20, w ∈ wsX2_begin := fun _ h => List.mem_cons_of_mem _ (List.mem_append_right _ h)
theorem zk_X2_begin_0 : Cond.fieldLink RX2 9 "GroutingIsFollowedModel" "s" "[I" ∈ wsX2_begin := by decide +kernel
theorem zk_X2_begin_1 : Cond.fieldLink RX2 13 "GroutingIsFollowedModel" "m" "[I" ∈ wsX2_begin := by decide +kernel
set_option maxHeartbeats 4000000 in
set_option maxRecDepth 100000 in
theorem zc_X2_begin (l : Launch) (D : va_G) (cI : ClassId) (ad : Nat → Nat) (m_s : (Nat → Int32)) (m_m : (Nat → Int32)) (m_image : (Nat → Int32)) (m_was : (Nat → Int32)) (m_hasImage : Int32) (m_letters : (Nat → Int32)) (m_row : (Nat → Int32)) (m_refused : (Nat → Int32)) (m_letterMany : Int32) (m_rowMany : Int32) (m_place : Int32) (m_numbers : (Nat → Int32)) (m_cost : (Nat → Int32)) (m_seed : Int32) (v1 : Int32) (v2 : Int32) (v3 : Int32) (r0 : Int32) (w_m_m : (Nat → Int32)) (w_m_refused : (Nat → Int32)) (h : zf_X2_begin m_s m_m m_refused v1 v2 v3 = some (r0, w_m_m, w_m_refused)) : Cn l D cI yX2_begin wsX2_begin rm_X2_begin [.ref (ad 0), .int v1, .int v2, .int v3] (zb_M cI ad m_s m_m m_image m_was m_hasImage m_letters m_row m_refused m_letterMany m_rowMany m_place m_numbers m_cost m_seed) (some (.int r0)) (zb_M cI ad m_s w_m_m m_image m_was m_hasImage m_letters m_row w_m_refused m_letterMany m_rowMany m_place m_numbers m_cost m_seed) := by
  refine zb_ofW (cc := cX2_begin) (maxL := 9) (ret := (some .int)) (by decide) rfl (Nat.le_of_ble_eq_true rfl) ?_
  intro p e s m args below meth c A ls hx hb hr hml hts hown hlk hK hP hD hA hl
  have hS : va_S A s.heap s.heap [] := va_S.rf
  have hl : lv_has ls 9 [(0, .ref (ad 0)), (1, .int v1), (2, .int v2), (3, .int v3)] := hl
  unfold zf_X2_begin at h
  have j122 : ∀ (x1 : Int32) (x2 : Int32) (x3 : (Nat → Int32)) (x4 : (Nat → Int32)) (H : Heap) (locs : List Loc) (hP : va_P D zb_cl (zb_M cI ad m_s x3 m_image m_was m_hasImage m_letters m_row x4 m_letterMany m_rowMany m_place m_numbers m_cost m_seed) H) (hD : va_D A (zb_M cI ad m_s x3 m_image m_was m_hasImage m_letters m_row x4 m_letterMany m_rowMany m_place m_numbers m_cost m_seed)) (hS : va_S A s.heap H locs) (ls : Array Slot) (hl : lv_has ls 9 [(3, .int v3), (5, .int x1), (6, .int x2)]) (h : zf_X2_begin_j122 v3 x1 x2 x3 x4 = some (r0, w_m_m, w_m_refused)), W p l e rm_X2_begin s m args below meth c H locs 0 0 (zb_Q below D (some (.int r0)) (zb_M cI ad m_s w_m_m m_image m_was m_hasImage m_letters m_row w_m_refused m_letterMany m_rowMany m_place m_numbers m_cost m_seed) A args s) (F0 m 122 ls []) := by
    intro x1 x2 x3 x4 H locs hP hD hS ls hl h
    unfold zf_X2_begin_j122 at h
    refine lv_iload_n hx hb dX2_begin_122 rfl (lv_at hl 0 rfl) ?_
    refine lv_if_ne (tgt := 131) hx hb dX2_begin_123 (by decide) (fun c5 => ?_) (fun c5 => ?_)
    · replace h := it_f c5 h
      refine lv_iload hx hb dX2_begin_131 (lv_at hl 2 rfl) ?_
      obtain ⟨rfl, rfl, rfl⟩ := re3 h
      exact zb_iret hx hb hr hlk hP hS dX2_begin_133
    · replace h := it_t c5 h
      refine lv_iload hx hb dX2_begin_126 (lv_at hl 1 rfl) ?_
      refine lv_goto (tgt := 133) hx hb dX2_begin_128 (by decide) ?_
      obtain ⟨rfl, rfl, rfl⟩ := re3 h
      exact zb_iret hx hb hr hlk hP hS dX2_begin_133
  have j39 : ∀ (x6 : Int32) (x7 : (Nat → Int32)) (x8 : (Nat → Int32)) (H : Heap) (locs : List Loc) (hP : va_P D zb_cl (zb_M cI ad m_s x7 m_image m_was m_hasImage m_letters m_row x8 m_letterMany m_rowMany m_place m_numbers m_cost m_seed) H) (hD : va_D A (zb_M cI ad m_s x7 m_image m_was m_hasImage m_letters m_row x8 m_letterMany m_rowMany m_place m_numbers m_cost m_seed)) (hS : va_S A s.heap H locs) (ls : Array Slot) (hl : lv_has ls 9 [(0, .ref (ad 0)), (1, .int v1), (2, .int v2), (3, .int v3), (4, .int x6)]) (h : zf_X2_begin_j39 v1 v2 v3 x6 m_s x7 x8 = some (r0, w_m_m, w_m_refused)), W p l e rm_X2_begin s m args below meth c H locs 0 0 (zb_Q below D (some (.int r0)) (zb_M cI ad m_s w_m_m m_image m_was m_hasImage m_letters m_row w_m_refused m_letterMany m_rowMany m_place m_numbers m_cost m_seed) A args s) (F0 m 39 ls []) := by
    intro x6 x7 x8 H locs hP hD hS ls hl h
    unfold zf_X2_begin_j39 at h
    refine lv_iload hx hb dX2_begin_39 (lv_at hl 4 rfl) ?_
    refine lv_if_eq (tgt := 51) hx hb dX2_begin_41 (by decide) (fun c9 => ?_) (fun c9 => ?_)
    · replace h := it_t c9 h
      refine lv_iconst (v := (0 : Int32)) hx hb dX2_begin_51 (by decide) ?_
      refine lv_istore (lv' := [(5, .int (0 : Int32)), (0, .ref (ad 0)), (1, .int v1), (2, .int v2), (3, .int v3), (4, .int x6)]) hx hb dX2_begin_52 hl (by decide) rfl (fun ls hl => ?_)
      refine lv_iconst (v := ((-1) : Int32)) hx hb dX2_begin_54 (by decide) ?_
      refine lv_istore (lv' := [(6, .int ((-1) : Int32)), (5, .int (0 : Int32)), (0, .ref (ad 0)), (1, .int v1), (2, .int v2), (3, .int v3), (4, .int x6)]) hx hb dX2_begin_55 hl (by decide) rfl (fun ls hl => ?_)
      refine lv_iconst (v := (0 : Int32)) hx hb dX2_begin_57 (by decide) ?_
      refine lv_istore (lv' := [(7, .int (0 : Int32)), (6, .int ((-1) : Int32)), (5, .int (0 : Int32)), (0, .ref (ad 0)), (1, .int v1), (2, .int v2), (3, .int v3), (4, .int x6)]) hx hb dX2_begin_58 hl (by decide) rfl (fun ls hl => ?_)
      have lp14 : ∀ (fu14 : Nat) (x10 : Int32) (x11 : Int32) (x12 : Int32) (x13 : (Nat → Int32)) (H : Heap) (locs : List Loc) (hP : va_P D zb_cl (zb_M cI ad m_s x13 m_image m_was m_hasImage m_letters m_row x8 m_letterMany m_rowMany m_place m_numbers m_cost m_seed) H) (hD : va_D A (zb_M cI ad m_s x13 m_image m_was m_hasImage m_letters m_row x8 m_letterMany m_rowMany m_place m_numbers m_cost m_seed)) (hS : va_S A s.heap H locs) (ls : Array Slot) (hl : lv_has ls 9 [(0, .ref (ad 0)), (1, .int v1), (2, .int v2), (3, .int v3), (5, .int x10), (6, .int x11), (7, .int x12)]) (h : zl4 (zf_X2_begin_b60 v1 v2 v3 m_s x8) fu14 x10 x11 x12 x13 = some (r0, w_m_m, w_m_refused)), W p l e rm_X2_begin s m args below meth c H locs 0 0 (zb_Q below D (some (.int r0)) (zb_M cI ad m_s w_m_m m_image m_was m_hasImage m_letters m_row w_m_refused m_letterMany m_rowMany m_place m_numbers m_cost m_seed) A args s) (F0 m 60 ls []) := by
        intro fu14
        induction fu14 with
        | zero => intro x10 x11 x12 x13 H locs hP hD hS ls hl h; exact zb_no h
        | succ fu14 ih14 =>
          intro x10 x11 x12 x13 H locs hP hD hS ls hl h
          replace h : zf_X2_begin_b60 v1 v2 v3 m_s x8 (zl4 (zf_X2_begin_b60 v1 v2 v3 m_s x8) fu14) x10 x11 x12 x13 = some (r0, w_m_m, w_m_refused) := h
          unfold zf_X2_begin_b60 at h
          refine lv_iload hx hb dX2_begin_60 (lv_at hl 6 rfl) ?_
          refine lv_bipush (v := (30 : Int32)) hx hb dX2_begin_62 (by decide) ?_
          refine lv_icmp_ge (tgt := 122) hx hb dX2_begin_64 (by decide) (fun c15 => ?_) (fun c15 => ?_)
          · replace h := it_t c15 h
            exact j122 x10 x11 x13 x8 _ _ hP hD hS ls (lv_sub hl [3, 4, 5] rfl) h
          · replace h := it_f c15 h
            refine lv_aload_n hx hb dX2_begin_67 rfl (lv_at hl 0 rfl) ?_
            refine va_get (D := D) (ci := 2) (v := .ref (ad 1)) (C := RX2) (T := TX2) (N := 14) hx hb hts zi_X2_begin_X2 hown hK.1 hP 0 rfl rfl 0 (by decide) (hts _ zk_X2_begin_0) (fun _ h9 => h9) rfl dX2_begin_68 ?_
            refine lv_aload_n hx hb dX2_begin_71 rfl (lv_at hl 0 rfl) ?_
            refine va_get (D := D) (ci := 2) (v := .ref (ad 2)) (C := RX2) (T := TX2) (N := 14) hx hb hts zi_X2_begin_X2 hown hK.1 hP 0 rfl rfl 1 (by decide) (hts _ zk_X2_begin_1) (fun _ h9 => h9) rfl dX2_begin_72 ?_
            obtain ⟨n16, g17, h⟩ := bo1 h
            refine zb_callS (As := [.ref (ad 1), .ref (ad 2)]) (rest := []) ⟨hx, hb, hml, hown, hts⟩ (zc_X2_copies l D cI (ad 1) (ad 2) m_s x13 n16 g17) (va_cwS 2 hts gX2_begin_X2_copies rfl rfl rfl hd_X2_copies.2 ⟨Nat.le_of_ble_eq_true rfl, Nat.le_of_ble_eq_true rfl⟩) hK hP hD hS hA (zb_cM_s_m) rfl hl.1 rfl (Nat.le_of_ble_eq_true rfl) dX2_begin_75 ⟨Nat.le_refl _, Nat.le_refl _⟩ (fun H locs hP hD hS => ?_)
            refine lv_aload_n hx hb dX2_begin_78 rfl (lv_at hl 0 rfl) ?_
            refine va_get (D := D) (ci := 2) (v := .ref (ad 2)) (C := RX2) (T := TX2) (N := 14) hx hb hts zi_X2_begin_X2 hown hK.1 hP 0 rfl rfl 1 (by decide) (hts _ zk_X2_begin_1) (fun _ h9 => h9) rfl dX2_begin_79 ?_
            refine lv_iload_n hx hb dX2_begin_82 rfl (lv_at hl 1 rfl) ?_
            refine lv_iconst (v := (0 : Int32)) hx hb dX2_begin_83 (by decide) ?_
            obtain ⟨r18, g19, h⟩ := bo1 h
            refine zb_callS (As := [.int v1, .int (0 : Int32)]) (rest := [.ref (ad 2)]) ⟨hx, hb, hml, hown, hts⟩ (zc_X2_of l D cI v1 (0 : Int32) r18 g19) (va_cwS 2 hts gX2_begin_X2_of rfl rfl rfl hd_X2_of.2 ⟨Nat.le_of_ble_eq_true rfl, Nat.le_of_ble_eq_true rfl⟩) hK hP hD hS hA (zb_none _) rfl hl.1 rfl (Nat.le_of_ble_eq_true rfl) dX2_begin_84 ⟨Nat.le_refl _, Nat.le_refl _⟩ (fun H locs hP hD hS => ?_)
            refine lv_iload hx hb dX2_begin_87 (lv_at hl 6 rfl) ?_
            obtain ⟨h20, h⟩ := it_g h
            refine va_iast hx hb hK.1 hP hD hS 2 0 rfl rfl h20 dX2_begin_89 (fun H locs hP hD hS => ?_)
            have hP : va_P D zb_cl (zb_M cI ad m_s (upd n16 r18.toNatClampNeg x12) m_image m_was m_hasImage m_letters m_row x8 m_letterMany m_rowMany m_place m_numbers m_cost m_seed) H := hP
            have hD : va_D A (zb_M cI ad m_s (upd n16 r18.toNatClampNeg x12) m_image m_was m_hasImage m_letters m_row x8 m_letterMany m_rowMany m_place m_numbers m_cost m_seed) := hD
            refine lv_aload_n hx hb dX2_begin_90 rfl (lv_at hl 0 rfl) ?_
            refine lv_iload_n hx hb dX2_begin_91 rfl (lv_at hl 1 rfl) ?_
            refine lv_iload_n hx hb dX2_begin_92 rfl (lv_at hl 2 rfl) ?_
            obtain ⟨r21, n22, g23, h⟩ := bo2 h
            refine zb_callV (As := [.int v1, .int v2]) (rest := []) ⟨hx, hb, hml, hown, hts⟩ (zc_X2_visitsIn l D cI ad m_s (upd n16 r18.toNatClampNeg x12) m_image m_was m_hasImage m_letters m_row x8 m_letterMany m_rowMany m_place m_numbers m_cost m_seed v1 v2 r21 n22 g23) (cwV 2 hts gX2_begin_X2_visitsIn rfl rfl rfl hd_X2_visitsIn ⟨Nat.le_of_ble_eq_true rfl, Nat.le_of_ble_eq_true rfl⟩) hK hP hD hS hA (zb_sM) (q0 := 0) rfl rfl rfl hl.1 rfl (Nat.le_of_ble_eq_true rfl) dX2_begin_93 ⟨Nat.le_refl _, Nat.le_refl _⟩ (fun H locs hP hD hS => ?_)
            refine lv_istore (lv' := [(8, .int r21), (0, .ref (ad 0)), (1, .int v1), (2, .int v2), (3, .int v3), (5, .int x10), (6, .int x11), (7, .int x12)]) hx hb dX2_begin_96 hl (by decide) rfl (fun ls hl => ?_)
            refine lv_iload hx hb dX2_begin_98 (lv_at hl 0 rfl) ?_
            refine lv_iload hx hb dX2_begin_100 (lv_at hl 6 rfl) ?_
            refine lv_icmp_gt (tgt := 108) hx hb dX2_begin_102 (by decide) (fun c24 => ?_) (fun c24 => ?_)
            · replace h := it_t c24 h
              refine lv_iload hx hb dX2_begin_108 (lv_at hl 7 rfl) ?_
              refine lv_istore (lv' := [(5, .int x12), (8, .int r21), (0, .ref (ad 0)), (1, .int v1), (2, .int v2), (3, .int v3), (6, .int x11), (7, .int x12)]) hx hb dX2_begin_110 hl (by decide) rfl (fun ls hl => ?_)
              refine lv_iload hx hb dX2_begin_112 (lv_at hl 1 rfl) ?_
              refine lv_istore (lv' := [(6, .int r21), (5, .int x12), (8, .int r21), (0, .ref (ad 0)), (1, .int v1), (2, .int v2), (3, .int v3), (7, .int x12)]) hx hb dX2_begin_114 hl (by decide) rfl (fun ls hl => ?_)
              refine lv_iinc (v := (x12 + (1 : Int32))) (lv' := [(7, .int (x12 + (1 : Int32))), (6, .int r21), (5, .int x12), (8, .int r21), (0, .ref (ad 0)), (1, .int v1), (2, .int v2), (3, .int v3)]) hx hb dX2_begin_116 hl (k := 7) rfl (by first | rfl | decide) (by decide) rfl (fun ls hl => ?_)
              refine lv_goto (tgt := 60) hx hb dX2_begin_119 (by decide) ?_
              exact ih14 x12 r21 (x12 + (1 : Int32)) n22 _ _ hP hD hS ls (lv_sub hl [4, 5, 6, 7, 2, 1, 0] rfl) h
            · replace h := it_f c24 h
              refine lv_goto (tgt := 116) hx hb dX2_begin_105 (by decide) ?_
              refine lv_iinc (v := (x12 + (1 : Int32))) (lv' := [(7, .int (x12 + (1 : Int32))), (8, .int r21), (0, .ref (ad 0)), (1, .int v1), (2, .int v2), (3, .int v3), (5, .int x10), (6, .int x11)]) hx hb dX2_begin_116 hl (k := 7) rfl (by first | rfl | decide) (by decide) rfl (fun ls hl => ?_)
              refine lv_goto (tgt := 60) hx hb dX2_begin_119 (by decide) ?_
              exact ih14 x10 x11 (x12 + (1 : Int32)) n22 _ _ hP hD hS ls (lv_sub hl [2, 3, 4, 5, 6, 7, 0] rfl) h
      exact lp14 zb_FU (0 : Int32) ((-1) : Int32) (0 : Int32) x7 _ _ hP hD hS ls (lv_sub hl [3, 4, 5, 6, 2, 1, 0] rfl) h
    · replace h := it_f c9 h
      refine lv_aload_n hx hb dX2_begin_44 rfl (lv_at hl 0 rfl) ?_
      refine lv_iload hx hb dX2_begin_45 (lv_at hl 4 rfl) ?_
      obtain ⟨r25, n26, g27, h⟩ := bo2 h
      refine zb_callV (As := [.int x6]) (rest := []) ⟨hx, hb, hml, hown, hts⟩ (zc_X2_no l D cI ad m_s x7 m_image m_was m_hasImage m_letters m_row x8 m_letterMany m_rowMany m_place m_numbers m_cost m_seed x6 r25 n26 g27) (cwV 1 hts gX2_begin_X2_no rfl rfl rfl hd_X2_no ⟨Nat.le_of_ble_eq_true rfl, Nat.le_of_ble_eq_true rfl⟩) hK hP hD hS hA (zb_sM) (q0 := 0) rfl rfl rfl hl.1 rfl (Nat.le_of_ble_eq_true rfl) dX2_begin_47 ⟨Nat.le_refl _, Nat.le_refl _⟩ (fun H locs hP hD hS => ?_)
      obtain ⟨rfl, rfl, rfl⟩ := re3 h
      exact zb_iret hx hb hr hlk hP hS dX2_begin_50
  refine lv_aload_n hx hb dX2_begin_0 rfl (lv_at hl 0 rfl) ?_
  refine lv_iload_n hx hb dX2_begin_1 rfl (lv_at hl 1 rfl) ?_
  obtain ⟨r28, g29, h⟩ := bo1 h
  refine zb_callV (As := [.int v1]) (rest := []) ⟨hx, hb, hml, hown, hts⟩ (zc_X2_isPerson l D cI ad m_s m_m m_image m_was m_hasImage m_letters m_row m_refused m_letterMany m_rowMany m_place m_numbers m_cost m_seed v1 r28 g29) (cwV 1 hts gX2_begin_X2_isPerson rfl rfl rfl hd_X2_isPerson ⟨Nat.le_of_ble_eq_true rfl, Nat.le_of_ble_eq_true rfl⟩) hK hP hD hS hA (zb_sM) (q0 := 0) rfl rfl rfl hl.1 rfl (Nat.le_of_ble_eq_true rfl) dX2_begin_2 ⟨Nat.le_refl _, Nat.le_refl _⟩ (fun H locs hP hD hS => ?_)
  refine lv_if_eq (tgt := 18) hx hb dX2_begin_5 (by decide) (fun c30 => ?_) (fun c30 => ?_)
  · replace h := it_t c30 h
    refine lv_iconst (v := ((-1) : Int32)) hx hb dX2_begin_18 (by decide) ?_
    refine lv_istore (lv' := [(4, .int ((-1) : Int32)), (0, .ref (ad 0)), (1, .int v1), (2, .int v2), (3, .int v3)]) hx hb dX2_begin_19 hl (by decide) rfl (fun ls hl => ?_)
    refine lv_iload hx hb dX2_begin_21 (lv_at hl 0 rfl) ?_
    refine lv_if_ne (tgt := 39) hx hb dX2_begin_23 (by decide) (fun _ => ?_) (fun c31 => absurd c31 (by decide))
    exact j39 ((-1) : Int32) m_m m_refused _ _ hP hD hS ls (lv_sub hl [1, 2, 3, 4, 0] rfl) h
  · replace h := it_f c30 h
    refine lv_iload_n hx hb dX2_begin_8 rfl (lv_at hl 2 rfl) ?_
    refine lv_iconst (v := (0 : Int32)) hx hb dX2_begin_9 (by decide) ?_
    refine lv_bipush (v := (30 : Int32)) hx hb dX2_begin_10 (by decide) ?_
    obtain ⟨r32, g33, h⟩ := bo1 h
    refine zb_callS (As := [.int v2, .int (0 : Int32), .int (30 : Int32)]) (rest := []) ⟨hx, hb, hml, hown, hts⟩ (zc_X2_wrongBy l D cI v2 (0 : Int32) (30 : Int32) r32 g33) (va_cwS 3 hts gX2_begin_X2_wrongBy rfl rfl rfl hd_X2_wrongBy.2 ⟨Nat.le_of_ble_eq_true rfl, Nat.le_of_ble_eq_true rfl⟩) hK hP hD hS hA (zb_none _) rfl hl.1 rfl (Nat.le_of_ble_eq_true rfl) dX2_begin_12 ⟨Nat.le_refl _, Nat.le_refl _⟩ (fun H locs hP hD hS => ?_)
    refine lv_goto (tgt := 19) hx hb dX2_begin_15 (by decide) ?_
    refine lv_istore (lv' := [(4, .int r32), (0, .ref (ad 0)), (1, .int v1), (2, .int v2), (3, .int v3)]) hx hb dX2_begin_19 hl (by decide) rfl (fun ls hl => ?_)
    refine lv_iload hx hb dX2_begin_21 (lv_at hl 0 rfl) ?_
    refine lv_if_ne (tgt := 39) hx hb dX2_begin_23 (by decide) (fun c34 => ?_) (fun c34 => ?_)
    · replace h := it_f c34 h
      exact j39 r32 m_m m_refused _ _ hP hD hS ls (lv_sub hl [1, 2, 3, 4, 0] rfl) h
    · replace h := it_t c34 h
      refine lv_iload_n hx hb dX2_begin_26 rfl (lv_at hl 4 rfl) ?_
      refine lv_iconst (v := (0 : Int32)) hx hb dX2_begin_27 (by decide) ?_
      refine lv_iconst (v := (1 : Int32)) hx hb dX2_begin_28 (by decide) ?_
      obtain ⟨r35, g36, h⟩ := bo1 h
      refine zb_callS (As := [.int v3, .int (0 : Int32), .int (1 : Int32)]) (rest := []) ⟨hx, hb, hml, hown, hts⟩ (zc_X2_isIn l D cI v3 (0 : Int32) (1 : Int32) r35 g36) (va_cwS 3 hts gX2_begin_X2_isIn rfl rfl rfl hd_X2_isIn.2 ⟨Nat.le_of_ble_eq_true rfl, Nat.le_of_ble_eq_true rfl⟩) hK hP hD hS hA (zb_none _) rfl hl.1 rfl (Nat.le_of_ble_eq_true rfl) dX2_begin_29 ⟨Nat.le_refl _, Nat.le_refl _⟩ (fun H locs hP hD hS => ?_)
      refine lv_if_ne (tgt := 39) hx hb dX2_begin_32 (by decide) (fun c37 => ?_) (fun c37 => ?_)
      · replace h := it_f c37 h
        exact j39 r32 m_m m_refused _ _ hP hD hS ls (lv_sub hl [1, 2, 3, 4, 0] rfl) h
      · replace h := it_t c37 h
        refine lv_bipush (v := ((-2) : Int32)) hx hb dX2_begin_35 (by decide) ?_
        refine lv_istore (lv' := [(4, .int ((-2) : Int32)), (0, .ref (ad 0)), (1, .int v1), (2, .int v2), (3, .int v3)]) hx hb dX2_begin_37 hl (by decide) rfl (fun ls hl => ?_)
        exact j39 ((-2) : Int32) m_m m_refused _ _ hP hD hS ls (lv_sub hl [1, 2, 3, 4, 0] rfl) h
abbrev rm_X2_head : Room := { frames := 5, cells := 0, slots := 0, locals := 114 }
theorem hd_X2_head : yX2_head.cls = RX2 ∧ yX2_head.cls ≠ "java/lang/invoke/MethodHandle" ∧ yX2_head.cls ≠ "java/lang/invoke/VarHandle" ∧ (parseMethodDescriptor yX2_head.desc).map (fun d => d.parameters.length) = some 2 := by decide +kernel
theorem zi_X2_head_X2 : ∀ w ∈ wsX20, w ∈ wsX2_head := fun _ h => List.mem_cons_of_mem _ (List.mem_append_right _ h)
theorem zk_X2_head_0 : Cond.constant RX2 166 (1000000000) ∈ wsX2_head := by decide +kernel
theorem zk_X2_head_1 : Cond.fieldLink RX2 9 "GroutingIsFollowedModel" "s" "[I" ∈ wsX2_head := by decide +kernel
theorem zk_X2_head_2 : Cond.fieldLink RX2 13 "GroutingIsFollowedModel" "m" "[I" ∈ wsX2_head := by decide +kernel
set_option maxHeartbeats 4000000 in
set_option maxRecDepth 100000 in
theorem zc_X2_head (l : Launch) (D : va_G) (cI : ClassId) (ad : Nat → Nat) (m_s : (Nat → Int32)) (m_m : (Nat → Int32)) (m_image : (Nat → Int32)) (m_was : (Nat → Int32)) (m_hasImage : Int32) (m_letters : (Nat → Int32)) (m_row : (Nat → Int32)) (m_refused : (Nat → Int32)) (m_letterMany : Int32) (m_rowMany : Int32) (m_place : Int32) (m_numbers : (Nat → Int32)) (m_cost : (Nat → Int32)) (m_seed : Int32) (v1 : Int32) (v2 : Int32) (r0 : Int32) (w_m_m : (Nat → Int32)) (w_m_refused : (Nat → Int32)) (h : zf_X2_head m_s m_m m_refused v1 v2 = some (r0, w_m_m, w_m_refused)) : Cn l D cI yX2_head wsX2_head rm_X2_head [.ref (ad 0), .int v1, .int v2] (zb_M cI ad m_s m_m m_image m_was m_hasImage m_letters m_row m_refused m_letterMany m_rowMany m_place m_numbers m_cost m_seed) (some (.int r0)) (zb_M cI ad m_s w_m_m m_image m_was m_hasImage m_letters m_row w_m_refused m_letterMany m_rowMany m_place m_numbers m_cost m_seed) := by
  refine zb_ofW (cc := cX2_head) (maxL := 7) (ret := (some .int)) (by decide) rfl (Nat.le_of_ble_eq_true rfl) ?_
  intro p e s m args below meth c A ls hx hb hr hml hts hown hlk hK hP hD hA hl
  have hS : va_S A s.heap s.heap [] := va_S.rf
  have hl : lv_has ls 7 [(0, .ref (ad 0)), (1, .int v1), (2, .int v2)] := hl
  unfold zf_X2_head at h
  refine lv_aload_n hx hb dX2_head_0 rfl (lv_at hl 0 rfl) ?_
  refine lv_iload_n hx hb dX2_head_1 rfl (lv_at hl 1 rfl) ?_
  refine lv_iload_n hx hb dX2_head_2 rfl (lv_at hl 2 rfl) ?_
  obtain ⟨r1, g2, h⟩ := bo1 h
  refine zb_callV (As := [.int v1, .int v2]) (rest := []) ⟨hx, hb, hml, hown, hts⟩ (zc_X2_areThere l D cI ad m_s m_m m_image m_was m_hasImage m_letters m_row m_refused m_letterMany m_rowMany m_place m_numbers m_cost m_seed v1 v2 r1 g2) (cwV 2 hts gX2_head_X2_areThere rfl rfl rfl hd_X2_areThere ⟨Nat.le_of_ble_eq_true rfl, Nat.le_of_ble_eq_true rfl⟩) hK hP hD hS hA (zb_sM) (q0 := 0) rfl rfl rfl hl.1 rfl (Nat.le_of_ble_eq_true rfl) dX2_head_3 ⟨Nat.le_refl _, Nat.le_refl _⟩ (fun H locs hP hD hS => ?_)
  refine lv_if_ne (tgt := 15) hx hb dX2_head_6 (by decide) (fun c3 => ?_) (fun c3 => ?_)
  · replace h := it_f c3 h
    refine lv_bipush (v := ((-9) : Int32)) hx hb dX2_head_15 (by decide) ?_
    refine lv_istore_n (lv' := [(3, .int ((-9) : Int32)), (0, .ref (ad 0)), (1, .int v1), (2, .int v2)]) hx hb dX2_head_17 rfl hl (by decide) rfl (fun ls hl => ?_)
    refine lv_ldc (v := (1000000000 : Int32)) hx hb hown (hts _ zk_X2_head_0) dX2_head_18 ?_
    refine lv_istore (lv' := [(4, .int (1000000000 : Int32)), (3, .int ((-9) : Int32)), (0, .ref (ad 0)), (1, .int v1), (2, .int v2)]) hx hb dX2_head_20 hl (by decide) rfl (fun ls hl => ?_)
    refine lv_iconst (v := (0 : Int32)) hx hb dX2_head_22 (by decide) ?_
    refine lv_istore (lv' := [(5, .int (0 : Int32)), (4, .int (1000000000 : Int32)), (3, .int ((-9) : Int32)), (0, .ref (ad 0)), (1, .int v1), (2, .int v2)]) hx hb dX2_head_23 hl (by decide) rfl (fun ls hl => ?_)
    have lp8 : ∀ (fu8 : Nat) (x4 : Int32) (x5 : Int32) (x6 : Int32) (x7 : (Nat → Int32)) (H : Heap) (locs : List Loc) (hP : va_P D zb_cl (zb_M cI ad m_s x7 m_image m_was m_hasImage m_letters m_row m_refused m_letterMany m_rowMany m_place m_numbers m_cost m_seed) H) (hD : va_D A (zb_M cI ad m_s x7 m_image m_was m_hasImage m_letters m_row m_refused m_letterMany m_rowMany m_place m_numbers m_cost m_seed)) (hS : va_S A s.heap H locs) (ls : Array Slot) (hl : lv_has ls 7 [(0, .ref (ad 0)), (1, .int v1), (2, .int v2), (3, .int x4), (4, .int x5), (5, .int x6)]) (h : zl4 (zf_X2_head_b25 v1 v2 m_s m_refused) fu8 x4 x5 x6 x7 = some (r0, w_m_m, w_m_refused)), W p l e rm_X2_head s m args below meth c H locs 0 0 (zb_Q below D (some (.int r0)) (zb_M cI ad m_s w_m_m m_image m_was m_hasImage m_letters m_row w_m_refused m_letterMany m_rowMany m_place m_numbers m_cost m_seed) A args s) (F0 m 25 ls []) := by
      intro fu8
      induction fu8 with
      | zero => intro x4 x5 x6 x7 H locs hP hD hS ls hl h; exact zb_no h
      | succ fu8 ih8 =>
        intro x4 x5 x6 x7 H locs hP hD hS ls hl h
        replace h : zf_X2_head_b25 v1 v2 m_s m_refused (zl4 (zf_X2_head_b25 v1 v2 m_s m_refused) fu8) x4 x5 x6 x7 = some (r0, w_m_m, w_m_refused) := h
        unfold zf_X2_head_b25 at h
        refine lv_iload hx hb dX2_head_25 (lv_at hl 5 rfl) ?_
        refine lv_iconst (v := (4 : Int32)) hx hb dX2_head_27 (by decide) ?_
        refine lv_icmp_ge (tgt := 90) hx hb dX2_head_28 (by decide) (fun c9 => ?_) (fun c9 => ?_)
        · replace h := it_t c9 h
          refine lv_iload_n hx hb dX2_head_90 rfl (lv_at hl 3 rfl) ?_
          obtain ⟨rfl, rfl, rfl⟩ := re3 h
          exact zb_iret hx hb hr hlk hP hS dX2_head_91
        · replace h := it_f c9 h
          refine lv_aload_n hx hb dX2_head_31 rfl (lv_at hl 0 rfl) ?_
          refine va_get (D := D) (ci := 2) (v := .ref (ad 1)) (C := RX2) (T := TX2) (N := 14) hx hb hts zi_X2_head_X2 hown hK.1 hP 0 rfl rfl 0 (by decide) (hts _ zk_X2_head_1) (fun _ h9 => h9) rfl dX2_head_32 ?_
          refine lv_aload_n hx hb dX2_head_35 rfl (lv_at hl 0 rfl) ?_
          refine va_get (D := D) (ci := 2) (v := .ref (ad 2)) (C := RX2) (T := TX2) (N := 14) hx hb hts zi_X2_head_X2 hown hK.1 hP 0 rfl rfl 1 (by decide) (hts _ zk_X2_head_2) (fun _ h9 => h9) rfl dX2_head_36 ?_
          obtain ⟨n10, g11, h⟩ := bo1 h
          refine zb_callS (As := [.ref (ad 1), .ref (ad 2)]) (rest := []) ⟨hx, hb, hml, hown, hts⟩ (zc_X2_copies l D cI (ad 1) (ad 2) m_s x7 n10 g11) (va_cwS 2 hts gX2_head_X2_copies rfl rfl rfl hd_X2_copies.2 ⟨Nat.le_of_ble_eq_true rfl, Nat.le_of_ble_eq_true rfl⟩) hK hP hD hS hA (zb_cM_s_m) rfl hl.1 rfl (Nat.le_of_ble_eq_true rfl) dX2_head_39 ⟨Nat.le_refl _, Nat.le_refl _⟩ (fun H locs hP hD hS => ?_)
          refine lv_aload_n hx hb dX2_head_42 rfl (lv_at hl 0 rfl) ?_
          refine va_get (D := D) (ci := 2) (v := .ref (ad 2)) (C := RX2) (T := TX2) (N := 14) hx hb hts zi_X2_head_X2 hown hK.1 hP 0 rfl rfl 1 (by decide) (hts _ zk_X2_head_2) (fun _ h9 => h9) rfl dX2_head_43 ?_
          refine lv_iload_n hx hb dX2_head_46 rfl (lv_at hl 1 rfl) ?_
          refine lv_iconst (v := (1 : Int32)) hx hb dX2_head_47 (by decide) ?_
          obtain ⟨r12, g13, h⟩ := bo1 h
          refine zb_callS (As := [.int v1, .int (1 : Int32)]) (rest := [.ref (ad 2)]) ⟨hx, hb, hml, hown, hts⟩ (zc_X2_of l D cI v1 (1 : Int32) r12 g13) (va_cwS 2 hts gX2_head_X2_of rfl rfl rfl hd_X2_of.2 ⟨Nat.le_of_ble_eq_true rfl, Nat.le_of_ble_eq_true rfl⟩) hK hP hD hS hA (zb_none _) rfl hl.1 rfl (Nat.le_of_ble_eq_true rfl) dX2_head_48 ⟨Nat.le_refl _, Nat.le_refl _⟩ (fun H locs hP hD hS => ?_)
          refine lv_iload hx hb dX2_head_51 (lv_at hl 5 rfl) ?_
          obtain ⟨h14, h⟩ := it_g h
          refine va_iast hx hb hK.1 hP hD hS 2 0 rfl rfl h14 dX2_head_53 (fun H locs hP hD hS => ?_)
          have hP : va_P D zb_cl (zb_M cI ad m_s (upd n10 r12.toNatClampNeg x6) m_image m_was m_hasImage m_letters m_row m_refused m_letterMany m_rowMany m_place m_numbers m_cost m_seed) H := hP
          have hD : va_D A (zb_M cI ad m_s (upd n10 r12.toNatClampNeg x6) m_image m_was m_hasImage m_letters m_row m_refused m_letterMany m_rowMany m_place m_numbers m_cost m_seed) := hD
          refine lv_aload_n hx hb dX2_head_54 rfl (lv_at hl 0 rfl) ?_
          refine lv_iload_n hx hb dX2_head_55 rfl (lv_at hl 1 rfl) ?_
          refine lv_iload_n hx hb dX2_head_56 rfl (lv_at hl 2 rfl) ?_
          obtain ⟨r15, n16, g17, h⟩ := bo2 h
          refine zb_callV (As := [.int v1, .int v2]) (rest := []) ⟨hx, hb, hml, hown, hts⟩ (zc_X2_comesTo l D cI ad m_s (upd n10 r12.toNatClampNeg x6) m_image m_was m_hasImage m_letters m_row m_refused m_letterMany m_rowMany m_place m_numbers m_cost m_seed v1 v2 r15 n16 g17) (cwV 2 hts gX2_head_X2_comesTo rfl rfl rfl hd_X2_comesTo ⟨Nat.le_of_ble_eq_true rfl, Nat.le_of_ble_eq_true rfl⟩) hK hP hD hS hA (zb_sM) (q0 := 0) rfl rfl rfl hl.1 rfl (Nat.le_of_ble_eq_true rfl) dX2_head_57 ⟨Nat.le_refl _, Nat.le_refl _⟩ (fun H locs hP hD hS => ?_)
          refine lv_istore (lv' := [(6, .int r15), (0, .ref (ad 0)), (1, .int v1), (2, .int v2), (3, .int x4), (4, .int x5), (5, .int x6)]) hx hb dX2_head_60 hl (by decide) rfl (fun ls hl => ?_)
          refine lv_iload hx hb dX2_head_62 (lv_at hl 0 rfl) ?_
          refine lv_if_lt (tgt := 84) hx hb dX2_head_64 (by decide) (fun c18 => ?_) (fun c18 => ?_)
          · replace h := it_t c18 h
            refine lv_iinc (v := (x6 + (1 : Int32))) (lv' := [(5, .int (x6 + (1 : Int32))), (6, .int r15), (0, .ref (ad 0)), (1, .int v1), (2, .int v2), (3, .int x4), (4, .int x5)]) hx hb dX2_head_84 hl (k := 6) rfl (by first | rfl | decide) (by decide) rfl (fun ls hl => ?_)
            refine lv_goto (tgt := 25) hx hb dX2_head_87 (by decide) ?_
            exact ih8 x4 x5 (x6 + (1 : Int32)) n16 _ _ hP hD hS ls (lv_sub hl [2, 3, 4, 5, 6, 0] rfl) h
          · replace h := it_f c18 h
            refine lv_iload hx hb dX2_head_67 (lv_at hl 0 rfl) ?_
            refine lv_iload hx hb dX2_head_69 (lv_at hl 5 rfl) ?_
            refine lv_icmp_lt (tgt := 77) hx hb dX2_head_71 (by decide) (fun c19 => ?_) (fun c19 => ?_)
            · replace h := it_t c19 h
              refine lv_iload hx hb dX2_head_77 (lv_at hl 6 rfl) ?_
              refine lv_istore_n (lv' := [(3, .int x6), (6, .int r15), (0, .ref (ad 0)), (1, .int v1), (2, .int v2), (4, .int x5), (5, .int x6)]) hx hb dX2_head_79 rfl hl (by decide) rfl (fun ls hl => ?_)
              refine lv_iload hx hb dX2_head_80 (lv_at hl 1 rfl) ?_
              refine lv_istore (lv' := [(4, .int r15), (3, .int x6), (6, .int r15), (0, .ref (ad 0)), (1, .int v1), (2, .int v2), (5, .int x6)]) hx hb dX2_head_82 hl (by decide) rfl (fun ls hl => ?_)
              refine lv_iinc (v := (x6 + (1 : Int32))) (lv' := [(5, .int (x6 + (1 : Int32))), (4, .int r15), (3, .int x6), (6, .int r15), (0, .ref (ad 0)), (1, .int v1), (2, .int v2)]) hx hb dX2_head_84 hl (k := 6) rfl (by first | rfl | decide) (by decide) rfl (fun ls hl => ?_)
              refine lv_goto (tgt := 25) hx hb dX2_head_87 (by decide) ?_
              exact ih8 x6 r15 (x6 + (1 : Int32)) n16 _ _ hP hD hS ls (lv_sub hl [4, 5, 6, 2, 1, 0] rfl) h
            · replace h := it_f c19 h
              refine lv_goto (tgt := 84) hx hb dX2_head_74 (by decide) ?_
              refine lv_iinc (v := (x6 + (1 : Int32))) (lv' := [(5, .int (x6 + (1 : Int32))), (6, .int r15), (0, .ref (ad 0)), (1, .int v1), (2, .int v2), (3, .int x4), (4, .int x5)]) hx hb dX2_head_84 hl (k := 6) rfl (by first | rfl | decide) (by decide) rfl (fun ls hl => ?_)
              refine lv_goto (tgt := 25) hx hb dX2_head_87 (by decide) ?_
              exact ih8 x4 x5 (x6 + (1 : Int32)) n16 _ _ hP hD hS ls (lv_sub hl [2, 3, 4, 5, 6, 0] rfl) h
    exact lp8 zb_FU ((-9) : Int32) (1000000000 : Int32) (0 : Int32) m_m _ _ hP hD hS ls (lv_sub hl [3, 4, 5, 2, 1, 0] rfl) h
  · replace h := it_t c3 h
    refine lv_aload_n hx hb dX2_head_9 rfl (lv_at hl 0 rfl) ?_
    refine lv_iconst (v := ((-1) : Int32)) hx hb dX2_head_10 (by decide) ?_
    obtain ⟨r20, n21, g22, h⟩ := bo2 h
    refine zb_callV (As := [.int ((-1) : Int32)]) (rest := []) ⟨hx, hb, hml, hown, hts⟩ (zc_X2_no l D cI ad m_s m_m m_image m_was m_hasImage m_letters m_row m_refused m_letterMany m_rowMany m_place m_numbers m_cost m_seed ((-1) : Int32) r20 n21 g22) (cwV 1 hts gX2_head_X2_no rfl rfl rfl hd_X2_no ⟨Nat.le_of_ble_eq_true rfl, Nat.le_of_ble_eq_true rfl⟩) hK hP hD hS hA (zb_sM) (q0 := 0) rfl rfl rfl hl.1 rfl (Nat.le_of_ble_eq_true rfl) dX2_head_11 ⟨Nat.le_refl _, Nat.le_refl _⟩ (fun H locs hP hD hS => ?_)
    obtain ⟨rfl, rfl, rfl⟩ := re3 h
    exact zb_iret hx hb hr hlk hP hS dX2_head_14
abbrev rm_X2_damp : Room := { frames := 6, cells := 0, slots := 0, locals := 137 }
theorem hd_X2_damp : yX2_damp.cls = RX2 ∧ yX2_damp.cls ≠ "java/lang/invoke/MethodHandle" ∧ yX2_damp.cls ≠ "java/lang/invoke/VarHandle" ∧ (parseMethodDescriptor yX2_damp.desc).map (fun d => d.parameters.length) = some 2 := by decide +kernel
theorem zi_X2_damp_X2 : ∀ w ∈ wsX20, w ∈ wsX2_damp := fun _ h => List.mem_cons_of_mem _ (List.mem_append_right _ h)
theorem zk_X2_damp_0 : Cond.fieldLink RX2 9 "GroutingIsFollowedModel" "s" "[I" ∈ wsX2_damp := by decide +kernel
theorem zk_X2_damp_1 : Cond.fieldLink RX2 13 "GroutingIsFollowedModel" "m" "[I" ∈ wsX2_damp := by decide +kernel
set_option maxHeartbeats 4000000 in
set_option maxRecDepth 100000 in
theorem zc_X2_damp (l : Launch) (D : va_G) (cI : ClassId) (ad : Nat → Nat) (m_s : (Nat → Int32)) (m_m : (Nat → Int32)) (m_image : (Nat → Int32)) (m_was : (Nat → Int32)) (m_hasImage : Int32) (m_letters : (Nat → Int32)) (m_row : (Nat → Int32)) (m_refused : (Nat → Int32)) (m_letterMany : Int32) (m_rowMany : Int32) (m_place : Int32) (m_numbers : (Nat → Int32)) (m_cost : (Nat → Int32)) (m_seed : Int32) (v1 : Int32) (v2 : Int32) (r0 : Int32) (w_m_m : (Nat → Int32)) (w_m_refused : (Nat → Int32)) (h : zf_X2_damp m_s m_m m_refused v1 v2 = some (r0, w_m_m, w_m_refused)) : Cn l D cI yX2_damp wsX2_damp rm_X2_damp [.ref (ad 0), .int v1, .int v2] (zb_M cI ad m_s m_m m_image m_was m_hasImage m_letters m_row m_refused m_letterMany m_rowMany m_place m_numbers m_cost m_seed) (some (.int r0)) (zb_M cI ad m_s w_m_m m_image m_was m_hasImage m_letters m_row w_m_refused m_letterMany m_rowMany m_place m_numbers m_cost m_seed) := by
  refine zb_ofW (cc := cX2_damp) (maxL := 8) (ret := (some .int)) (by decide) rfl (Nat.le_of_ble_eq_true rfl) ?_
  intro p e s m args below meth c A ls hx hb hr hml hts hown hlk hK hP hD hA hl
  have hS : va_S A s.heap s.heap [] := va_S.rf
  have hl : lv_has ls 8 [(0, .ref (ad 0)), (1, .int v1), (2, .int v2)] := hl
  unfold zf_X2_damp at h
  refine lv_aload_n hx hb dX2_damp_0 rfl (lv_at hl 0 rfl) ?_
  refine lv_iload_n hx hb dX2_damp_1 rfl (lv_at hl 1 rfl) ?_
  obtain ⟨r1, g2, h⟩ := bo1 h
  refine zb_callV (As := [.int v1]) (rest := []) ⟨hx, hb, hml, hown, hts⟩ (zc_X2_isPerson l D cI ad m_s m_m m_image m_was m_hasImage m_letters m_row m_refused m_letterMany m_rowMany m_place m_numbers m_cost m_seed v1 r1 g2) (cwV 1 hts gX2_damp_X2_isPerson rfl rfl rfl hd_X2_isPerson ⟨Nat.le_of_ble_eq_true rfl, Nat.le_of_ble_eq_true rfl⟩) hK hP hD hS hA (zb_sM) (q0 := 0) rfl rfl rfl hl.1 rfl (Nat.le_of_ble_eq_true rfl) dX2_damp_2 ⟨Nat.le_refl _, Nat.le_refl _⟩ (fun H locs hP hD hS => ?_)
  refine lv_if_eq (tgt := 18) hx hb dX2_damp_5 (by decide) (fun c3 => ?_) (fun c3 => ?_)
  · replace h := it_t c3 h
    refine lv_iconst (v := ((-1) : Int32)) hx hb dX2_damp_18 (by decide) ?_
    refine lv_istore_n (lv' := [(3, .int ((-1) : Int32)), (0, .ref (ad 0)), (1, .int v1), (2, .int v2)]) hx hb dX2_damp_19 rfl hl (by decide) rfl (fun ls hl => ?_)
    refine lv_iload_n hx hb dX2_damp_20 rfl (lv_at hl 0 rfl) ?_
    refine lv_if_eq (tgt := 30) hx hb dX2_damp_21 (by decide) (fun c4 => absurd c4 (by decide)) (fun _ => ?_)
    refine lv_aload_n hx hb dX2_damp_24 rfl (lv_at hl 1 rfl) ?_
    refine lv_iload_n hx hb dX2_damp_25 rfl (lv_at hl 0 rfl) ?_
    obtain ⟨r5, n6, g7, h⟩ := bo2 h
    refine zb_callV (As := [.int ((-1) : Int32)]) (rest := []) ⟨hx, hb, hml, hown, hts⟩ (zc_X2_no l D cI ad m_s m_m m_image m_was m_hasImage m_letters m_row m_refused m_letterMany m_rowMany m_place m_numbers m_cost m_seed ((-1) : Int32) r5 n6 g7) (cwV 1 hts gX2_damp_X2_no rfl rfl rfl hd_X2_no ⟨Nat.le_of_ble_eq_true rfl, Nat.le_of_ble_eq_true rfl⟩) hK hP hD hS hA (zb_sM) (q0 := 0) rfl rfl rfl hl.1 rfl (Nat.le_of_ble_eq_true rfl) dX2_damp_26 ⟨Nat.le_refl _, Nat.le_refl _⟩ (fun H locs hP hD hS => ?_)
    obtain ⟨rfl, rfl, rfl⟩ := re3 h
    exact zb_iret hx hb hr hlk hP hS dX2_damp_29
  · replace h := it_f c3 h
    refine lv_iload_n hx hb dX2_damp_8 rfl (lv_at hl 2 rfl) ?_
    refine lv_iconst (v := (0 : Int32)) hx hb dX2_damp_9 (by decide) ?_
    refine lv_bipush (v := (30 : Int32)) hx hb dX2_damp_10 (by decide) ?_
    obtain ⟨r8, g9, h⟩ := bo1 h
    refine zb_callS (As := [.int v2, .int (0 : Int32), .int (30 : Int32)]) (rest := []) ⟨hx, hb, hml, hown, hts⟩ (zc_X2_wrongBy l D cI v2 (0 : Int32) (30 : Int32) r8 g9) (va_cwS 3 hts gX2_damp_X2_wrongBy rfl rfl rfl hd_X2_wrongBy.2 ⟨Nat.le_of_ble_eq_true rfl, Nat.le_of_ble_eq_true rfl⟩) hK hP hD hS hA (zb_none _) rfl hl.1 rfl (Nat.le_of_ble_eq_true rfl) dX2_damp_12 ⟨Nat.le_refl _, Nat.le_refl _⟩ (fun H locs hP hD hS => ?_)
    refine lv_goto (tgt := 19) hx hb dX2_damp_15 (by decide) ?_
    refine lv_istore_n (lv' := [(3, .int r8), (0, .ref (ad 0)), (1, .int v1), (2, .int v2)]) hx hb dX2_damp_19 rfl hl (by decide) rfl (fun ls hl => ?_)
    refine lv_iload_n hx hb dX2_damp_20 rfl (lv_at hl 0 rfl) ?_
    refine lv_if_eq (tgt := 30) hx hb dX2_damp_21 (by decide) (fun c10 => ?_) (fun c10 => ?_)
    · replace h := it_t c10 h
      refine lv_aload_n hx hb dX2_damp_30 rfl (lv_at hl 1 rfl) ?_
      refine lv_iload_n hx hb dX2_damp_31 rfl (lv_at hl 2 rfl) ?_
      refine lv_iload_n hx hb dX2_damp_32 rfl (lv_at hl 3 rfl) ?_
      obtain ⟨r11, n12, g13, h⟩ := bo2 h
      refine zb_callV (As := [.int v1, .int v2]) (rest := []) ⟨hx, hb, hml, hown, hts⟩ (zc_X2_visitsNow l D cI ad m_s m_m m_image m_was m_hasImage m_letters m_row m_refused m_letterMany m_rowMany m_place m_numbers m_cost m_seed v1 v2 r11 n12 g13) (cwV 2 hts gX2_damp_X2_visitsNow rfl rfl rfl hd_X2_visitsNow ⟨Nat.le_of_ble_eq_true rfl, Nat.le_of_ble_eq_true rfl⟩) hK hP hD hS hA (zb_sM) (q0 := 0) rfl rfl rfl hl.1 rfl (Nat.le_of_ble_eq_true rfl) dX2_damp_33 ⟨Nat.le_refl _, Nat.le_refl _⟩ (fun H locs hP hD hS => ?_)
      refine lv_istore (lv' := [(4, .int r11), (3, .int r8), (0, .ref (ad 0)), (1, .int v1), (2, .int v2)]) hx hb dX2_damp_36 hl (by decide) rfl (fun ls hl => ?_)
      refine lv_bipush (v := ((-9) : Int32)) hx hb dX2_damp_38 (by decide) ?_
      refine lv_istore (lv' := [(5, .int ((-9) : Int32)), (4, .int r11), (3, .int r8), (0, .ref (ad 0)), (1, .int v1), (2, .int v2)]) hx hb dX2_damp_40 hl (by decide) rfl (fun ls hl => ?_)
      refine lv_iconst (v := (0 : Int32)) hx hb dX2_damp_42 (by decide) ?_
      refine lv_istore (lv' := [(6, .int (0 : Int32)), (5, .int ((-9) : Int32)), (4, .int r11), (3, .int r8), (0, .ref (ad 0)), (1, .int v1), (2, .int v2)]) hx hb dX2_damp_43 hl (by decide) rfl (fun ls hl => ?_)
      have lp18 : ∀ (fu18 : Nat) (x14 : Int32) (x15 : Int32) (x16 : Int32) (x17 : (Nat → Int32)) (H : Heap) (locs : List Loc) (hP : va_P D zb_cl (zb_M cI ad m_s x17 m_image m_was m_hasImage m_letters m_row m_refused m_letterMany m_rowMany m_place m_numbers m_cost m_seed) H) (hD : va_D A (zb_M cI ad m_s x17 m_image m_was m_hasImage m_letters m_row m_refused m_letterMany m_rowMany m_place m_numbers m_cost m_seed)) (hS : va_S A s.heap H locs) (ls : Array Slot) (hl : lv_has ls 8 [(0, .ref (ad 0)), (1, .int v1), (2, .int v2), (4, .int x14), (5, .int x15), (6, .int x16)]) (h : zl4 (zf_X2_damp_b45 v1 v2 m_s m_refused) fu18 x14 x15 x16 x17 = some (r0, w_m_m, w_m_refused)), W p l e rm_X2_damp s m args below meth c H locs 0 0 (zb_Q below D (some (.int r0)) (zb_M cI ad m_s w_m_m m_image m_was m_hasImage m_letters m_row w_m_refused m_letterMany m_rowMany m_place m_numbers m_cost m_seed) A args s) (F0 m 45 ls []) := by
        intro fu18
        induction fu18 with
        | zero => intro x14 x15 x16 x17 H locs hP hD hS ls hl h; exact zb_no h
        | succ fu18 ih18 =>
          intro x14 x15 x16 x17 H locs hP hD hS ls hl h
          replace h : zf_X2_damp_b45 v1 v2 m_s m_refused (zl4 (zf_X2_damp_b45 v1 v2 m_s m_refused) fu18) x14 x15 x16 x17 = some (r0, w_m_m, w_m_refused) := h
          unfold zf_X2_damp_b45 at h
          refine lv_iload hx hb dX2_damp_45 (lv_at hl 5 rfl) ?_
          refine lv_bipush (v := (30 : Int32)) hx hb dX2_damp_47 (by decide) ?_
          refine lv_icmp_ge (tgt := 107) hx hb dX2_damp_49 (by decide) (fun c19 => ?_) (fun c19 => ?_)
          · replace h := it_t c19 h
            refine lv_iload hx hb dX2_damp_107 (lv_at hl 4 rfl) ?_
            obtain ⟨rfl, rfl, rfl⟩ := re3 h
            exact zb_iret hx hb hr hlk hP hS dX2_damp_109
          · replace h := it_f c19 h
            refine lv_aload_n hx hb dX2_damp_52 rfl (lv_at hl 0 rfl) ?_
            refine va_get (D := D) (ci := 2) (v := .ref (ad 1)) (C := RX2) (T := TX2) (N := 14) hx hb hts zi_X2_damp_X2 hown hK.1 hP 0 rfl rfl 0 (by decide) (hts _ zk_X2_damp_0) (fun _ h9 => h9) rfl dX2_damp_53 ?_
            refine lv_aload_n hx hb dX2_damp_56 rfl (lv_at hl 0 rfl) ?_
            refine va_get (D := D) (ci := 2) (v := .ref (ad 2)) (C := RX2) (T := TX2) (N := 14) hx hb hts zi_X2_damp_X2 hown hK.1 hP 0 rfl rfl 1 (by decide) (hts _ zk_X2_damp_1) (fun _ h9 => h9) rfl dX2_damp_57 ?_
            obtain ⟨n20, g21, h⟩ := bo1 h
            refine zb_callS (As := [.ref (ad 1), .ref (ad 2)]) (rest := []) ⟨hx, hb, hml, hown, hts⟩ (zc_X2_copies l D cI (ad 1) (ad 2) m_s x17 n20 g21) (va_cwS 2 hts gX2_damp_X2_copies rfl rfl rfl hd_X2_copies.2 ⟨Nat.le_of_ble_eq_true rfl, Nat.le_of_ble_eq_true rfl⟩) hK hP hD hS hA (zb_cM_s_m) rfl hl.1 rfl (Nat.le_of_ble_eq_true rfl) dX2_damp_60 ⟨Nat.le_refl _, Nat.le_refl _⟩ (fun H locs hP hD hS => ?_)
            refine lv_aload_n hx hb dX2_damp_63 rfl (lv_at hl 0 rfl) ?_
            refine va_get (D := D) (ci := 2) (v := .ref (ad 2)) (C := RX2) (T := TX2) (N := 14) hx hb hts zi_X2_damp_X2 hown hK.1 hP 0 rfl rfl 1 (by decide) (hts _ zk_X2_damp_1) (fun _ h9 => h9) rfl dX2_damp_64 ?_
            refine lv_bipush (v := (63 : Int32)) hx hb dX2_damp_67 (by decide) ?_
            refine lv_iload hx hb dX2_damp_69 (lv_at hl 5 rfl) ?_
            refine lv_iadd hx hb dX2_damp_71 ?_
            refine lv_bipush (v := (9 : Int32)) hx hb dX2_damp_72 (by decide) ?_
            obtain ⟨h22, h⟩ := it_g h
            refine va_iast hx hb hK.1 hP hD hS 2 0 rfl rfl h22 dX2_damp_74 (fun H locs hP hD hS => ?_)
            have hP : va_P D zb_cl (zb_M cI ad m_s (upd n20 ((63 : Int32) + x16).toNatClampNeg (9 : Int32)) m_image m_was m_hasImage m_letters m_row m_refused m_letterMany m_rowMany m_place m_numbers m_cost m_seed) H := hP
            have hD : va_D A (zb_M cI ad m_s (upd n20 ((63 : Int32) + x16).toNatClampNeg (9 : Int32)) m_image m_was m_hasImage m_letters m_row m_refused m_letterMany m_rowMany m_place m_numbers m_cost m_seed) := hD
            refine lv_aload_n hx hb dX2_damp_75 rfl (lv_at hl 0 rfl) ?_
            refine lv_iload_n hx hb dX2_damp_76 rfl (lv_at hl 1 rfl) ?_
            refine lv_iload_n hx hb dX2_damp_77 rfl (lv_at hl 2 rfl) ?_
            obtain ⟨r23, n24, g25, h⟩ := bo2 h
            refine zb_callV (As := [.int v1, .int v2]) (rest := []) ⟨hx, hb, hml, hown, hts⟩ (zc_X2_visitsIn l D cI ad m_s (upd n20 ((63 : Int32) + x16).toNatClampNeg (9 : Int32)) m_image m_was m_hasImage m_letters m_row m_refused m_letterMany m_rowMany m_place m_numbers m_cost m_seed v1 v2 r23 n24 g25) (cwV 2 hts gX2_damp_X2_visitsIn rfl rfl rfl hd_X2_visitsIn ⟨Nat.le_of_ble_eq_true rfl, Nat.le_of_ble_eq_true rfl⟩) hK hP hD hS hA (zb_sM) (q0 := 0) rfl rfl rfl hl.1 rfl (Nat.le_of_ble_eq_true rfl) dX2_damp_78 ⟨Nat.le_refl _, Nat.le_refl _⟩ (fun H locs hP hD hS => ?_)
            refine lv_istore (lv' := [(7, .int r23), (0, .ref (ad 0)), (1, .int v1), (2, .int v2), (4, .int x14), (5, .int x15), (6, .int x16)]) hx hb dX2_damp_81 hl (by decide) rfl (fun ls hl => ?_)
            refine lv_iload hx hb dX2_damp_83 (lv_at hl 0 rfl) ?_
            refine lv_iload hx hb dX2_damp_85 (lv_at hl 4 rfl) ?_
            refine lv_icmp_gt (tgt := 93) hx hb dX2_damp_87 (by decide) (fun c26 => ?_) (fun c26 => ?_)
            · replace h := it_t c26 h
              refine lv_iload hx hb dX2_damp_93 (lv_at hl 6 rfl) ?_
              refine lv_istore (lv' := [(5, .int x16), (7, .int r23), (0, .ref (ad 0)), (1, .int v1), (2, .int v2), (4, .int x14), (6, .int x16)]) hx hb dX2_damp_95 hl (by decide) rfl (fun ls hl => ?_)
              refine lv_iload hx hb dX2_damp_97 (lv_at hl 1 rfl) ?_
              refine lv_istore (lv' := [(4, .int r23), (5, .int x16), (7, .int r23), (0, .ref (ad 0)), (1, .int v1), (2, .int v2), (6, .int x16)]) hx hb dX2_damp_99 hl (by decide) rfl (fun ls hl => ?_)
              refine lv_iinc (v := (x16 + (1 : Int32))) (lv' := [(6, .int (x16 + (1 : Int32))), (4, .int r23), (5, .int x16), (7, .int r23), (0, .ref (ad 0)), (1, .int v1), (2, .int v2)]) hx hb dX2_damp_101 hl (k := 6) rfl (by first | rfl | decide) (by decide) rfl (fun ls hl => ?_)
              refine lv_goto (tgt := 45) hx hb dX2_damp_104 (by decide) ?_
              exact ih18 r23 x16 (x16 + (1 : Int32)) n24 _ _ hP hD hS ls (lv_sub hl [4, 5, 6, 1, 2, 0] rfl) h
            · replace h := it_f c26 h
              refine lv_goto (tgt := 101) hx hb dX2_damp_90 (by decide) ?_
              refine lv_iinc (v := (x16 + (1 : Int32))) (lv' := [(6, .int (x16 + (1 : Int32))), (7, .int r23), (0, .ref (ad 0)), (1, .int v1), (2, .int v2), (4, .int x14), (5, .int x15)]) hx hb dX2_damp_101 hl (k := 6) rfl (by first | rfl | decide) (by decide) rfl (fun ls hl => ?_)
              refine lv_goto (tgt := 45) hx hb dX2_damp_104 (by decide) ?_
              exact ih18 x14 x15 (x16 + (1 : Int32)) n24 _ _ hP hD hS ls (lv_sub hl [2, 3, 4, 5, 6, 0] rfl) h
      exact lp18 zb_FU r11 ((-9) : Int32) (0 : Int32) n12 _ _ hP hD hS ls (lv_sub hl [4, 5, 6, 2, 1, 0] rfl) h
    · replace h := it_f c10 h
      refine lv_aload_n hx hb dX2_damp_24 rfl (lv_at hl 1 rfl) ?_
      refine lv_iload_n hx hb dX2_damp_25 rfl (lv_at hl 0 rfl) ?_
      obtain ⟨r27, n28, g29, h⟩ := bo2 h
      refine zb_callV (As := [.int r8]) (rest := []) ⟨hx, hb, hml, hown, hts⟩ (zc_X2_no l D cI ad m_s m_m m_image m_was m_hasImage m_letters m_row m_refused m_letterMany m_rowMany m_place m_numbers m_cost m_seed r8 r27 n28 g29) (cwV 1 hts gX2_damp_X2_no rfl rfl rfl hd_X2_no ⟨Nat.le_of_ble_eq_true rfl, Nat.le_of_ble_eq_true rfl⟩) hK hP hD hS hA (zb_sM) (q0 := 0) rfl rfl rfl hl.1 rfl (Nat.le_of_ble_eq_true rfl) dX2_damp_26 ⟨Nat.le_refl _, Nat.le_refl _⟩ (fun H locs hP hD hS => ?_)
      obtain ⟨rfl, rfl, rfl⟩ := re3 h
      exact zb_iret hx hb hr hlk hP hS dX2_damp_29
abbrev rm_X2_bestKind : Room := { frames := 5, cells := 0, slots := 0, locals := 115 }
theorem hd_X2_bestKind : yX2_bestKind.cls = RX2 ∧ yX2_bestKind.cls ≠ "java/lang/invoke/MethodHandle" ∧ yX2_bestKind.cls ≠ "java/lang/invoke/VarHandle" ∧ (parseMethodDescriptor yX2_bestKind.desc).map (fun d => d.parameters.length) = some 3 := by decide +kernel
theorem zi_X2_bestKind_X2 : ∀ w ∈ wsX20, w ∈ wsX2_bestKind := fun _ h => List.mem_cons_of_mem _ (List.mem_append_right _ h)
theorem zk_X2_bestKind_0 : Cond.fieldLink RX2 9 "GroutingIsFollowedModel" "s" "[I" ∈ wsX2_bestKind := by decide +kernel
theorem zk_X2_bestKind_1 : Cond.fieldLink RX2 13 "GroutingIsFollowedModel" "m" "[I" ∈ wsX2_bestKind := by decide +kernel
set_option maxHeartbeats 4000000 in
set_option maxRecDepth 100000 in
theorem zc_X2_bestKind (l : Launch) (D : va_G) (cI : ClassId) (ad : Nat → Nat) (m_s : (Nat → Int32)) (m_m : (Nat → Int32)) (m_image : (Nat → Int32)) (m_was : (Nat → Int32)) (m_hasImage : Int32) (m_letters : (Nat → Int32)) (m_row : (Nat → Int32)) (m_refused : (Nat → Int32)) (m_letterMany : Int32) (m_rowMany : Int32) (m_place : Int32) (m_numbers : (Nat → Int32)) (m_cost : (Nat → Int32)) (m_seed : Int32) (v1 : Int32) (v2 : Int32) (v3 : Int32) (r0 : Int32) (w_m_m : (Nat → Int32)) (w_m_refused : (Nat → Int32)) (h : zf_X2_bestKind m_s m_m m_refused v1 v2 v3 = some (r0, w_m_m, w_m_refused)) : Cn l D cI yX2_bestKind wsX2_bestKind rm_X2_bestKind [.ref (ad 0), .int v1, .int v2, .int v3] (zb_M cI ad m_s m_m m_image m_was m_hasImage m_letters m_row m_refused m_letterMany m_rowMany m_place m_numbers m_cost m_seed) (some (.int r0)) (zb_M cI ad m_s w_m_m m_image m_was m_hasImage m_letters m_row w_m_refused m_letterMany m_rowMany m_place m_numbers m_cost m_seed) := by
  refine zb_ofW (cc := cX2_bestKind) (maxL := 9) (ret := (some .int)) (by decide) rfl (Nat.le_of_ble_eq_true rfl) ?_
  intro p e s m args below meth c A ls hx hb hr hml hts hown hlk hK hP hD hA hl
  have hS : va_S A s.heap s.heap [] := va_S.rf
  have hl : lv_has ls 9 [(0, .ref (ad 0)), (1, .int v1), (2, .int v2), (3, .int v3)] := hl
  unfold zf_X2_bestKind at h
  refine lv_aload_n hx hb dX2_bestKind_0 rfl (lv_at hl 0 rfl) ?_
  refine lv_iload_n hx hb dX2_bestKind_1 rfl (lv_at hl 2 rfl) ?_
  refine lv_iload_n hx hb dX2_bestKind_2 rfl (lv_at hl 1 rfl) ?_
  obtain ⟨r1, g2, h⟩ := bo1 h
  refine zb_callV (As := [.int v2, .int v1]) (rest := []) ⟨hx, hb, hml, hown, hts⟩ (zc_X2_areThere l D cI ad m_s m_m m_image m_was m_hasImage m_letters m_row m_refused m_letterMany m_rowMany m_place m_numbers m_cost m_seed v2 v1 r1 g2) (cwV 2 hts gX2_bestKind_X2_areThere rfl rfl rfl hd_X2_areThere ⟨Nat.le_of_ble_eq_true rfl, Nat.le_of_ble_eq_true rfl⟩) hK hP hD hS hA (zb_sM) (q0 := 0) rfl rfl rfl hl.1 rfl (Nat.le_of_ble_eq_true rfl) dX2_bestKind_3 ⟨Nat.le_refl _, Nat.le_refl _⟩ (fun H locs hP hD hS => ?_)
  refine lv_if_eq (tgt := 19) hx hb dX2_bestKind_6 (by decide) (fun c3 => ?_) (fun c3 => ?_)
  · replace h := it_t c3 h
    refine lv_iconst (v := ((-1) : Int32)) hx hb dX2_bestKind_19 (by decide) ?_
    refine lv_istore (lv' := [(4, .int ((-1) : Int32)), (0, .ref (ad 0)), (1, .int v1), (2, .int v2), (3, .int v3)]) hx hb dX2_bestKind_20 hl (by decide) rfl (fun ls hl => ?_)
    refine lv_iload hx hb dX2_bestKind_22 (lv_at hl 0 rfl) ?_
    refine lv_if_eq (tgt := 34) hx hb dX2_bestKind_24 (by decide) (fun c4 => absurd c4 (by decide)) (fun _ => ?_)
    refine lv_aload_n hx hb dX2_bestKind_27 rfl (lv_at hl 1 rfl) ?_
    refine lv_iload hx hb dX2_bestKind_28 (lv_at hl 0 rfl) ?_
    obtain ⟨r5, n6, g7, h⟩ := bo2 h
    refine zb_callV (As := [.int ((-1) : Int32)]) (rest := []) ⟨hx, hb, hml, hown, hts⟩ (zc_X2_no l D cI ad m_s m_m m_image m_was m_hasImage m_letters m_row m_refused m_letterMany m_rowMany m_place m_numbers m_cost m_seed ((-1) : Int32) r5 n6 g7) (cwV 1 hts gX2_bestKind_X2_no rfl rfl rfl hd_X2_no ⟨Nat.le_of_ble_eq_true rfl, Nat.le_of_ble_eq_true rfl⟩) hK hP hD hS hA (zb_sM) (q0 := 0) rfl rfl rfl hl.1 rfl (Nat.le_of_ble_eq_true rfl) dX2_bestKind_30 ⟨Nat.le_refl _, Nat.le_refl _⟩ (fun H locs hP hD hS => ?_)
    obtain ⟨rfl, rfl, rfl⟩ := re3 h
    exact zb_iret hx hb hr hlk hP hS dX2_bestKind_33
  · replace h := it_f c3 h
    refine lv_iload_n hx hb dX2_bestKind_9 rfl (lv_at hl 3 rfl) ?_
    refine lv_iconst (v := (0 : Int32)) hx hb dX2_bestKind_10 (by decide) ?_
    refine lv_bipush (v := (30 : Int32)) hx hb dX2_bestKind_11 (by decide) ?_
    obtain ⟨r8, g9, h⟩ := bo1 h
    refine zb_callS (As := [.int v3, .int (0 : Int32), .int (30 : Int32)]) (rest := []) ⟨hx, hb, hml, hown, hts⟩ (zc_X2_wrongBy l D cI v3 (0 : Int32) (30 : Int32) r8 g9) (va_cwS 3 hts gX2_bestKind_X2_wrongBy rfl rfl rfl hd_X2_wrongBy.2 ⟨Nat.le_of_ble_eq_true rfl, Nat.le_of_ble_eq_true rfl⟩) hK hP hD hS hA (zb_none _) rfl hl.1 rfl (Nat.le_of_ble_eq_true rfl) dX2_bestKind_13 ⟨Nat.le_refl _, Nat.le_refl _⟩ (fun H locs hP hD hS => ?_)
    refine lv_goto (tgt := 20) hx hb dX2_bestKind_16 (by decide) ?_
    refine lv_istore (lv' := [(4, .int r8), (0, .ref (ad 0)), (1, .int v1), (2, .int v2), (3, .int v3)]) hx hb dX2_bestKind_20 hl (by decide) rfl (fun ls hl => ?_)
    refine lv_iload hx hb dX2_bestKind_22 (lv_at hl 0 rfl) ?_
    refine lv_if_eq (tgt := 34) hx hb dX2_bestKind_24 (by decide) (fun c10 => ?_) (fun c10 => ?_)
    · replace h := it_t c10 h
      refine lv_iconst (v := (0 : Int32)) hx hb dX2_bestKind_34 (by decide) ?_
      refine lv_istore (lv' := [(5, .int (0 : Int32)), (4, .int r8), (0, .ref (ad 0)), (1, .int v1), (2, .int v2), (3, .int v3)]) hx hb dX2_bestKind_35 hl (by decide) rfl (fun ls hl => ?_)
      refine lv_iconst (v := ((-1) : Int32)) hx hb dX2_bestKind_37 (by decide) ?_
      refine lv_istore (lv' := [(6, .int ((-1) : Int32)), (5, .int (0 : Int32)), (4, .int r8), (0, .ref (ad 0)), (1, .int v1), (2, .int v2), (3, .int v3)]) hx hb dX2_bestKind_38 hl (by decide) rfl (fun ls hl => ?_)
      refine lv_iconst (v := (0 : Int32)) hx hb dX2_bestKind_40 (by decide) ?_
      refine lv_istore (lv' := [(7, .int (0 : Int32)), (6, .int ((-1) : Int32)), (5, .int (0 : Int32)), (4, .int r8), (0, .ref (ad 0)), (1, .int v1), (2, .int v2), (3, .int v3)]) hx hb dX2_bestKind_41 hl (by decide) rfl (fun ls hl => ?_)
      have lp15 : ∀ (fu15 : Nat) (x11 : Int32) (x12 : Int32) (x13 : Int32) (x14 : (Nat → Int32)) (H : Heap) (locs : List Loc) (hP : va_P D zb_cl (zb_M cI ad m_s x14 m_image m_was m_hasImage m_letters m_row m_refused m_letterMany m_rowMany m_place m_numbers m_cost m_seed) H) (hD : va_D A (zb_M cI ad m_s x14 m_image m_was m_hasImage m_letters m_row m_refused m_letterMany m_rowMany m_place m_numbers m_cost m_seed)) (hS : va_S A s.heap H locs) (ls : Array Slot) (hl : lv_has ls 9 [(0, .ref (ad 0)), (1, .int v1), (2, .int v2), (3, .int v3), (5, .int x11), (6, .int x12), (7, .int x13)]) (h : zl4 (zf_X2_bestKind_b43 v1 v2 v3 m_s m_refused) fu15 x11 x12 x13 x14 = some (r0, w_m_m, w_m_refused)), W p l e rm_X2_bestKind s m args below meth c H locs 0 0 (zb_Q below D (some (.int r0)) (zb_M cI ad m_s w_m_m m_image m_was m_hasImage m_letters m_row w_m_refused m_letterMany m_rowMany m_place m_numbers m_cost m_seed) A args s) (F0 m 43 ls []) := by
        intro fu15
        induction fu15 with
        | zero => intro x11 x12 x13 x14 H locs hP hD hS ls hl h; exact zb_no h
        | succ fu15 ih15 =>
          intro x11 x12 x13 x14 H locs hP hD hS ls hl h
          replace h : zf_X2_bestKind_b43 v1 v2 v3 m_s m_refused (zl4 (zf_X2_bestKind_b43 v1 v2 v3 m_s m_refused) fu15) x11 x12 x13 x14 = some (r0, w_m_m, w_m_refused) := h
          unfold zf_X2_bestKind_b43 at h
          refine lv_iload hx hb dX2_bestKind_43 (lv_at hl 6 rfl) ?_
          refine lv_bipush (v := (6 : Int32)) hx hb dX2_bestKind_45 (by decide) ?_
          refine lv_icmp_ge (tgt := 103) hx hb dX2_bestKind_47 (by decide) (fun c16 => ?_) (fun c16 => ?_)
          · replace h := it_t c16 h
            refine lv_iload hx hb dX2_bestKind_103 (lv_at hl 4 rfl) ?_
            obtain ⟨rfl, rfl, rfl⟩ := re3 h
            exact zb_iret hx hb hr hlk hP hS dX2_bestKind_105
          · replace h := it_f c16 h
            refine lv_aload_n hx hb dX2_bestKind_50 rfl (lv_at hl 0 rfl) ?_
            refine va_get (D := D) (ci := 2) (v := .ref (ad 1)) (C := RX2) (T := TX2) (N := 14) hx hb hts zi_X2_bestKind_X2 hown hK.1 hP 0 rfl rfl 0 (by decide) (hts _ zk_X2_bestKind_0) (fun _ h9 => h9) rfl dX2_bestKind_51 ?_
            refine lv_aload_n hx hb dX2_bestKind_54 rfl (lv_at hl 0 rfl) ?_
            refine va_get (D := D) (ci := 2) (v := .ref (ad 2)) (C := RX2) (T := TX2) (N := 14) hx hb hts zi_X2_bestKind_X2 hown hK.1 hP 0 rfl rfl 1 (by decide) (hts _ zk_X2_bestKind_1) (fun _ h9 => h9) rfl dX2_bestKind_55 ?_
            obtain ⟨n17, g18, h⟩ := bo1 h
            refine zb_callS (As := [.ref (ad 1), .ref (ad 2)]) (rest := []) ⟨hx, hb, hml, hown, hts⟩ (zc_X2_copies l D cI (ad 1) (ad 2) m_s x14 n17 g18) (va_cwS 2 hts gX2_bestKind_X2_copies rfl rfl rfl hd_X2_copies.2 ⟨Nat.le_of_ble_eq_true rfl, Nat.le_of_ble_eq_true rfl⟩) hK hP hD hS hA (zb_cM_s_m) rfl hl.1 rfl (Nat.le_of_ble_eq_true rfl) dX2_bestKind_58 ⟨Nat.le_refl _, Nat.le_refl _⟩ (fun H locs hP hD hS => ?_)
            refine lv_aload_n hx hb dX2_bestKind_61 rfl (lv_at hl 0 rfl) ?_
            refine va_get (D := D) (ci := 2) (v := .ref (ad 2)) (C := RX2) (T := TX2) (N := 14) hx hb hts zi_X2_bestKind_X2 hown hK.1 hP 0 rfl rfl 1 (by decide) (hts _ zk_X2_bestKind_1) (fun _ h9 => h9) rfl dX2_bestKind_62 ?_
            refine lv_iconst (v := (3 : Int32)) hx hb dX2_bestKind_65 (by decide) ?_
            refine lv_iload_n hx hb dX2_bestKind_66 rfl (lv_at hl 1 rfl) ?_
            refine lv_iadd hx hb dX2_bestKind_67 ?_
            refine lv_iload hx hb dX2_bestKind_68 (lv_at hl 6 rfl) ?_
            obtain ⟨h19, h⟩ := it_g h
            refine va_iast hx hb hK.1 hP hD hS 2 0 rfl rfl h19 dX2_bestKind_70 (fun H locs hP hD hS => ?_)
            have hP : va_P D zb_cl (zb_M cI ad m_s (upd n17 ((3 : Int32) + v1).toNatClampNeg x13) m_image m_was m_hasImage m_letters m_row m_refused m_letterMany m_rowMany m_place m_numbers m_cost m_seed) H := hP
            have hD : va_D A (zb_M cI ad m_s (upd n17 ((3 : Int32) + v1).toNatClampNeg x13) m_image m_was m_hasImage m_letters m_row m_refused m_letterMany m_rowMany m_place m_numbers m_cost m_seed) := hD
            refine lv_aload_n hx hb dX2_bestKind_71 rfl (lv_at hl 0 rfl) ?_
            refine lv_iload_n hx hb dX2_bestKind_72 rfl (lv_at hl 2 rfl) ?_
            refine lv_iload_n hx hb dX2_bestKind_73 rfl (lv_at hl 3 rfl) ?_
            obtain ⟨r20, n21, g22, h⟩ := bo2 h
            refine zb_callV (As := [.int v2, .int v3]) (rest := []) ⟨hx, hb, hml, hown, hts⟩ (zc_X2_visitsIn l D cI ad m_s (upd n17 ((3 : Int32) + v1).toNatClampNeg x13) m_image m_was m_hasImage m_letters m_row m_refused m_letterMany m_rowMany m_place m_numbers m_cost m_seed v2 v3 r20 n21 g22) (cwV 2 hts gX2_bestKind_X2_visitsIn rfl rfl rfl hd_X2_visitsIn ⟨Nat.le_of_ble_eq_true rfl, Nat.le_of_ble_eq_true rfl⟩) hK hP hD hS hA (zb_sM) (q0 := 0) rfl rfl rfl hl.1 rfl (Nat.le_of_ble_eq_true rfl) dX2_bestKind_74 ⟨Nat.le_refl _, Nat.le_refl _⟩ (fun H locs hP hD hS => ?_)
            refine lv_istore (lv' := [(8, .int r20), (0, .ref (ad 0)), (1, .int v1), (2, .int v2), (3, .int v3), (5, .int x11), (6, .int x12), (7, .int x13)]) hx hb dX2_bestKind_77 hl (by decide) rfl (fun ls hl => ?_)
            refine lv_iload hx hb dX2_bestKind_79 (lv_at hl 0 rfl) ?_
            refine lv_iload hx hb dX2_bestKind_81 (lv_at hl 6 rfl) ?_
            refine lv_icmp_gt (tgt := 89) hx hb dX2_bestKind_83 (by decide) (fun c23 => ?_) (fun c23 => ?_)
            · replace h := it_t c23 h
              refine lv_iload hx hb dX2_bestKind_89 (lv_at hl 7 rfl) ?_
              refine lv_istore (lv' := [(5, .int x13), (8, .int r20), (0, .ref (ad 0)), (1, .int v1), (2, .int v2), (3, .int v3), (6, .int x12), (7, .int x13)]) hx hb dX2_bestKind_91 hl (by decide) rfl (fun ls hl => ?_)
              refine lv_iload hx hb dX2_bestKind_93 (lv_at hl 1 rfl) ?_
              refine lv_istore (lv' := [(6, .int r20), (5, .int x13), (8, .int r20), (0, .ref (ad 0)), (1, .int v1), (2, .int v2), (3, .int v3), (7, .int x13)]) hx hb dX2_bestKind_95 hl (by decide) rfl (fun ls hl => ?_)
              refine lv_iinc (v := (x13 + (1 : Int32))) (lv' := [(7, .int (x13 + (1 : Int32))), (6, .int r20), (5, .int x13), (8, .int r20), (0, .ref (ad 0)), (1, .int v1), (2, .int v2), (3, .int v3)]) hx hb dX2_bestKind_97 hl (k := 7) rfl (by first | rfl | decide) (by decide) rfl (fun ls hl => ?_)
              refine lv_goto (tgt := 43) hx hb dX2_bestKind_100 (by decide) ?_
              exact ih15 x13 r20 (x13 + (1 : Int32)) n21 _ _ hP hD hS ls (lv_sub hl [4, 5, 6, 7, 2, 1, 0] rfl) h
            · replace h := it_f c23 h
              refine lv_goto (tgt := 97) hx hb dX2_bestKind_86 (by decide) ?_
              refine lv_iinc (v := (x13 + (1 : Int32))) (lv' := [(7, .int (x13 + (1 : Int32))), (8, .int r20), (0, .ref (ad 0)), (1, .int v1), (2, .int v2), (3, .int v3), (5, .int x11), (6, .int x12)]) hx hb dX2_bestKind_97 hl (k := 7) rfl (by first | rfl | decide) (by decide) rfl (fun ls hl => ?_)
              refine lv_goto (tgt := 43) hx hb dX2_bestKind_100 (by decide) ?_
              exact ih15 x11 x12 (x13 + (1 : Int32)) n21 _ _ hP hD hS ls (lv_sub hl [2, 3, 4, 5, 6, 7, 0] rfl) h
      exact lp15 zb_FU (0 : Int32) ((-1) : Int32) (0 : Int32) m_m _ _ hP hD hS ls (lv_sub hl [4, 5, 6, 7, 2, 1, 0] rfl) h
    · replace h := it_f c10 h
      refine lv_aload_n hx hb dX2_bestKind_27 rfl (lv_at hl 1 rfl) ?_
      refine lv_iload hx hb dX2_bestKind_28 (lv_at hl 0 rfl) ?_
      obtain ⟨r24, n25, g26, h⟩ := bo2 h
      refine zb_callV (As := [.int r8]) (rest := []) ⟨hx, hb, hml, hown, hts⟩ (zc_X2_no l D cI ad m_s m_m m_image m_was m_hasImage m_letters m_row m_refused m_letterMany m_rowMany m_place m_numbers m_cost m_seed r8 r24 n25 g26) (cwV 1 hts gX2_bestKind_X2_no rfl rfl rfl hd_X2_no ⟨Nat.le_of_ble_eq_true rfl, Nat.le_of_ble_eq_true rfl⟩) hK hP hD hS hA (zb_sM) (q0 := 0) rfl rfl rfl hl.1 rfl (Nat.le_of_ble_eq_true rfl) dX2_bestKind_30 ⟨Nat.le_refl _, Nat.le_refl _⟩ (fun H locs hP hD hS => ?_)
      obtain ⟨rfl, rfl, rfl⟩ := re3 h
      exact zb_iret hx hb hr hlk hP hS dX2_bestKind_33
abbrev rm_X2_dryOnes : Room := { frames := 1, cells := 0, slots := 0, locals := 21 }
theorem hd_X2_dryOnes : yX2_dryOnes.cls = RX2 ∧ yX2_dryOnes.cls ≠ "java/lang/invoke/MethodHandle" ∧ yX2_dryOnes.cls ≠ "java/lang/invoke/VarHandle" ∧ (parseMethodDescriptor yX2_dryOnes.desc).map (fun d => d.parameters.length) = some 0 := by decide +kernel
theorem zi_X2_dryOnes_X2 : ∀ w ∈ wsX20, w ∈ wsX2_dryOnes := fun _ h => List.mem_cons_of_mem _ (List.mem_append_right _ h)
theorem zk_X2_dryOnes_0 : Cond.fieldLink RX2 9 "GroutingIsFollowedModel" "s" "[I" ∈ wsX2_dryOnes := by decide +kernel
set_option maxHeartbeats 4000000 in
set_option maxRecDepth 100000 in
theorem zc_X2_dryOnes (l : Launch) (D : va_G) (cI : ClassId) (ad : Nat → Nat) (m_s : (Nat → Int32)) (m_m : (Nat → Int32)) (m_image : (Nat → Int32)) (m_was : (Nat → Int32)) (m_hasImage : Int32) (m_letters : (Nat → Int32)) (m_row : (Nat → Int32)) (m_refused : (Nat → Int32)) (m_letterMany : Int32) (m_rowMany : Int32) (m_place : Int32) (m_numbers : (Nat → Int32)) (m_cost : (Nat → Int32)) (m_seed : Int32) (r0 : Int32) (h : zf_X2_dryOnes m_s = some r0) : Cn l D cI yX2_dryOnes wsX2_dryOnes rm_X2_dryOnes [.ref (ad 0)] (zb_M cI ad m_s m_m m_image m_was m_hasImage m_letters m_row m_refused m_letterMany m_rowMany m_place m_numbers m_cost m_seed) (some (.int r0)) (zb_M cI ad m_s m_m m_image m_was m_hasImage m_letters m_row m_refused m_letterMany m_rowMany m_place m_numbers m_cost m_seed) := by
  refine zb_ofW (cc := cX2_dryOnes) (maxL := 3) (ret := (some .int)) (by decide) rfl (Nat.le_of_ble_eq_true rfl) ?_
  intro p e s m args below meth c A ls hx hb hr hml hts hown hlk hK hP hD hA hl
  have hS : va_S A s.heap s.heap [] := va_S.rf
  have hl : lv_has ls 3 [(0, .ref (ad 0))] := hl
  unfold zf_X2_dryOnes at h
  refine lv_iconst (v := (0 : Int32)) hx hb dX2_dryOnes_0 (by decide) ?_
  refine lv_istore_n (lv' := [(1, .int (0 : Int32)), (0, .ref (ad 0))]) hx hb dX2_dryOnes_1 rfl hl (by decide) rfl (fun ls hl => ?_)
  refine lv_iconst (v := (0 : Int32)) hx hb dX2_dryOnes_2 (by decide) ?_
  refine lv_istore_n (lv' := [(2, .int (0 : Int32)), (1, .int (0 : Int32)), (0, .ref (ad 0))]) hx hb dX2_dryOnes_3 rfl hl (by decide) rfl (fun ls hl => ?_)
  have lp3 : ∀ (fu3 : Nat) (x1 : Int32) (x2 : Int32) (H : Heap) (locs : List Loc) (hP : va_P D zb_cl (zb_M cI ad m_s m_m m_image m_was m_hasImage m_letters m_row m_refused m_letterMany m_rowMany m_place m_numbers m_cost m_seed) H) (hD : va_D A (zb_M cI ad m_s m_m m_image m_was m_hasImage m_letters m_row m_refused m_letterMany m_rowMany m_place m_numbers m_cost m_seed)) (hS : va_S A s.heap H locs) (ls : Array Slot) (hl : lv_has ls 3 [(0, .ref (ad 0)), (1, .int x1), (2, .int x2)]) (h : zl2 (zf_X2_dryOnes_b4 m_s) fu3 x1 x2 = some r0), W p l e rm_X2_dryOnes s m args below meth c H locs 0 0 (zb_Q below D (some (.int r0)) (zb_M cI ad m_s m_m m_image m_was m_hasImage m_letters m_row m_refused m_letterMany m_rowMany m_place m_numbers m_cost m_seed) A args s) (F0 m 4 ls []) := by
    intro fu3
    induction fu3 with
    | zero => intro x1 x2 H locs hP hD hS ls hl h; exact zb_no h
    | succ fu3 ih3 =>
      intro x1 x2 H locs hP hD hS ls hl h
      replace h : zf_X2_dryOnes_b4 m_s (zl2 (zf_X2_dryOnes_b4 m_s) fu3) x1 x2 = some r0 := h
      unfold zf_X2_dryOnes_b4 at h
      refine lv_iload_n hx hb dX2_dryOnes_4 rfl (lv_at hl 2 rfl) ?_
      refine lv_bipush (v := (30 : Int32)) hx hb dX2_dryOnes_5 (by decide) ?_
      refine lv_icmp_ge (tgt := 37) hx hb dX2_dryOnes_7 (by decide) (fun c4 => ?_) (fun c4 => ?_)
      · replace h := it_t c4 h
        refine lv_iload_n hx hb dX2_dryOnes_37 rfl (lv_at hl 1 rfl) ?_
        obtain rfl := re1 h
        exact zb_iret hx hb hr hlk hP hS dX2_dryOnes_38
      · replace h := it_f c4 h
        refine lv_iload_n hx hb dX2_dryOnes_10 rfl (lv_at hl 1 rfl) ?_
        refine lv_aload_n hx hb dX2_dryOnes_11 rfl (lv_at hl 0 rfl) ?_
        refine va_get (D := D) (ci := 2) (v := .ref (ad 1)) (C := RX2) (T := TX2) (N := 14) hx hb hts zi_X2_dryOnes_X2 hown hK.1 hP 0 rfl rfl 0 (by decide) (hts _ zk_X2_dryOnes_0) (fun _ h9 => h9) rfl dX2_dryOnes_12 ?_
        refine lv_iload_n hx hb dX2_dryOnes_15 rfl (lv_at hl 2 rfl) ?_
        obtain ⟨r5, g6, h⟩ := bo1 h
        refine zb_callS (As := [.ref (ad 1), .int x2]) (rest := [.int x1]) ⟨hx, hb, hml, hown, hts⟩ (zc_X2_isDry l D cI (ad 1) m_s x2 r5 g6) (va_cwS 2 hts gX2_dryOnes_X2_isDry rfl rfl rfl hd_X2_isDry.2 ⟨Nat.le_of_ble_eq_true rfl, Nat.le_of_ble_eq_true rfl⟩) hK hP hD hS hA (zb_cM_s) rfl hl.1 rfl (Nat.le_of_ble_eq_true rfl) dX2_dryOnes_16 ⟨Nat.le_refl _, Nat.le_refl _⟩ (fun H locs hP hD hS => ?_)
        refine lv_if_eq (tgt := 28) hx hb dX2_dryOnes_19 (by decide) (fun c7 => ?_) (fun c7 => ?_)
        · replace h := it_t c7 h
          refine lv_iconst (v := (0 : Int32)) hx hb dX2_dryOnes_28 (by decide) ?_
          refine lv_ior hx hb dX2_dryOnes_29 ?_
          refine lv_istore_n (lv' := [(1, .int (x1 ||| (0 : Int32))), (0, .ref (ad 0)), (2, .int x2)]) hx hb dX2_dryOnes_30 rfl hl (by decide) rfl (fun ls hl => ?_)
          refine lv_iinc (v := (x2 + (1 : Int32))) (lv' := [(2, .int (x2 + (1 : Int32))), (1, .int (x1 ||| (0 : Int32))), (0, .ref (ad 0))]) hx hb dX2_dryOnes_31 hl (k := 2) rfl (by first | rfl | decide) (by decide) rfl (fun ls hl => ?_)
          refine lv_goto (tgt := 4) hx hb dX2_dryOnes_34 (by decide) ?_
          exact ih3 (x1 ||| (0 : Int32)) (x2 + (1 : Int32)) _ _ hP hD hS ls (lv_sub hl [2, 1, 0] rfl) h
        · replace h := it_f c7 h
          refine lv_iconst (v := (1 : Int32)) hx hb dX2_dryOnes_22 (by decide) ?_
          refine lv_iload_n hx hb dX2_dryOnes_23 rfl (lv_at hl 2 rfl) ?_
          refine lv_ishl hx hb dX2_dryOnes_24 ?_
          refine lv_goto (tgt := 29) hx hb dX2_dryOnes_25 (by decide) ?_
          refine lv_ior hx hb dX2_dryOnes_29 ?_
          refine lv_istore_n (lv' := [(1, .int (x1 ||| ((1 : Int32) <<< (x2 &&& 31)))), (0, .ref (ad 0)), (2, .int x2)]) hx hb dX2_dryOnes_30 rfl hl (by decide) rfl (fun ls hl => ?_)
          refine lv_iinc (v := (x2 + (1 : Int32))) (lv' := [(2, .int (x2 + (1 : Int32))), (1, .int (x1 ||| ((1 : Int32) <<< (x2 &&& 31)))), (0, .ref (ad 0))]) hx hb dX2_dryOnes_31 hl (k := 2) rfl (by first | rfl | decide) (by decide) rfl (fun ls hl => ?_)
          refine lv_goto (tgt := 4) hx hb dX2_dryOnes_34 (by decide) ?_
          exact ih3 (x1 ||| ((1 : Int32) <<< (x2 &&& 31))) (x2 + (1 : Int32)) _ _ hP hD hS ls (lv_sub hl [2, 1, 0] rfl) h
  exact lp3 zb_FU (0 : Int32) (0 : Int32) _ _ hP hD hS ls (lv_sub hl [2, 1, 0] rfl) h
abbrev rm_X2_together : Room := { frames := 1, cells := 0, slots := 0, locals := 21 }
theorem hd_X2_together : yX2_together.cls = RX2 ∧ yX2_together.cls ≠ "java/lang/invoke/MethodHandle" ∧ yX2_together.cls ≠ "java/lang/invoke/VarHandle" ∧ (parseMethodDescriptor yX2_together.desc).map (fun d => d.parameters.length) = some 0 := by decide +kernel
theorem zi_X2_together_X2 : ∀ w ∈ wsX20, w ∈ wsX2_together := fun _ h => List.mem_cons_of_mem _ (List.mem_append_right _ h)
theorem zk_X2_together_0 : Cond.fieldLink RX2 9 "GroutingIsFollowedModel" "s" "[I" ∈ wsX2_together := by decide +kernel
set_option maxHeartbeats 4000000 in
set_option maxRecDepth 100000 in
theorem zc_X2_together (l : Launch) (D : va_G) (cI : ClassId) (ad : Nat → Nat) (m_s : (Nat → Int32)) (m_m : (Nat → Int32)) (m_image : (Nat → Int32)) (m_was : (Nat → Int32)) (m_hasImage : Int32) (m_letters : (Nat → Int32)) (m_row : (Nat → Int32)) (m_refused : (Nat → Int32)) (m_letterMany : Int32) (m_rowMany : Int32) (m_place : Int32) (m_numbers : (Nat → Int32)) (m_cost : (Nat → Int32)) (m_seed : Int32) (r0 : Int32) (h : zf_X2_together m_s = some r0) : Cn l D cI yX2_together wsX2_together rm_X2_together [.ref (ad 0)] (zb_M cI ad m_s m_m m_image m_was m_hasImage m_letters m_row m_refused m_letterMany m_rowMany m_place m_numbers m_cost m_seed) (some (.int r0)) (zb_M cI ad m_s m_m m_image m_was m_hasImage m_letters m_row m_refused m_letterMany m_rowMany m_place m_numbers m_cost m_seed) := by
  refine zb_ofW (cc := cX2_together) (maxL := 5) (ret := (some .int)) (by decide) rfl (Nat.le_of_ble_eq_true rfl) ?_
  intro p e s m args below meth c A ls hx hb hr hml hts hown hlk hK hP hD hA hl
  have hS : va_S A s.heap s.heap [] := va_S.rf
  have hl : lv_has ls 5 [(0, .ref (ad 0))] := hl
  unfold zf_X2_together at h
  refine lv_iconst (v := (0 : Int32)) hx hb dX2_together_0 (by decide) ?_
  refine lv_istore_n (lv' := [(1, .int (0 : Int32)), (0, .ref (ad 0))]) hx hb dX2_together_1 rfl hl (by decide) rfl (fun ls hl => ?_)
  refine lv_iconst (v := (0 : Int32)) hx hb dX2_together_2 (by decide) ?_
  refine lv_istore_n (lv' := [(2, .int (0 : Int32)), (1, .int (0 : Int32)), (0, .ref (ad 0))]) hx hb dX2_together_3 rfl hl (by decide) rfl (fun ls hl => ?_)
  refine lv_iconst (v := (0 : Int32)) hx hb dX2_together_4 (by decide) ?_
  refine lv_istore_n (lv' := [(3, .int (0 : Int32)), (2, .int (0 : Int32)), (1, .int (0 : Int32)), (0, .ref (ad 0))]) hx hb dX2_together_5 rfl hl (by decide) rfl (fun ls hl => ?_)
  have lp4 : ∀ (fu4 : Nat) (x1 : Int32) (x2 : Int32) (x3 : Int32) (H : Heap) (locs : List Loc) (hP : va_P D zb_cl (zb_M cI ad m_s m_m m_image m_was m_hasImage m_letters m_row m_refused m_letterMany m_rowMany m_place m_numbers m_cost m_seed) H) (hD : va_D A (zb_M cI ad m_s m_m m_image m_was m_hasImage m_letters m_row m_refused m_letterMany m_rowMany m_place m_numbers m_cost m_seed)) (hS : va_S A s.heap H locs) (ls : Array Slot) (hl : lv_has ls 5 [(0, .ref (ad 0)), (1, .int x1), (2, .int x2), (3, .int x3)]) (h : zl3 (zf_X2_together_b6 m_s) fu4 x1 x2 x3 = some r0), W p l e rm_X2_together s m args below meth c H locs 0 0 (zb_Q below D (some (.int r0)) (zb_M cI ad m_s m_m m_image m_was m_hasImage m_letters m_row m_refused m_letterMany m_rowMany m_place m_numbers m_cost m_seed) A args s) (F0 m 6 ls []) := by
    intro fu4
    induction fu4 with
    | zero => intro x1 x2 x3 H locs hP hD hS ls hl h; exact zb_no h
    | succ fu4 ih4 =>
      intro x1 x2 x3 H locs hP hD hS ls hl h
      replace h : zf_X2_together_b6 m_s (zl3 (zf_X2_together_b6 m_s) fu4) x1 x2 x3 = some r0 := h
      unfold zf_X2_together_b6 at h
      refine lv_iload_n hx hb dX2_together_6 rfl (lv_at hl 3 rfl) ?_
      refine lv_aload_n hx hb dX2_together_7 rfl (lv_at hl 0 rfl) ?_
      refine va_get (D := D) (ci := 2) (v := .ref (ad 1)) (C := RX2) (T := TX2) (N := 14) hx hb hts zi_X2_together_X2 hown hK.1 hP 0 rfl rfl 0 (by decide) (hts _ zk_X2_together_0) (fun _ h9 => h9) rfl dX2_together_8 ?_
      refine lv_iconst (v := (0 : Int32)) hx hb dX2_together_11 (by decide) ?_
      refine va_iald hx hb hK.1 hP 1 0 rfl rfl (vl_in (by decide)) dX2_together_12 ?_
      refine lv_icmp_ge (tgt := 48) hx hb dX2_together_13 (by decide) (fun c5 => ?_) (fun c5 => ?_)
      · replace h := it_t c5 h
        refine lv_iload_n hx hb dX2_together_48 rfl (lv_at hl 2 rfl) ?_
        obtain rfl := re1 h
        exact zb_iret hx hb hr hlk hP hS dX2_together_49
      · replace h := it_f c5 h
        refine lv_iconst (v := (1 : Int32)) hx hb dX2_together_16 (by decide) ?_
        refine lv_aload_n hx hb dX2_together_17 rfl (lv_at hl 0 rfl) ?_
        refine va_get (D := D) (ci := 2) (v := .ref (ad 1)) (C := RX2) (T := TX2) (N := 14) hx hb hts zi_X2_together_X2 hown hK.1 hP 0 rfl rfl 0 (by decide) (hts _ zk_X2_together_0) (fun _ h9 => h9) rfl dX2_together_18 ?_
        refine lv_iload_n hx hb dX2_together_21 rfl (lv_at hl 3 rfl) ?_
        refine lv_iconst (v := (0 : Int32)) hx hb dX2_together_22 (by decide) ?_
        obtain ⟨r6, g7, h⟩ := bo1 h
        refine zb_callS (As := [.int x3, .int (0 : Int32)]) (rest := [.ref (ad 1), .int (1 : Int32)]) ⟨hx, hb, hml, hown, hts⟩ (zc_X2_of l D cI x3 (0 : Int32) r6 g7) (va_cwS 2 hts gX2_together_X2_of rfl rfl rfl hd_X2_of.2 ⟨Nat.le_of_ble_eq_true rfl, Nat.le_of_ble_eq_true rfl⟩) hK hP hD hS hA (zb_none _) rfl hl.1 rfl (Nat.le_of_ble_eq_true rfl) dX2_together_23 ⟨Nat.le_refl _, Nat.le_refl _⟩ (fun H locs hP hD hS => ?_)
        obtain ⟨h8, h⟩ := it_g h
        refine va_iald hx hb hK.1 hP 1 0 rfl rfl h8 dX2_together_26 ?_
        refine lv_ishl hx hb dX2_together_27 ?_
        refine lv_istore (lv' := [(4, .int ((1 : Int32) <<< ((m_s r6.toNatClampNeg) &&& 31))), (0, .ref (ad 0)), (1, .int x1), (2, .int x2), (3, .int x3)]) hx hb dX2_together_28 hl (by decide) rfl (fun ls hl => ?_)
        refine lv_iload_n hx hb dX2_together_30 rfl (lv_at hl 3 rfl) ?_
        refine lv_iload_n hx hb dX2_together_31 rfl (lv_at hl 2 rfl) ?_
        refine lv_iload hx hb dX2_together_32 (lv_at hl 0 rfl) ?_
        refine lv_iand hx hb dX2_together_34 ?_
        refine lv_ior hx hb dX2_together_35 ?_
        refine lv_istore_n (lv' := [(2, .int (x2 ||| (x1 &&& ((1 : Int32) <<< ((m_s r6.toNatClampNeg) &&& 31))))), (4, .int ((1 : Int32) <<< ((m_s r6.toNatClampNeg) &&& 31))), (0, .ref (ad 0)), (1, .int x1), (3, .int x3)]) hx hb dX2_together_36 rfl hl (by decide) rfl (fun ls hl => ?_)
        refine lv_iload_n hx hb dX2_together_37 rfl (lv_at hl 3 rfl) ?_
        refine lv_iload hx hb dX2_together_38 (lv_at hl 1 rfl) ?_
        refine lv_ior hx hb dX2_together_40 ?_
        refine lv_istore_n (lv' := [(1, .int (x1 ||| ((1 : Int32) <<< ((m_s r6.toNatClampNeg) &&& 31)))), (2, .int (x2 ||| (x1 &&& ((1 : Int32) <<< ((m_s r6.toNatClampNeg) &&& 31))))), (4, .int ((1 : Int32) <<< ((m_s r6.toNatClampNeg) &&& 31))), (0, .ref (ad 0)), (3, .int x3)]) hx hb dX2_together_41 rfl hl (by decide) rfl (fun ls hl => ?_)
        refine lv_iinc (v := (x3 + (1 : Int32))) (lv' := [(3, .int (x3 + (1 : Int32))), (1, .int (x1 ||| ((1 : Int32) <<< ((m_s r6.toNatClampNeg) &&& 31)))), (2, .int (x2 ||| (x1 &&& ((1 : Int32) <<< ((m_s r6.toNatClampNeg) &&& 31))))), (4, .int ((1 : Int32) <<< ((m_s r6.toNatClampNeg) &&& 31))), (0, .ref (ad 0))]) hx hb dX2_together_42 hl (k := 4) rfl (by first | rfl | decide) (by decide) rfl (fun ls hl => ?_)
        refine lv_goto (tgt := 6) hx hb dX2_together_45 (by decide) ?_
        exact ih4 (x1 ||| ((1 : Int32) <<< ((m_s r6.toNatClampNeg) &&& 31))) (x2 ||| (x1 &&& ((1 : Int32) <<< ((m_s r6.toNatClampNeg) &&& 31)))) (x3 + (1 : Int32)) _ _ hP hD hS ls (lv_sub hl [4, 1, 2, 0] rfl) h
  exact lp4 zb_FU (0 : Int32) (0 : Int32) (0 : Int32) _ _ hP hD hS ls (lv_sub hl [3, 2, 1, 0] rfl) h
abbrev rm_X2_atEdges : Room := { frames := 1, cells := 0, slots := 0, locals := 21 }
theorem hd_X2_atEdges : yX2_atEdges.cls = RX2 ∧ yX2_atEdges.cls ≠ "java/lang/invoke/MethodHandle" ∧ yX2_atEdges.cls ≠ "java/lang/invoke/VarHandle" ∧ (parseMethodDescriptor yX2_atEdges.desc).map (fun d => d.parameters.length) = some 0 := by decide +kernel
theorem zi_X2_atEdges_X2 : ∀ w ∈ wsX20, w ∈ wsX2_atEdges := fun _ h => List.mem_cons_of_mem _ (List.mem_append_right _ h)
theorem zk_X2_atEdges_0 : Cond.fieldLink RX2 9 "GroutingIsFollowedModel" "s" "[I" ∈ wsX2_atEdges := by decide +kernel
set_option maxHeartbeats 4000000 in
set_option maxRecDepth 100000 in
theorem zc_X2_atEdges (l : Launch) (D : va_G) (cI : ClassId) (ad : Nat → Nat) (m_s : (Nat → Int32)) (m_m : (Nat → Int32)) (m_image : (Nat → Int32)) (m_was : (Nat → Int32)) (m_hasImage : Int32) (m_letters : (Nat → Int32)) (m_row : (Nat → Int32)) (m_refused : (Nat → Int32)) (m_letterMany : Int32) (m_rowMany : Int32) (m_place : Int32) (m_numbers : (Nat → Int32)) (m_cost : (Nat → Int32)) (m_seed : Int32) (r0 : Int32) (h : zf_X2_atEdges m_s = some r0) : Cn l D cI yX2_atEdges wsX2_atEdges rm_X2_atEdges [.ref (ad 0)] (zb_M cI ad m_s m_m m_image m_was m_hasImage m_letters m_row m_refused m_letterMany m_rowMany m_place m_numbers m_cost m_seed) (some (.int r0)) (zb_M cI ad m_s m_m m_image m_was m_hasImage m_letters m_row m_refused m_letterMany m_rowMany m_place m_numbers m_cost m_seed) := by
  refine zb_ofW (cc := cX2_atEdges) (maxL := 6) (ret := (some .int)) (by decide) rfl (Nat.le_of_ble_eq_true rfl) ?_
  intro p e s m args below meth c A ls hx hb hr hml hts hown hlk hK hP hD hA hl
  have hS : va_S A s.heap s.heap [] := va_S.rf
  have hl : lv_has ls 6 [(0, .ref (ad 0))] := hl
  unfold zf_X2_atEdges at h
  refine lv_iconst (v := (0 : Int32)) hx hb dX2_atEdges_0 (by decide) ?_
  refine lv_istore_n (lv' := [(1, .int (0 : Int32)), (0, .ref (ad 0))]) hx hb dX2_atEdges_1 rfl hl (by decide) rfl (fun ls hl => ?_)
  refine lv_iconst (v := (0 : Int32)) hx hb dX2_atEdges_2 (by decide) ?_
  refine lv_istore_n (lv' := [(2, .int (0 : Int32)), (1, .int (0 : Int32)), (0, .ref (ad 0))]) hx hb dX2_atEdges_3 rfl hl (by decide) rfl (fun ls hl => ?_)
  have lp3 : ∀ (fu3 : Nat) (x1 : Int32) (x2 : Int32) (H : Heap) (locs : List Loc) (hP : va_P D zb_cl (zb_M cI ad m_s m_m m_image m_was m_hasImage m_letters m_row m_refused m_letterMany m_rowMany m_place m_numbers m_cost m_seed) H) (hD : va_D A (zb_M cI ad m_s m_m m_image m_was m_hasImage m_letters m_row m_refused m_letterMany m_rowMany m_place m_numbers m_cost m_seed)) (hS : va_S A s.heap H locs) (ls : Array Slot) (hl : lv_has ls 6 [(0, .ref (ad 0)), (1, .int x1), (2, .int x2)]) (h : zl2 (zf_X2_atEdges_b4 m_s) fu3 x1 x2 = some r0), W p l e rm_X2_atEdges s m args below meth c H locs 0 0 (zb_Q below D (some (.int r0)) (zb_M cI ad m_s m_m m_image m_was m_hasImage m_letters m_row m_refused m_letterMany m_rowMany m_place m_numbers m_cost m_seed) A args s) (F0 m 4 ls []) := by
    intro fu3
    induction fu3 with
    | zero => intro x1 x2 H locs hP hD hS ls hl h; exact zb_no h
    | succ fu3 ih3 =>
      intro x1 x2 H locs hP hD hS ls hl h
      replace h : zf_X2_atEdges_b4 m_s (zl2 (zf_X2_atEdges_b4 m_s) fu3) x1 x2 = some r0 := h
      unfold zf_X2_atEdges_b4 at h
      have j62 : ∀ (x4 : Int32) (x5 : Int32) (x6 : Int32) (H : Heap) (locs : List Loc) (hP : va_P D zb_cl (zb_M cI ad m_s m_m m_image m_was m_hasImage m_letters m_row m_refused m_letterMany m_rowMany m_place m_numbers m_cost m_seed) H) (hD : va_D A (zb_M cI ad m_s m_m m_image m_was m_hasImage m_letters m_row m_refused m_letterMany m_rowMany m_place m_numbers m_cost m_seed)) (hS : va_S A s.heap H locs) (ls : Array Slot) (hl : lv_has ls 6 [(0, .ref (ad 0)), (1, .int x4), (2, .int x5), (4, .int x6)]) (h : zf_X2_atEdges_j62 (zl2 (zf_X2_atEdges_b4 m_s) fu3) x4 x5 x6 = some r0), W p l e rm_X2_atEdges s m args below meth c H locs 0 0 (zb_Q below D (some (.int r0)) (zb_M cI ad m_s m_m m_image m_was m_hasImage m_letters m_row m_refused m_letterMany m_rowMany m_place m_numbers m_cost m_seed) A args s) (F0 m 62 ls []) := by
        intro x4 x5 x6 H locs hP hD hS ls hl h
        unfold zf_X2_atEdges_j62 at h
        refine lv_iload_n hx hb dX2_atEdges_62 rfl (lv_at hl 1 rfl) ?_
        refine lv_iload hx hb dX2_atEdges_63 (lv_at hl 3 rfl) ?_
        refine lv_if_eq (tgt := 72) hx hb dX2_atEdges_65 (by decide) (fun c7 => ?_) (fun c7 => ?_)
        · replace h := it_t c7 h
          refine lv_iconst (v := (0 : Int32)) hx hb dX2_atEdges_72 (by decide) ?_
          refine lv_iadd hx hb dX2_atEdges_73 ?_
          refine lv_istore_n (lv' := [(1, .int (x4 + (0 : Int32))), (0, .ref (ad 0)), (2, .int x5), (4, .int x6)]) hx hb dX2_atEdges_74 rfl hl (by decide) rfl (fun ls hl => ?_)
          refine lv_iinc (v := (x5 + (1 : Int32))) (lv' := [(2, .int (x5 + (1 : Int32))), (1, .int (x4 + (0 : Int32))), (0, .ref (ad 0)), (4, .int x6)]) hx hb dX2_atEdges_75 hl (k := 2) rfl (by first | rfl | decide) (by decide) rfl (fun ls hl => ?_)
          refine lv_goto (tgt := 4) hx hb dX2_atEdges_78 (by decide) ?_
          exact ih3 (x4 + (0 : Int32)) (x5 + (1 : Int32)) _ _ hP hD hS ls (lv_sub hl [2, 1, 0] rfl) h
        · replace h := it_f c7 h
          refine lv_iconst (v := (1 : Int32)) hx hb dX2_atEdges_68 (by decide) ?_
          refine lv_goto (tgt := 73) hx hb dX2_atEdges_69 (by decide) ?_
          refine lv_iadd hx hb dX2_atEdges_73 ?_
          refine lv_istore_n (lv' := [(1, .int (x4 + (1 : Int32))), (0, .ref (ad 0)), (2, .int x5), (4, .int x6)]) hx hb dX2_atEdges_74 rfl hl (by decide) rfl (fun ls hl => ?_)
          refine lv_iinc (v := (x5 + (1 : Int32))) (lv' := [(2, .int (x5 + (1 : Int32))), (1, .int (x4 + (1 : Int32))), (0, .ref (ad 0)), (4, .int x6)]) hx hb dX2_atEdges_75 hl (k := 2) rfl (by first | rfl | decide) (by decide) rfl (fun ls hl => ?_)
          refine lv_goto (tgt := 4) hx hb dX2_atEdges_78 (by decide) ?_
          exact ih3 (x4 + (1 : Int32)) (x5 + (1 : Int32)) _ _ hP hD hS ls (lv_sub hl [2, 1, 0] rfl) h
      refine lv_iload_n hx hb dX2_atEdges_4 rfl (lv_at hl 2 rfl) ?_
      refine lv_aload_n hx hb dX2_atEdges_5 rfl (lv_at hl 0 rfl) ?_
      refine va_get (D := D) (ci := 2) (v := .ref (ad 1)) (C := RX2) (T := TX2) (N := 14) hx hb hts zi_X2_atEdges_X2 hown hK.1 hP 0 rfl rfl 0 (by decide) (hts _ zk_X2_atEdges_0) (fun _ h9 => h9) rfl dX2_atEdges_6 ?_
      refine lv_iconst (v := (0 : Int32)) hx hb dX2_atEdges_9 (by decide) ?_
      refine va_iald hx hb hK.1 hP 1 0 rfl rfl (vl_in (by decide)) dX2_atEdges_10 ?_
      refine lv_icmp_ge (tgt := 81) hx hb dX2_atEdges_11 (by decide) (fun c8 => ?_) (fun c8 => ?_)
      · replace h := it_t c8 h
        refine lv_iload_n hx hb dX2_atEdges_81 rfl (lv_at hl 1 rfl) ?_
        obtain rfl := re1 h
        exact zb_iret hx hb hr hlk hP hS dX2_atEdges_82
      · replace h := it_f c8 h
        refine lv_aload_n hx hb dX2_atEdges_14 rfl (lv_at hl 0 rfl) ?_
        refine va_get (D := D) (ci := 2) (v := .ref (ad 1)) (C := RX2) (T := TX2) (N := 14) hx hb hts zi_X2_atEdges_X2 hown hK.1 hP 0 rfl rfl 0 (by decide) (hts _ zk_X2_atEdges_0) (fun _ h9 => h9) rfl dX2_atEdges_15 ?_
        refine lv_iload_n hx hb dX2_atEdges_18 rfl (lv_at hl 2 rfl) ?_
        refine lv_iconst (v := (0 : Int32)) hx hb dX2_atEdges_19 (by decide) ?_
        obtain ⟨r9, g10, h⟩ := bo1 h
        refine zb_callS (As := [.int x2, .int (0 : Int32)]) (rest := [.ref (ad 1)]) ⟨hx, hb, hml, hown, hts⟩ (zc_X2_of l D cI x2 (0 : Int32) r9 g10) (va_cwS 2 hts gX2_atEdges_X2_of rfl rfl rfl hd_X2_of.2 ⟨Nat.le_of_ble_eq_true rfl, Nat.le_of_ble_eq_true rfl⟩) hK hP hD hS hA (zb_none _) rfl hl.1 rfl (Nat.le_of_ble_eq_true rfl) dX2_atEdges_20 ⟨Nat.le_refl _, Nat.le_refl _⟩ (fun H locs hP hD hS => ?_)
        obtain ⟨h11, h⟩ := it_g h
        refine va_iald hx hb hK.1 hP 1 0 rfl rfl h11 dX2_atEdges_23 ?_
        refine lv_istore_n (lv' := [(3, .int (m_s r9.toNatClampNeg)), (0, .ref (ad 0)), (1, .int x1), (2, .int x2)]) hx hb dX2_atEdges_24 rfl hl (by decide) rfl (fun ls hl => ?_)
        refine lv_iconst (v := (0 : Int32)) hx hb dX2_atEdges_25 (by decide) ?_
        refine lv_istore (lv' := [(4, .int (0 : Int32)), (3, .int (m_s r9.toNatClampNeg)), (0, .ref (ad 0)), (1, .int x1), (2, .int x2)]) hx hb dX2_atEdges_26 hl (by decide) rfl (fun ls hl => ?_)
        refine lv_iconst (v := (0 : Int32)) hx hb dX2_atEdges_28 (by decide) ?_
        refine lv_istore (lv' := [(5, .int (0 : Int32)), (4, .int (0 : Int32)), (3, .int (m_s r9.toNatClampNeg)), (0, .ref (ad 0)), (1, .int x1), (2, .int x2)]) hx hb dX2_atEdges_29 hl (by decide) rfl (fun ls hl => ?_)
        have lp14 : ∀ (fu14 : Nat) (x12 : Int32) (x13 : Int32) (H : Heap) (locs : List Loc) (hP : va_P D zb_cl (zb_M cI ad m_s m_m m_image m_was m_hasImage m_letters m_row m_refused m_letterMany m_rowMany m_place m_numbers m_cost m_seed) H) (hD : va_D A (zb_M cI ad m_s m_m m_image m_was m_hasImage m_letters m_row m_refused m_letterMany m_rowMany m_place m_numbers m_cost m_seed)) (hS : va_S A s.heap H locs) (ls : Array Slot) (hl : lv_has ls 6 [(0, .ref (ad 0)), (1, .int x1), (2, .int x2), (3, .int (m_s r9.toNatClampNeg)), (4, .int x12), (5, .int x13)]) (h : zl2 (zf_X2_atEdges_b31 (zl2 (zf_X2_atEdges_b4 m_s) fu3) x1 x2 (m_s r9.toNatClampNeg)) fu14 x12 x13 = some r0), W p l e rm_X2_atEdges s m args below meth c H locs 0 0 (zb_Q below D (some (.int r0)) (zb_M cI ad m_s m_m m_image m_was m_hasImage m_letters m_row m_refused m_letterMany m_rowMany m_place m_numbers m_cost m_seed) A args s) (F0 m 31 ls []) := by
          intro fu14
          induction fu14 with
          | zero => intro x12 x13 H locs hP hD hS ls hl h; exact zb_no h
          | succ fu14 ih14 =>
            intro x12 x13 H locs hP hD hS ls hl h
            replace h : zf_X2_atEdges_b31 (zl2 (zf_X2_atEdges_b4 m_s) fu3) x1 x2 (m_s r9.toNatClampNeg) (zl2 (zf_X2_atEdges_b31 (zl2 (zf_X2_atEdges_b4 m_s) fu3) x1 x2 (m_s r9.toNatClampNeg)) fu14) x12 x13 = some r0 := h
            unfold zf_X2_atEdges_b31 at h
            refine lv_iload hx hb dX2_atEdges_31 (lv_at hl 5 rfl) ?_
            refine lv_iconst (v := (4 : Int32)) hx hb dX2_atEdges_33 (by decide) ?_
            refine lv_icmp_ge (tgt := 62) hx hb dX2_atEdges_34 (by decide) (fun c15 => ?_) (fun c15 => ?_)
            · replace h := it_t c15 h
              exact j62 x1 x2 x12 _ _ hP hD hS ls (lv_sub hl [0, 1, 2, 4] rfl) h
            · replace h := it_f c15 h
              refine lv_iload hx hb dX2_atEdges_37 (lv_at hl 4 rfl) ?_
              refine lv_iload_n hx hb dX2_atEdges_39 rfl (lv_at hl 3 rfl) ?_
              refine lv_iload hx hb dX2_atEdges_40 (lv_at hl 5 rfl) ?_
              obtain ⟨r16, g17, h⟩ := bo1 h
              refine zb_callS (As := [.int (m_s r9.toNatClampNeg), .int x13]) (rest := [.int x12]) ⟨hx, hb, hml, hown, hts⟩ (zc_X2_nodeThere l D cI (m_s r9.toNatClampNeg) x13 r16 g17) (va_cwS 2 hts gX2_atEdges_X2_nodeThere rfl rfl rfl hd_X2_nodeThere.2 ⟨Nat.le_of_ble_eq_true rfl, Nat.le_of_ble_eq_true rfl⟩) hK hP hD hS hA (zb_none _) rfl hl.1 rfl (Nat.le_of_ble_eq_true rfl) dX2_atEdges_42 ⟨Nat.le_refl _, Nat.le_refl _⟩ (fun H locs hP hD hS => ?_)
              refine lv_if_ge (tgt := 52) hx hb dX2_atEdges_45 (by decide) (fun c18 => ?_) (fun c18 => ?_)
              · replace h := it_t c18 h
                refine lv_iconst (v := (0 : Int32)) hx hb dX2_atEdges_52 (by decide) ?_
                refine lv_ior hx hb dX2_atEdges_53 ?_
                refine lv_istore (lv' := [(4, .int (x12 ||| (0 : Int32))), (0, .ref (ad 0)), (1, .int x1), (2, .int x2), (3, .int (m_s r9.toNatClampNeg)), (5, .int x13)]) hx hb dX2_atEdges_54 hl (by decide) rfl (fun ls hl => ?_)
                refine lv_iinc (v := (x13 + (1 : Int32))) (lv' := [(5, .int (x13 + (1 : Int32))), (4, .int (x12 ||| (0 : Int32))), (0, .ref (ad 0)), (1, .int x1), (2, .int x2), (3, .int (m_s r9.toNatClampNeg))]) hx hb dX2_atEdges_56 hl (k := 5) rfl (by first | rfl | decide) (by decide) rfl (fun ls hl => ?_)
                refine lv_goto (tgt := 31) hx hb dX2_atEdges_59 (by decide) ?_
                exact ih14 (x12 ||| (0 : Int32)) (x13 + (1 : Int32)) _ _ hP hD hS ls (lv_sub hl [2, 3, 4, 5, 1, 0] rfl) h
              · replace h := it_f c18 h
                refine lv_iconst (v := (1 : Int32)) hx hb dX2_atEdges_48 (by decide) ?_
                refine lv_goto (tgt := 53) hx hb dX2_atEdges_49 (by decide) ?_
                refine lv_ior hx hb dX2_atEdges_53 ?_
                refine lv_istore (lv' := [(4, .int (x12 ||| (1 : Int32))), (0, .ref (ad 0)), (1, .int x1), (2, .int x2), (3, .int (m_s r9.toNatClampNeg)), (5, .int x13)]) hx hb dX2_atEdges_54 hl (by decide) rfl (fun ls hl => ?_)
                refine lv_iinc (v := (x13 + (1 : Int32))) (lv' := [(5, .int (x13 + (1 : Int32))), (4, .int (x12 ||| (1 : Int32))), (0, .ref (ad 0)), (1, .int x1), (2, .int x2), (3, .int (m_s r9.toNatClampNeg))]) hx hb dX2_atEdges_56 hl (k := 5) rfl (by first | rfl | decide) (by decide) rfl (fun ls hl => ?_)
                refine lv_goto (tgt := 31) hx hb dX2_atEdges_59 (by decide) ?_
                exact ih14 (x12 ||| (1 : Int32)) (x13 + (1 : Int32)) _ _ hP hD hS ls (lv_sub hl [2, 3, 4, 5, 1, 0] rfl) h
        exact lp14 zb_FU (0 : Int32) (0 : Int32) _ _ hP hD hS ls (lv_sub hl [3, 4, 5, 2, 1, 0] rfl) h
  exact lp3 zb_FU (0 : Int32) (0 : Int32) _ _ hP hD hS ls (lv_sub hl [2, 1, 0] rfl) h
abbrev rm_X2_wettest : Room := { frames := 0, cells := 0, slots := 0, locals := 0 }
theorem hd_X2_wettest : yX2_wettest.cls = RX2 ∧ yX2_wettest.cls ≠ "java/lang/invoke/MethodHandle" ∧ yX2_wettest.cls ≠ "java/lang/invoke/VarHandle" ∧ (parseMethodDescriptor yX2_wettest.desc).map (fun d => d.parameters.length) = some 0 := by decide +kernel
theorem zi_X2_wettest_X2 : ∀ w ∈ wsX20, w ∈ wsX2_wettest := fun _ h => List.mem_cons_of_mem _ (List.mem_append_right _ h)
theorem zk_X2_wettest_0 : Cond.fieldLink RX2 9 "GroutingIsFollowedModel" "s" "[I" ∈ wsX2_wettest := by decide +kernel
set_option maxHeartbeats 4000000 in
set_option maxRecDepth 100000 in
theorem zc_X2_wettest (l : Launch) (D : va_G) (cI : ClassId) (ad : Nat → Nat) (m_s : (Nat → Int32)) (m_m : (Nat → Int32)) (m_image : (Nat → Int32)) (m_was : (Nat → Int32)) (m_hasImage : Int32) (m_letters : (Nat → Int32)) (m_row : (Nat → Int32)) (m_refused : (Nat → Int32)) (m_letterMany : Int32) (m_rowMany : Int32) (m_place : Int32) (m_numbers : (Nat → Int32)) (m_cost : (Nat → Int32)) (m_seed : Int32) (r0 : Int32) (h : zf_X2_wettest m_s = some r0) : Cn l D cI yX2_wettest wsX2_wettest rm_X2_wettest [.ref (ad 0)] (zb_M cI ad m_s m_m m_image m_was m_hasImage m_letters m_row m_refused m_letterMany m_rowMany m_place m_numbers m_cost m_seed) (some (.int r0)) (zb_M cI ad m_s m_m m_image m_was m_hasImage m_letters m_row m_refused m_letterMany m_rowMany m_place m_numbers m_cost m_seed) := by
  refine zb_ofW (cc := cX2_wettest) (maxL := 3) (ret := (some .int)) (by decide) rfl (Nat.le_of_ble_eq_true rfl) ?_
  intro p e s m args below meth c A ls hx hb hr hml hts hown hlk hK hP hD hA hl
  have hS : va_S A s.heap s.heap [] := va_S.rf
  have hl : lv_has ls 3 [(0, .ref (ad 0))] := hl
  unfold zf_X2_wettest at h
  refine lv_iconst (v := (0 : Int32)) hx hb dX2_wettest_0 (by decide) ?_
  refine lv_istore_n (lv' := [(1, .int (0 : Int32)), (0, .ref (ad 0))]) hx hb dX2_wettest_1 rfl hl (by decide) rfl (fun ls hl => ?_)
  refine lv_iconst (v := (0 : Int32)) hx hb dX2_wettest_2 (by decide) ?_
  refine lv_istore_n (lv' := [(2, .int (0 : Int32)), (1, .int (0 : Int32)), (0, .ref (ad 0))]) hx hb dX2_wettest_3 rfl hl (by decide) rfl (fun ls hl => ?_)
  have lp3 : ∀ (fu3 : Nat) (x1 : Int32) (x2 : Int32) (H : Heap) (locs : List Loc) (hP : va_P D zb_cl (zb_M cI ad m_s m_m m_image m_was m_hasImage m_letters m_row m_refused m_letterMany m_rowMany m_place m_numbers m_cost m_seed) H) (hD : va_D A (zb_M cI ad m_s m_m m_image m_was m_hasImage m_letters m_row m_refused m_letterMany m_rowMany m_place m_numbers m_cost m_seed)) (hS : va_S A s.heap H locs) (ls : Array Slot) (hl : lv_has ls 3 [(0, .ref (ad 0)), (1, .int x1), (2, .int x2)]) (h : zl2 (zf_X2_wettest_b4 m_s) fu3 x1 x2 = some r0), W p l e rm_X2_wettest s m args below meth c H locs 0 0 (zb_Q below D (some (.int r0)) (zb_M cI ad m_s m_m m_image m_was m_hasImage m_letters m_row m_refused m_letterMany m_rowMany m_place m_numbers m_cost m_seed) A args s) (F0 m 4 ls []) := by
    intro fu3
    induction fu3 with
    | zero => intro x1 x2 H locs hP hD hS ls hl h; exact zb_no h
    | succ fu3 ih3 =>
      intro x1 x2 H locs hP hD hS ls hl h
      replace h : zf_X2_wettest_b4 m_s (zl2 (zf_X2_wettest_b4 m_s) fu3) x1 x2 = some r0 := h
      unfold zf_X2_wettest_b4 at h
      refine lv_iload_n hx hb dX2_wettest_4 rfl (lv_at hl 2 rfl) ?_
      refine lv_bipush (v := (30 : Int32)) hx hb dX2_wettest_5 (by decide) ?_
      refine lv_icmp_ge (tgt := 39) hx hb dX2_wettest_7 (by decide) (fun c4 => ?_) (fun c4 => ?_)
      · replace h := it_t c4 h
        refine lv_iload_n hx hb dX2_wettest_39 rfl (lv_at hl 1 rfl) ?_
        obtain rfl := re1 h
        exact zb_iret hx hb hr hlk hP hS dX2_wettest_40
      · replace h := it_f c4 h
        refine lv_aload_n hx hb dX2_wettest_10 rfl (lv_at hl 0 rfl) ?_
        refine va_get (D := D) (ci := 2) (v := .ref (ad 1)) (C := RX2) (T := TX2) (N := 14) hx hb hts zi_X2_wettest_X2 hown hK.1 hP 0 rfl rfl 0 (by decide) (hts _ zk_X2_wettest_0) (fun _ h9 => h9) rfl dX2_wettest_11 ?_
        refine lv_bipush (v := (63 : Int32)) hx hb dX2_wettest_14 (by decide) ?_
        refine lv_iload_n hx hb dX2_wettest_16 rfl (lv_at hl 2 rfl) ?_
        refine lv_iadd hx hb dX2_wettest_17 ?_
        obtain ⟨h5, h⟩ := it_g h
        refine va_iald hx hb hK.1 hP 1 0 rfl rfl h5 dX2_wettest_18 ?_
        refine lv_aload_n hx hb dX2_wettest_19 rfl (lv_at hl 0 rfl) ?_
        refine va_get (D := D) (ci := 2) (v := .ref (ad 1)) (C := RX2) (T := TX2) (N := 14) hx hb hts zi_X2_wettest_X2 hown hK.1 hP 0 rfl rfl 0 (by decide) (hts _ zk_X2_wettest_0) (fun _ h9 => h9) rfl dX2_wettest_20 ?_
        refine lv_bipush (v := (63 : Int32)) hx hb dX2_wettest_23 (by decide) ?_
        refine lv_iload_n hx hb dX2_wettest_25 rfl (lv_at hl 1 rfl) ?_
        refine lv_iadd hx hb dX2_wettest_26 ?_
        obtain ⟨h6, h⟩ := it_g h
        refine va_iald hx hb hK.1 hP 1 0 rfl rfl h6 dX2_wettest_27 ?_
        refine lv_icmp_le (tgt := 33) hx hb dX2_wettest_28 (by decide) (fun c7 => ?_) (fun c7 => ?_)
        · replace h := it_t c7 h
          refine lv_iinc (v := (x2 + (1 : Int32))) (lv' := [(2, .int (x2 + (1 : Int32))), (0, .ref (ad 0)), (1, .int x1)]) hx hb dX2_wettest_33 hl (k := 2) rfl (by first | rfl | decide) (by decide) rfl (fun ls hl => ?_)
          refine lv_goto (tgt := 4) hx hb dX2_wettest_36 (by decide) ?_
          exact ih3 x1 (x2 + (1 : Int32)) _ _ hP hD hS ls (lv_sub hl [1, 2, 0] rfl) h
        · replace h := it_f c7 h
          refine lv_iload_n hx hb dX2_wettest_31 rfl (lv_at hl 2 rfl) ?_
          refine lv_istore_n (lv' := [(1, .int x2), (0, .ref (ad 0)), (2, .int x2)]) hx hb dX2_wettest_32 rfl hl (by decide) rfl (fun ls hl => ?_)
          refine lv_iinc (v := (x2 + (1 : Int32))) (lv' := [(2, .int (x2 + (1 : Int32))), (1, .int x2), (0, .ref (ad 0))]) hx hb dX2_wettest_33 hl (k := 2) rfl (by first | rfl | decide) (by decide) rfl (fun ls hl => ?_)
          refine lv_goto (tgt := 4) hx hb dX2_wettest_36 (by decide) ?_
          exact ih3 x2 (x2 + (1 : Int32)) _ _ hP hD hS ls (lv_sub hl [2, 1, 0] rfl) h
  exact lp3 zb_FU (0 : Int32) (0 : Int32) _ _ hP hD hS ls (lv_sub hl [2, 1, 0] rfl) h
abbrev rm_X2_mostHelped : Room := { frames := 1, cells := 0, slots := 0, locals := 21 }
theorem hd_X2_mostHelped : yX2_mostHelped.cls = RX2 ∧ yX2_mostHelped.cls ≠ "java/lang/invoke/MethodHandle" ∧ yX2_mostHelped.cls ≠ "java/lang/invoke/VarHandle" ∧ (parseMethodDescriptor yX2_mostHelped.desc).map (fun d => d.parameters.length) = some 0 := by decide +kernel
theorem zi_X2_mostHelped_X2 : ∀ w ∈ wsX20, w ∈ wsX2_mostHelped := fun _ h => List.mem_cons_of_mem _ (List.mem_append_right _ h)
theorem zk_X2_mostHelped_0 : Cond.fieldLink RX2 9 "GroutingIsFollowedModel" "s" "[I" ∈ wsX2_mostHelped := by decide +kernel
set_option maxHeartbeats 4000000 in
set_option maxRecDepth 100000 in
theorem zc_X2_mostHelped (l : Launch) (D : va_G) (cI : ClassId) (ad : Nat → Nat) (m_s : (Nat → Int32)) (m_m : (Nat → Int32)) (m_image : (Nat → Int32)) (m_was : (Nat → Int32)) (m_hasImage : Int32) (m_letters : (Nat → Int32)) (m_row : (Nat → Int32)) (m_refused : (Nat → Int32)) (m_letterMany : Int32) (m_rowMany : Int32) (m_place : Int32) (m_numbers : (Nat → Int32)) (m_cost : (Nat → Int32)) (m_seed : Int32) (r0 : Int32) (h : zf_X2_mostHelped m_s = some r0) : Cn l D cI yX2_mostHelped wsX2_mostHelped rm_X2_mostHelped [.ref (ad 0)] (zb_M cI ad m_s m_m m_image m_was m_hasImage m_letters m_row m_refused m_letterMany m_rowMany m_place m_numbers m_cost m_seed) (some (.int r0)) (zb_M cI ad m_s m_m m_image m_was m_hasImage m_letters m_row m_refused m_letterMany m_rowMany m_place m_numbers m_cost m_seed) := by
  refine zb_ofW (cc := cX2_mostHelped) (maxL := 3) (ret := (some .int)) (by decide) rfl (Nat.le_of_ble_eq_true rfl) ?_
  intro p e s m args below meth c A ls hx hb hr hml hts hown hlk hK hP hD hA hl
  have hS : va_S A s.heap s.heap [] := va_S.rf
  have hl : lv_has ls 3 [(0, .ref (ad 0))] := hl
  unfold zf_X2_mostHelped at h
  refine lv_bipush (v := ((-9) : Int32)) hx hb dX2_mostHelped_0 (by decide) ?_
  refine lv_istore_n (lv' := [(1, .int ((-9) : Int32)), (0, .ref (ad 0))]) hx hb dX2_mostHelped_2 rfl hl (by decide) rfl (fun ls hl => ?_)
  refine lv_iconst (v := (0 : Int32)) hx hb dX2_mostHelped_3 (by decide) ?_
  refine lv_istore_n (lv' := [(2, .int (0 : Int32)), (1, .int ((-9) : Int32)), (0, .ref (ad 0))]) hx hb dX2_mostHelped_4 rfl hl (by decide) rfl (fun ls hl => ?_)
  have lp3 : ∀ (fu3 : Nat) (x1 : Int32) (x2 : Int32) (H : Heap) (locs : List Loc) (hP : va_P D zb_cl (zb_M cI ad m_s m_m m_image m_was m_hasImage m_letters m_row m_refused m_letterMany m_rowMany m_place m_numbers m_cost m_seed) H) (hD : va_D A (zb_M cI ad m_s m_m m_image m_was m_hasImage m_letters m_row m_refused m_letterMany m_rowMany m_place m_numbers m_cost m_seed)) (hS : va_S A s.heap H locs) (ls : Array Slot) (hl : lv_has ls 3 [(0, .ref (ad 0)), (1, .int x1), (2, .int x2)]) (h : zl2 (zf_X2_mostHelped_b5 m_s) fu3 x1 x2 = some r0), W p l e rm_X2_mostHelped s m args below meth c H locs 0 0 (zb_Q below D (some (.int r0)) (zb_M cI ad m_s m_m m_image m_was m_hasImage m_letters m_row m_refused m_letterMany m_rowMany m_place m_numbers m_cost m_seed) A args s) (F0 m 5 ls []) := by
    intro fu3
    induction fu3 with
    | zero => intro x1 x2 H locs hP hD hS ls hl h; exact zb_no h
    | succ fu3 ih3 =>
      intro x1 x2 H locs hP hD hS ls hl h
      replace h : zf_X2_mostHelped_b5 m_s (zl2 (zf_X2_mostHelped_b5 m_s) fu3) x1 x2 = some r0 := h
      unfold zf_X2_mostHelped_b5 at h
      refine lv_iload_n hx hb dX2_mostHelped_5 rfl (lv_at hl 2 rfl) ?_
      refine lv_aload_n hx hb dX2_mostHelped_6 rfl (lv_at hl 0 rfl) ?_
      refine va_get (D := D) (ci := 2) (v := .ref (ad 1)) (C := RX2) (T := TX2) (N := 14) hx hb hts zi_X2_mostHelped_X2 hown hK.1 hP 0 rfl rfl 0 (by decide) (hts _ zk_X2_mostHelped_0) (fun _ h9 => h9) rfl dX2_mostHelped_7 ?_
      refine lv_iconst (v := (0 : Int32)) hx hb dX2_mostHelped_10 (by decide) ?_
      refine va_iald hx hb hK.1 hP 1 0 rfl rfl (vl_in (by decide)) dX2_mostHelped_11 ?_
      refine lv_icmp_ge (tgt := 50) hx hb dX2_mostHelped_12 (by decide) (fun c4 => ?_) (fun c4 => ?_)
      · replace h := it_t c4 h
        refine lv_iload_n hx hb dX2_mostHelped_50 rfl (lv_at hl 1 rfl) ?_
        obtain rfl := re1 h
        exact zb_iret hx hb hr hlk hP hS dX2_mostHelped_51
      · replace h := it_f c4 h
        refine lv_iload_n hx hb dX2_mostHelped_15 rfl (lv_at hl 1 rfl) ?_
        refine lv_if_lt (tgt := 42) hx hb dX2_mostHelped_16 (by decide) (fun c5 => ?_) (fun c5 => ?_)
        · replace h := it_t c5 h
          refine lv_iload_n hx hb dX2_mostHelped_42 rfl (lv_at hl 2 rfl) ?_
          refine lv_istore_n (lv' := [(1, .int x2), (0, .ref (ad 0)), (2, .int x2)]) hx hb dX2_mostHelped_43 rfl hl (by decide) rfl (fun ls hl => ?_)
          refine lv_iinc (v := (x2 + (1 : Int32))) (lv' := [(2, .int (x2 + (1 : Int32))), (1, .int x2), (0, .ref (ad 0))]) hx hb dX2_mostHelped_44 hl (k := 2) rfl (by first | rfl | decide) (by decide) rfl (fun ls hl => ?_)
          refine lv_goto (tgt := 5) hx hb dX2_mostHelped_47 (by decide) ?_
          exact ih3 x2 (x2 + (1 : Int32)) _ _ hP hD hS ls (lv_sub hl [2, 1, 0] rfl) h
        · replace h := it_f c5 h
          refine lv_aload_n hx hb dX2_mostHelped_19 rfl (lv_at hl 0 rfl) ?_
          refine va_get (D := D) (ci := 2) (v := .ref (ad 1)) (C := RX2) (T := TX2) (N := 14) hx hb hts zi_X2_mostHelped_X2 hown hK.1 hP 0 rfl rfl 0 (by decide) (hts _ zk_X2_mostHelped_0) (fun _ h9 => h9) rfl dX2_mostHelped_20 ?_
          refine lv_iload_n hx hb dX2_mostHelped_23 rfl (lv_at hl 2 rfl) ?_
          refine lv_iconst (v := (2 : Int32)) hx hb dX2_mostHelped_24 (by decide) ?_
          obtain ⟨r6, g7, h⟩ := bo1 h
          refine zb_callS (As := [.int x2, .int (2 : Int32)]) (rest := [.ref (ad 1)]) ⟨hx, hb, hml, hown, hts⟩ (zc_X2_of l D cI x2 (2 : Int32) r6 g7) (va_cwS 2 hts gX2_mostHelped_X2_of rfl rfl rfl hd_X2_of.2 ⟨Nat.le_of_ble_eq_true rfl, Nat.le_of_ble_eq_true rfl⟩) hK hP hD hS hA (zb_none _) rfl hl.1 rfl (Nat.le_of_ble_eq_true rfl) dX2_mostHelped_25 ⟨Nat.le_refl _, Nat.le_refl _⟩ (fun H locs hP hD hS => ?_)
          obtain ⟨h8, h⟩ := it_g h
          refine va_iald hx hb hK.1 hP 1 0 rfl rfl h8 dX2_mostHelped_28 ?_
          refine lv_aload_n hx hb dX2_mostHelped_29 rfl (lv_at hl 0 rfl) ?_
          refine va_get (D := D) (ci := 2) (v := .ref (ad 1)) (C := RX2) (T := TX2) (N := 14) hx hb hts zi_X2_mostHelped_X2 hown hK.1 hP 0 rfl rfl 0 (by decide) (hts _ zk_X2_mostHelped_0) (fun _ h9 => h9) rfl dX2_mostHelped_30 ?_
          refine lv_iload_n hx hb dX2_mostHelped_33 rfl (lv_at hl 1 rfl) ?_
          refine lv_iconst (v := (2 : Int32)) hx hb dX2_mostHelped_34 (by decide) ?_
          obtain ⟨r9, g10, h⟩ := bo1 h
          refine zb_callS (As := [.int x1, .int (2 : Int32)]) (rest := [.ref (ad 1), .int (m_s r6.toNatClampNeg)]) ⟨hx, hb, hml, hown, hts⟩ (zc_X2_of l D cI x1 (2 : Int32) r9 g10) (va_cwS 2 hts gX2_mostHelped_X2_of rfl rfl rfl hd_X2_of.2 ⟨Nat.le_of_ble_eq_true rfl, Nat.le_of_ble_eq_true rfl⟩) hK hP hD hS hA (zb_none _) rfl hl.1 rfl (Nat.le_of_ble_eq_true rfl) dX2_mostHelped_35 ⟨Nat.le_refl _, Nat.le_refl _⟩ (fun H locs hP hD hS => ?_)
          obtain ⟨h11, h⟩ := it_g h
          refine va_iald hx hb hK.1 hP 1 0 rfl rfl h11 dX2_mostHelped_38 ?_
          refine lv_icmp_le (tgt := 44) hx hb dX2_mostHelped_39 (by decide) (fun c12 => ?_) (fun c12 => ?_)
          · replace h := it_t c12 h
            refine lv_iinc (v := (x2 + (1 : Int32))) (lv' := [(2, .int (x2 + (1 : Int32))), (0, .ref (ad 0)), (1, .int x1)]) hx hb dX2_mostHelped_44 hl (k := 2) rfl (by first | rfl | decide) (by decide) rfl (fun ls hl => ?_)
            refine lv_goto (tgt := 5) hx hb dX2_mostHelped_47 (by decide) ?_
            exact ih3 x1 (x2 + (1 : Int32)) _ _ hP hD hS ls (lv_sub hl [1, 2, 0] rfl) h
          · replace h := it_f c12 h
            refine lv_iload_n hx hb dX2_mostHelped_42 rfl (lv_at hl 2 rfl) ?_
            refine lv_istore_n (lv' := [(1, .int x2), (0, .ref (ad 0)), (2, .int x2)]) hx hb dX2_mostHelped_43 rfl hl (by decide) rfl (fun ls hl => ?_)
            refine lv_iinc (v := (x2 + (1 : Int32))) (lv' := [(2, .int (x2 + (1 : Int32))), (1, .int x2), (0, .ref (ad 0))]) hx hb dX2_mostHelped_44 hl (k := 2) rfl (by first | rfl | decide) (by decide) rfl (fun ls hl => ?_)
            refine lv_goto (tgt := 5) hx hb dX2_mostHelped_47 (by decide) ?_
            exact ih3 x2 (x2 + (1 : Int32)) _ _ hP hD hS ls (lv_sub hl [2, 1, 0] rfl) h
  exact lp3 zb_FU ((-9) : Int32) (0 : Int32) _ _ hP hD hS ls (lv_sub hl [2, 1, 0] rfl) h
