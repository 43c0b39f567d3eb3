abbrev rm_X2_lots : Room := { frames := 5, cells := 0, slots := 0, locals := 113 }
theorem hd_X2_lots : yX2_lots.cls = RX2 ∧ yX2_lots.cls ≠ "java/lang/invoke/MethodHandle" ∧ yX2_lots.cls ≠ "java/lang/invoke/VarHandle" ∧ (parseMethodDescriptor yX2_lots.desc).map (fun d => d.parameters.length) = some 3 := by decide +kernel
theorem zi_X2_lots_X2 : ∀ w ∈ wsX20, w ∈ wsX2_lots := fun _ h => List.mem_cons_of_mem _ (List.mem_append_right _ h)
theorem zk_X2_lots_0 : Cond.fieldLink RX2 216 "GroutingIsFollowedModel" "seed" "I" ∈ wsX2_lots := by decide +kernel
theorem zk_X2_lots_1 : Cond.fieldLink RX2 9 "GroutingIsFollowedModel" "s" "[I" ∈ wsX2_lots := by decide +kernel
theorem zk_X2_lots_2 : Cond.fieldLink RX2 13 "GroutingIsFollowedModel" "m" "[I" ∈ wsX2_lots := by decide +kernel
set_option maxHeartbeats 4000000 in
set_option maxRecDepth 100000 in
theorem zc_X2_lots (l : Launch) (D : va_G) (cI : ClassId) (ad : Nat → Nat) (m_s : (Nat → Int32)) (m_m : (Nat → Int32)) (m_image : (Nat → Int32)) (m_was : (Nat → Int32)) (m_hasImage : Int32) (m_letters : (Nat → Int32)) (m_row : (Nat → Int32)) (m_refused : (Nat → Int32)) (m_letterMany : Int32) (m_rowMany : Int32) (m_place : Int32) (m_numbers : (Nat → Int32)) (m_cost : (Nat → Int32)) (m_seed : Int32) (v1 : Int32) (v2 : Int32) (v3 : Int32) (r0 : Int32) (w_m_m : (Nat → Int32)) (w_m_refused : (Nat → Int32)) (w_m_seed : Int32) (h : zf_X2_lots m_s m_m m_refused m_seed v1 v2 v3 = some (r0, w_m_m, w_m_refused, w_m_seed)) : Cn l D cI yX2_lots wsX2_lots rm_X2_lots [.ref (ad 0), .int v1, .int v2, .int v3] (zb_M cI ad m_s m_m m_image m_was m_hasImage m_letters m_row m_refused m_letterMany m_rowMany m_place m_numbers m_cost m_seed) (some (.int r0)) (zb_M cI ad m_s w_m_m m_image m_was m_hasImage m_letters m_row w_m_refused m_letterMany m_rowMany m_place m_numbers m_cost w_m_seed) := by
  refine zb_ofW (cc := cX2_lots) (maxL := 7) (ret := (some .int)) (by decide) rfl (Nat.le_of_ble_eq_true rfl) ?_
  intro p e s m args below meth c A ls hx hb hr hml hts hown hlk hK hP hD hA hl
  have hS : va_S A s.heap s.heap [] := va_S.rf
  have hl : lv_has ls 7 [(0, .ref (ad 0)), (1, .int v1), (2, .int v2), (3, .int v3)] := hl
  unfold zf_X2_lots at h
  refine lv_iload_n hx hb dX2_lots_0 rfl (lv_at hl 1 rfl) ?_
  refine lv_iconst (v := (1 : Int32)) hx hb dX2_lots_1 (by decide) ?_
  refine lv_icmp_ge (tgt := 12) hx hb dX2_lots_2 (by decide) (fun c1 => ?_) (fun c1 => ?_)
  · replace h := it_t c1 h
    refine lv_iload_n hx hb dX2_lots_12 rfl (lv_at hl 1 rfl) ?_
    refine lv_bipush (v := (20 : Int32)) hx hb dX2_lots_13 (by decide) ?_
    refine lv_icmp_le (tgt := 25) hx hb dX2_lots_15 (by decide) (fun c2 => ?_) (fun c2 => ?_)
    · replace h := it_t c2 h
      refine lv_iload_n hx hb dX2_lots_25 rfl (lv_at hl 3 rfl) ?_
      refine lv_iconst (v := (0 : Int32)) hx hb dX2_lots_26 (by decide) ?_
      refine lv_iconst (v := (1 : Int32)) hx hb dX2_lots_27 (by decide) ?_
      obtain ⟨r3, g4, h⟩ := bo1 h
      refine zb_callS (As := [.int v3, .int (0 : Int32), .int (1 : Int32)]) (rest := []) ⟨hx, hb, hml, hown, hts⟩ (zc_X2_isIn l D cI v3 (0 : Int32) (1 : Int32) r3 g4) (va_cwS 3 hts gX2_lots_X2_isIn rfl rfl rfl hd_X2_isIn.2 ⟨Nat.le_of_ble_eq_true rfl, Nat.le_of_ble_eq_true rfl⟩) hK hP hD hS hA (zb_none _) rfl hl.1 rfl (Nat.le_of_ble_eq_true rfl) dX2_lots_28 ⟨Nat.le_refl _, Nat.le_refl _⟩ (fun H locs hP hD hS => ?_)
      refine lv_if_ne (tgt := 41) hx hb dX2_lots_31 (by decide) (fun c5 => ?_) (fun c5 => ?_)
      · replace h := it_f c5 h
        refine lv_aload_n hx hb dX2_lots_41 rfl (lv_at hl 0 rfl) ?_
        refine lv_iload_n hx hb dX2_lots_42 rfl (lv_at hl 2 rfl) ?_
        refine va_put (D := D) (ci := 2) (v := .int v2) (ty := .int) (C := RX2) (T := TX2) (N := 14) hx hb hts zi_X2_lots_X2 tyX2 tyX2_ok nmX2 hown hK.1 hP hD hS 0 rfl rfl 13 (by decide) (hts _ zk_X2_lots_0) (fun _ h9 => h9) rfl (by decide +kernel) rfl rfl (Nat.le_of_ble_eq_true rfl) dX2_lots_43 (fun H locs hP hD hS => ?_)
        have hP : va_P D zb_cl (zb_M cI ad m_s m_m m_image m_was m_hasImage m_letters m_row m_refused m_letterMany m_rowMany m_place m_numbers m_cost v2) H := hP
        have hD : va_D A (zb_M cI ad m_s m_m m_image m_was m_hasImage m_letters m_row m_refused m_letterMany m_rowMany m_place m_numbers m_cost v2) := hD
        refine lv_iconst (v := (0 : Int32)) hx hb dX2_lots_46 (by decide) ?_
        refine lv_istore (lv' := [(4, .int (0 : Int32)), (0, .ref (ad 0)), (1, .int v1), (2, .int v2), (3, .int v3)]) hx hb dX2_lots_47 hl (by decide) rfl (fun ls hl => ?_)
        refine lv_iconst (v := (0 : Int32)) hx hb dX2_lots_49 (by decide) ?_
        refine lv_istore (lv' := [(5, .int (0 : Int32)), (4, .int (0 : Int32)), (0, .ref (ad 0)), (1, .int v1), (2, .int v2), (3, .int v3)]) hx hb dX2_lots_50 hl (by decide) rfl (fun ls hl => ?_)
        have lp10 : ∀ (fu10 : Nat) (x6 : Int32) (x7 : Int32) (x8 : (Nat → Int32)) (x9 : Int32) (H : Heap) (locs : List Loc) (hP : va_P D zb_cl (zb_M cI ad m_s x8 m_image m_was m_hasImage m_letters m_row m_refused m_letterMany m_rowMany m_place m_numbers m_cost x9) H) (hD : va_D A (zb_M cI ad m_s x8 m_image m_was m_hasImage m_letters m_row m_refused m_letterMany m_rowMany m_place m_numbers m_cost x9)) (hS : va_S A s.heap H locs) (ls : Array Slot) (hl : lv_has ls 7 [(0, .ref (ad 0)), (1, .int v1), (3, .int v3), (4, .int x6), (5, .int x7)]) (h : zl4 (zf_X2_lots_b52 v1 v3 m_s m_refused) fu10 x6 x7 x8 x9 = some (r0, w_m_m, w_m_refused, w_m_seed)), W p l e rm_X2_lots s m args below meth c H locs 0 0 (zb_Q below D (some (.int r0)) (zb_M cI ad m_s w_m_m m_image m_was m_hasImage m_letters m_row w_m_refused m_letterMany m_rowMany m_place m_numbers m_cost w_m_seed) A args s) (F0 m 52 ls []) := by
          intro fu10
          induction fu10 with
          | zero => intro x6 x7 x8 x9 H locs hP hD hS ls hl h; exact zb_no h
          | succ fu10 ih10 =>
            intro x6 x7 x8 x9 H locs hP hD hS ls hl h
            replace h : zf_X2_lots_b52 v1 v3 m_s m_refused (zl4 (zf_X2_lots_b52 v1 v3 m_s m_refused) fu10) x6 x7 x8 x9 = some (r0, w_m_m, w_m_refused, w_m_seed) := h
            unfold zf_X2_lots_b52 at h
            have j122 : ∀ (x11 : Int32) (x12 : Int32) (x13 : (Nat → Int32)) (x14 : Int32) (H : Heap) (locs : List Loc) (hP : va_P D zb_cl (zb_M cI ad m_s x13 m_image m_was m_hasImage m_letters m_row m_refused m_letterMany m_rowMany m_place m_numbers m_cost x14) H) (hD : va_D A (zb_M cI ad m_s x13 m_image m_was m_hasImage m_letters m_row m_refused m_letterMany m_rowMany m_place m_numbers m_cost x14)) (hS : va_S A s.heap H locs) (ls : Array Slot) (hl : lv_has ls 7 [(0, .ref (ad 0)), (1, .int v1), (3, .int v3), (4, .int x11), (5, .int x12)]) (h : zf_X2_lots_j122 (zl4 (zf_X2_lots_b52 v1 v3 m_s m_refused) fu10) v3 x11 x12 m_s x13 x14 = some (r0, w_m_m, w_m_refused, w_m_seed)), W p l e rm_X2_lots s m args below meth c H locs 0 0 (zb_Q below D (some (.int r0)) (zb_M cI ad m_s w_m_m m_image m_was m_hasImage m_letters m_row w_m_refused m_letterMany m_rowMany m_place m_numbers m_cost w_m_seed) A args s) (F0 m 122 ls []) := by
              intro x11 x12 x13 x14 H locs hP hD hS ls hl h
              unfold zf_X2_lots_j122 at h
              refine lv_aload_n hx hb dX2_lots_122 rfl (lv_at hl 0 rfl) ?_
              refine va_get (D := D) (ci := 2) (v := .ref (ad 2)) (C := RX2) (T := TX2) (N := 14) hx hb hts zi_X2_lots_X2 hown hK.1 hP 0 rfl rfl 1 (by decide) (hts _ zk_X2_lots_2) (fun _ h9 => h9) rfl dX2_lots_123 ?_
              refine lv_bipush (v := (12 : Int32)) hx hb dX2_lots_126 (by decide) ?_
              obtain ⟨n15, g16, h⟩ := bo1 h
              refine zb_callS (As := [.ref (ad 2), .int (12 : Int32)]) (rest := []) ⟨hx, hb, hml, hown, hts⟩ (zc_X2_stepsOn l D cI (ad 2) x13 (12 : Int32) n15 g16) (va_cwS 2 hts gX2_lots_X2_stepsOn rfl rfl rfl hd_X2_stepsOn.2 ⟨Nat.le_of_ble_eq_true rfl, Nat.le_of_ble_eq_true rfl⟩) hK hP hD hS hA (zb_cM_m) rfl hl.1 rfl (Nat.le_of_ble_eq_true rfl) dX2_lots_128 ⟨Nat.le_refl _, Nat.le_refl _⟩ (fun H locs hP hD hS => ?_)
              refine lv_iload hx hb dX2_lots_131 (lv_at hl 3 rfl) ?_
              refine lv_iload_n hx hb dX2_lots_133 rfl (lv_at hl 2 rfl) ?_
              refine lv_if_ne (tgt := 155) hx hb dX2_lots_134 (by decide) (fun c17 => ?_) (fun c17 => ?_)
              · replace h := it_f c17 h
                refine lv_iconst (v := (0 : Int32)) hx hb dX2_lots_155 (by decide) ?_
                refine lv_iadd hx hb dX2_lots_156 ?_
                refine lv_istore (lv' := [(4, .int (x11 + (0 : Int32))), (0, .ref (ad 0)), (1, .int v1), (3, .int v3), (5, .int x12)]) hx hb dX2_lots_157 hl (by decide) rfl (fun ls hl => ?_)
                refine lv_iconst (v := (0 : Int32)) hx hb dX2_lots_159 (by decide) ?_
                refine lv_istore (lv' := [(6, .int (0 : Int32)), (4, .int (x11 + (0 : Int32))), (0, .ref (ad 0)), (1, .int v1), (3, .int v3), (5, .int x12)]) hx hb dX2_lots_160 hl (by decide) rfl (fun ls hl => ?_)
                have lp20 : ∀ (fu20 : Nat) (x18 : Int32) (x19 : Int32) (H : Heap) (locs : List Loc) (hP : va_P D zb_cl (zb_M cI ad m_s n15 m_image m_was m_hasImage m_letters m_row m_refused m_letterMany m_rowMany m_place m_numbers m_cost x14) H) (hD : va_D A (zb_M cI ad m_s n15 m_image m_was m_hasImage m_letters m_row m_refused m_letterMany m_rowMany m_place m_numbers m_cost x14)) (hS : va_S A s.heap H locs) (ls : Array Slot) (hl : lv_has ls 7 [(0, .ref (ad 0)), (1, .int v1), (3, .int v3), (4, .int x18), (5, .int x12), (6, .int x19)]) (h : zl2 (zf_X2_lots_b162 (zl4 (zf_X2_lots_b52 v1 v3 m_s m_refused) fu10) v3 x12 m_s n15 x14) fu20 x18 x19 = some (r0, w_m_m, w_m_refused, w_m_seed)), W p l e rm_X2_lots s m args below meth c H locs 0 0 (zb_Q below D (some (.int r0)) (zb_M cI ad m_s w_m_m m_image m_was m_hasImage m_letters m_row w_m_refused m_letterMany m_rowMany m_place m_numbers m_cost w_m_seed) A args s) (F0 m 162 ls []) := by
                  intro fu20
                  induction fu20 with
                  | zero => intro x18 x19 H locs hP hD hS ls hl h; exact zb_no h
                  | succ fu20 ih20 =>
                    intro x18 x19 H locs hP hD hS ls hl h
                    replace h : zf_X2_lots_b162 (zl4 (zf_X2_lots_b52 v1 v3 m_s m_refused) fu10) v3 x12 m_s n15 x14 (zl2 (zf_X2_lots_b162 (zl4 (zf_X2_lots_b52 v1 v3 m_s m_refused) fu10) v3 x12 m_s n15 x14) fu20) x18 x19 = some (r0, w_m_m, w_m_refused, w_m_seed) := h
                    unfold zf_X2_lots_b162 at h
                    refine lv_iload hx hb dX2_lots_162 (lv_at hl 5 rfl) ?_
                    refine lv_aload_n hx hb dX2_lots_164 rfl (lv_at hl 0 rfl) ?_
                    refine va_get (D := D) (ci := 2) (v := .ref (ad 1)) (C := RX2) (T := TX2) (N := 14) hx hb hts zi_X2_lots_X2 hown hK.1 hP 0 rfl rfl 0 (by decide) (hts _ zk_X2_lots_1) (fun _ h9 => h9) rfl dX2_lots_165 ?_
                    refine lv_iconst (v := (0 : Int32)) hx hb dX2_lots_168 (by decide) ?_
                    refine va_iald hx hb hK.1 hP 1 0 rfl rfl (vl_in (by decide)) dX2_lots_169 ?_
                    refine lv_icmp_ge (tgt := 215) hx hb dX2_lots_170 (by decide) (fun c21 => ?_) (fun c21 => ?_)
                    · replace h := it_t c21 h
                      refine lv_iinc (v := (x12 + (1 : Int32))) (lv' := [(5, .int (x12 + (1 : Int32))), (0, .ref (ad 0)), (1, .int v1), (3, .int v3), (4, .int x18), (6, .int x19)]) hx hb dX2_lots_215 hl (k := 4) rfl (by first | rfl | decide) (by decide) rfl (fun ls hl => ?_)
                      refine lv_goto (tgt := 52) hx hb dX2_lots_218 (by decide) ?_
                      exact ih10 x18 (x12 + (1 : Int32)) n15 x14 _ _ hP hD hS ls (lv_sub hl [1, 2, 3, 4, 0] rfl) h
                    · replace h := it_f c21 h
                      refine lv_iload_n hx hb dX2_lots_173 rfl (lv_at hl 2 rfl) ?_
                      refine lv_iconst (v := (1 : Int32)) hx hb dX2_lots_174 (by decide) ?_
                      refine lv_icmp_ne (tgt := 215) hx hb dX2_lots_175 (by decide) (fun c22 => ?_) (fun c22 => ?_)
                      · replace h := it_f c22 h
                        refine lv_iinc (v := (x12 + (1 : Int32))) (lv' := [(5, .int (x12 + (1 : Int32))), (0, .ref (ad 0)), (1, .int v1), (3, .int v3), (4, .int x18), (6, .int x19)]) hx hb dX2_lots_215 hl (k := 4) rfl (by first | rfl | decide) (by decide) rfl (fun ls hl => ?_)
                        refine lv_goto (tgt := 52) hx hb dX2_lots_218 (by decide) ?_
                        exact ih10 x18 (x12 + (1 : Int32)) n15 x14 _ _ hP hD hS ls (lv_sub hl [1, 2, 3, 4, 0] rfl) h
                      · replace h := it_t c22 h
                        refine lv_iload hx hb dX2_lots_178 (lv_at hl 3 rfl) ?_
                        refine lv_aload_n hx hb dX2_lots_180 rfl (lv_at hl 0 rfl) ?_
                        refine va_get (D := D) (ci := 2) (v := .ref (ad 2)) (C := RX2) (T := TX2) (N := 14) hx hb hts zi_X2_lots_X2 hown hK.1 hP 0 rfl rfl 1 (by decide) (hts _ zk_X2_lots_2) (fun _ h9 => h9) rfl dX2_lots_181 ?_
                        refine lv_aload_n hx hb dX2_lots_184 rfl (lv_at hl 0 rfl) ?_
                        refine va_get (D := D) (ci := 2) (v := .ref (ad 2)) (C := RX2) (T := TX2) (N := 14) hx hb hts zi_X2_lots_X2 hown hK.1 hP 0 rfl rfl 1 (by decide) (hts _ zk_X2_lots_2) (fun _ h9 => h9) rfl dX2_lots_185 ?_
                        refine lv_iload hx hb dX2_lots_188 (lv_at hl 5 rfl) ?_
                        refine lv_iconst (v := (0 : Int32)) hx hb dX2_lots_190 (by decide) ?_
                        obtain ⟨r23, g24, h⟩ := bo1 h
                        refine zb_callS (As := [.int x19, .int (0 : Int32)]) (rest := [.ref (ad 2), .ref (ad 2), .int x18]) ⟨hx, hb, hml, hown, hts⟩ (zc_X2_of l D cI x19 (0 : Int32) r23 g24) (va_cwS 2 hts gX2_lots_X2_of rfl rfl rfl hd_X2_of.2 ⟨Nat.le_of_ble_eq_true rfl, Nat.le_of_ble_eq_true rfl⟩) hK hP hD hS hA (zb_none _) rfl hl.1 rfl (Nat.le_of_ble_eq_true rfl) dX2_lots_191 ⟨Nat.le_refl _, Nat.le_refl _⟩ (fun H locs hP hD hS => ?_)
                        obtain ⟨h25, h⟩ := it_g h
                        refine va_iald hx hb hK.1 hP 2 0 rfl rfl h25 dX2_lots_194 ?_
                        obtain ⟨r26, g27, h⟩ := bo1 h
                        refine zb_callS (As := [.ref (ad 2), .int (n15 r23.toNatClampNeg)]) (rest := [.int x18]) ⟨hx, hb, hml, hown, hts⟩ (zc_X2_isDry l D cI (ad 2) n15 (n15 r23.toNatClampNeg) r26 g27) (va_cwS 2 hts gX2_lots_X2_isDry rfl rfl rfl hd_X2_isDry.2 ⟨Nat.le_of_ble_eq_true rfl, Nat.le_of_ble_eq_true rfl⟩) hK hP hD hS hA (zb_cM_m) rfl hl.1 rfl (Nat.le_of_ble_eq_true rfl) dX2_lots_195 ⟨Nat.le_refl _, Nat.le_refl _⟩ (fun H locs hP hD hS => ?_)
                        refine lv_if_eq (tgt := 205) hx hb dX2_lots_198 (by decide) (fun c28 => ?_) (fun c28 => ?_)
                        · replace h := it_t c28 h
                          refine lv_iconst (v := (0 : Int32)) hx hb dX2_lots_205 (by decide) ?_
                          refine lv_iadd hx hb dX2_lots_206 ?_
                          refine lv_istore (lv' := [(4, .int (x18 + (0 : Int32))), (0, .ref (ad 0)), (1, .int v1), (3, .int v3), (5, .int x12), (6, .int x19)]) hx hb dX2_lots_207 hl (by decide) rfl (fun ls hl => ?_)
                          refine lv_iinc (v := (x19 + (1 : Int32))) (lv' := [(6, .int (x19 + (1 : Int32))), (4, .int (x18 + (0 : Int32))), (0, .ref (ad 0)), (1, .int v1), (3, .int v3), (5, .int x12)]) hx hb dX2_lots_209 hl (k := 5) rfl (by first | rfl | decide) (by decide) rfl (fun ls hl => ?_)
                          refine lv_goto (tgt := 162) hx hb dX2_lots_212 (by decide) ?_
                          exact ih20 (x18 + (0 : Int32)) (x19 + (1 : Int32)) _ _ hP hD hS ls (lv_sub hl [2, 3, 4, 1, 5, 0] rfl) h
                        · replace h := it_f c28 h
                          refine lv_iconst (v := (1 : Int32)) hx hb dX2_lots_201 (by decide) ?_
                          refine lv_goto (tgt := 206) hx hb dX2_lots_202 (by decide) ?_
                          refine lv_iadd hx hb dX2_lots_206 ?_
                          refine lv_istore (lv' := [(4, .int (x18 + (1 : Int32))), (0, .ref (ad 0)), (1, .int v1), (3, .int v3), (5, .int x12), (6, .int x19)]) hx hb dX2_lots_207 hl (by decide) rfl (fun ls hl => ?_)
                          refine lv_iinc (v := (x19 + (1 : Int32))) (lv' := [(6, .int (x19 + (1 : Int32))), (4, .int (x18 + (1 : Int32))), (0, .ref (ad 0)), (1, .int v1), (3, .int v3), (5, .int x12)]) hx hb dX2_lots_209 hl (k := 5) rfl (by first | rfl | decide) (by decide) rfl (fun ls hl => ?_)
                          refine lv_goto (tgt := 162) hx hb dX2_lots_212 (by decide) ?_
                          exact ih20 (x18 + (1 : Int32)) (x19 + (1 : Int32)) _ _ hP hD hS ls (lv_sub hl [2, 3, 4, 1, 5, 0] rfl) h
                exact lp20 zb_FU (x11 + (0 : Int32)) (0 : Int32) _ _ hP hD hS ls (lv_sub hl [2, 3, 4, 1, 5, 0] rfl) h
              · replace h := it_t c17 h
                refine lv_aload_n hx hb dX2_lots_137 rfl (lv_at hl 0 rfl) ?_
                refine va_get (D := D) (ci := 2) (v := .ref (ad 2)) (C := RX2) (T := TX2) (N := 14) hx hb hts zi_X2_lots_X2 hown hK.1 hP 0 rfl rfl 1 (by decide) (hts _ zk_X2_lots_2) (fun _ h9 => h9) rfl dX2_lots_138 ?_
                obtain ⟨r29, g30, h⟩ := bo1 h
                refine zb_callS (As := [.ref (ad 2)]) (rest := [.int x11]) ⟨hx, hb, hml, hown, hts⟩ (zc_X2_allHelped l D cI (ad 2) n15 r29 g30) (va_cwS 1 hts gX2_lots_X2_allHelped rfl rfl rfl hd_X2_allHelped.2 ⟨Nat.le_of_ble_eq_true rfl, Nat.le_of_ble_eq_true rfl⟩) hK hP hD hS hA (zb_cM_m) rfl hl.1 rfl (Nat.le_of_ble_eq_true rfl) dX2_lots_141 ⟨Nat.le_refl _, Nat.le_refl _⟩ (fun H locs hP hD hS => ?_)
                refine lv_aload_n hx hb dX2_lots_144 rfl (lv_at hl 0 rfl) ?_
                refine va_get (D := D) (ci := 2) (v := .ref (ad 1)) (C := RX2) (T := TX2) (N := 14) hx hb hts zi_X2_lots_X2 hown hK.1 hP 0 rfl rfl 0 (by decide) (hts _ zk_X2_lots_1) (fun _ h9 => h9) rfl dX2_lots_145 ?_
                obtain ⟨r31, g32, h⟩ := bo1 h
                refine zb_callS (As := [.ref (ad 1)]) (rest := [.int r29, .int x11]) ⟨hx, hb, hml, hown, hts⟩ (zc_X2_allHelped l D cI (ad 1) m_s r31 g32) (va_cwS 1 hts gX2_lots_X2_allHelped rfl rfl rfl hd_X2_allHelped.2 ⟨Nat.le_of_ble_eq_true rfl, Nat.le_of_ble_eq_true rfl⟩) hK hP hD hS hA (zb_cM_s) rfl hl.1 rfl (Nat.le_of_ble_eq_true rfl) dX2_lots_148 ⟨Nat.le_refl _, Nat.le_refl _⟩ (fun H locs hP hD hS => ?_)
                refine lv_isub hx hb dX2_lots_151 ?_
                refine lv_goto (tgt := 156) hx hb dX2_lots_152 (by decide) ?_
                refine lv_iadd hx hb dX2_lots_156 ?_
                refine lv_istore (lv' := [(4, .int (x11 + (r29 - r31))), (0, .ref (ad 0)), (1, .int v1), (3, .int v3), (5, .int x12)]) hx hb dX2_lots_157 hl (by decide) rfl (fun ls hl => ?_)
                refine lv_iconst (v := (0 : Int32)) hx hb dX2_lots_159 (by decide) ?_
                refine lv_istore (lv' := [(6, .int (0 : Int32)), (4, .int (x11 + (r29 - r31))), (0, .ref (ad 0)), (1, .int v1), (3, .int v3), (5, .int x12)]) hx hb dX2_lots_160 hl (by decide) rfl (fun ls hl => ?_)
                have lp35 : ∀ (fu35 : Nat) (x33 : Int32) (x34 : Int32) (H : Heap) (locs : List Loc) (hP : va_P D zb_cl (zb_M cI ad m_s n15 m_image m_was m_hasImage m_letters m_row m_refused m_letterMany m_rowMany m_place m_numbers m_cost x14) H) (hD : va_D A (zb_M cI ad m_s n15 m_image m_was m_hasImage m_letters m_row m_refused m_letterMany m_rowMany m_place m_numbers m_cost x14)) (hS : va_S A s.heap H locs) (ls : Array Slot) (hl : lv_has ls 7 [(0, .ref (ad 0)), (1, .int v1), (3, .int v3), (4, .int x33), (5, .int x12), (6, .int x34)]) (h : zl2 (zf_X2_lots_b162 (zl4 (zf_X2_lots_b52 v1 v3 m_s m_refused) fu10) v3 x12 m_s n15 x14) fu35 x33 x34 = some (r0, w_m_m, w_m_refused, w_m_seed)), W p l e rm_X2_lots s m args below meth c H locs 0 0 (zb_Q below D (some (.int r0)) (zb_M cI ad m_s w_m_m m_image m_was m_hasImage m_letters m_row w_m_refused m_letterMany m_rowMany m_place m_numbers m_cost w_m_seed) A args s) (F0 m 162 ls []) := by
                  intro fu35
                  induction fu35 with
                  | zero => intro x33 x34 H locs hP hD hS ls hl h; exact zb_no h
                  | succ fu35 ih35 =>
                    intro x33 x34 H locs hP hD hS ls hl h
                    replace h : zf_X2_lots_b162 (zl4 (zf_X2_lots_b52 v1 v3 m_s m_refused) fu10) v3 x12 m_s n15 x14 (zl2 (zf_X2_lots_b162 (zl4 (zf_X2_lots_b52 v1 v3 m_s m_refused) fu10) v3 x12 m_s n15 x14) fu35) x33 x34 = some (r0, w_m_m, w_m_refused, w_m_seed) := h
                    unfold zf_X2_lots_b162 at h
                    refine lv_iload hx hb dX2_lots_162 (lv_at hl 5 rfl) ?_
                    refine lv_aload_n hx hb dX2_lots_164 rfl (lv_at hl 0 rfl) ?_
                    refine va_get (D := D) (ci := 2) (v := .ref (ad 1)) (C := RX2) (T := TX2) (N := 14) hx hb hts zi_X2_lots_X2 hown hK.1 hP 0 rfl rfl 0 (by decide) (hts _ zk_X2_lots_1) (fun _ h9 => h9) rfl dX2_lots_165 ?_
                    refine lv_iconst (v := (0 : Int32)) hx hb dX2_lots_168 (by decide) ?_
                    refine va_iald hx hb hK.1 hP 1 0 rfl rfl (vl_in (by decide)) dX2_lots_169 ?_
                    refine lv_icmp_ge (tgt := 215) hx hb dX2_lots_170 (by decide) (fun c36 => ?_) (fun c36 => ?_)
                    · replace h := it_t c36 h
                      refine lv_iinc (v := (x12 + (1 : Int32))) (lv' := [(5, .int (x12 + (1 : Int32))), (0, .ref (ad 0)), (1, .int v1), (3, .int v3), (4, .int x33), (6, .int x34)]) hx hb dX2_lots_215 hl (k := 4) rfl (by first | rfl | decide) (by decide) rfl (fun ls hl => ?_)
                      refine lv_goto (tgt := 52) hx hb dX2_lots_218 (by decide) ?_
                      exact ih10 x33 (x12 + (1 : Int32)) n15 x14 _ _ hP hD hS ls (lv_sub hl [1, 2, 3, 4, 0] rfl) h
                    · replace h := it_f c36 h
                      refine lv_iload_n hx hb dX2_lots_173 rfl (lv_at hl 2 rfl) ?_
                      refine lv_iconst (v := (1 : Int32)) hx hb dX2_lots_174 (by decide) ?_
                      refine lv_icmp_ne (tgt := 215) hx hb dX2_lots_175 (by decide) (fun c37 => ?_) (fun c37 => ?_)
                      · replace h := it_f c37 h
                        refine lv_iinc (v := (x12 + (1 : Int32))) (lv' := [(5, .int (x12 + (1 : Int32))), (0, .ref (ad 0)), (1, .int v1), (3, .int v3), (4, .int x33), (6, .int x34)]) hx hb dX2_lots_215 hl (k := 4) rfl (by first | rfl | decide) (by decide) rfl (fun ls hl => ?_)
                        refine lv_goto (tgt := 52) hx hb dX2_lots_218 (by decide) ?_
                        exact ih10 x33 (x12 + (1 : Int32)) n15 x14 _ _ hP hD hS ls (lv_sub hl [1, 2, 3, 4, 0] rfl) h
                      · replace h := it_t c37 h
                        refine lv_iload hx hb dX2_lots_178 (lv_at hl 3 rfl) ?_
                        refine lv_aload_n hx hb dX2_lots_180 rfl (lv_at hl 0 rfl) ?_
                        refine va_get (D := D) (ci := 2) (v := .ref (ad 2)) (C := RX2) (T := TX2) (N := 14) hx hb hts zi_X2_lots_X2 hown hK.1 hP 0 rfl rfl 1 (by decide) (hts _ zk_X2_lots_2) (fun _ h9 => h9) rfl dX2_lots_181 ?_
                        refine lv_aload_n hx hb dX2_lots_184 rfl (lv_at hl 0 rfl) ?_
                        refine va_get (D := D) (ci := 2) (v := .ref (ad 2)) (C := RX2) (T := TX2) (N := 14) hx hb hts zi_X2_lots_X2 hown hK.1 hP 0 rfl rfl 1 (by decide) (hts _ zk_X2_lots_2) (fun _ h9 => h9) rfl dX2_lots_185 ?_
                        refine lv_iload hx hb dX2_lots_188 (lv_at hl 5 rfl) ?_
                        refine lv_iconst (v := (0 : Int32)) hx hb dX2_lots_190 (by decide) ?_
                        obtain ⟨r38, g39, h⟩ := bo1 h
                        refine zb_callS (As := [.int x34, .int (0 : Int32)]) (rest := [.ref (ad 2), .ref (ad 2), .int x33]) ⟨hx, hb, hml, hown, hts⟩ (zc_X2_of l D cI x34 (0 : Int32) r38 g39) (va_cwS 2 hts gX2_lots_X2_of rfl rfl rfl hd_X2_of.2 ⟨Nat.le_of_ble_eq_true rfl, Nat.le_of_ble_eq_true rfl⟩) hK hP hD hS hA (zb_none _) rfl hl.1 rfl (Nat.le_of_ble_eq_true rfl) dX2_lots_191 ⟨Nat.le_refl _, Nat.le_refl _⟩ (fun H locs hP hD hS => ?_)
                        obtain ⟨h40, h⟩ := it_g h
                        refine va_iald hx hb hK.1 hP 2 0 rfl rfl h40 dX2_lots_194 ?_
                        obtain ⟨r41, g42, h⟩ := bo1 h
                        refine zb_callS (As := [.ref (ad 2), .int (n15 r38.toNatClampNeg)]) (rest := [.int x33]) ⟨hx, hb, hml, hown, hts⟩ (zc_X2_isDry l D cI (ad 2) n15 (n15 r38.toNatClampNeg) r41 g42) (va_cwS 2 hts gX2_lots_X2_isDry rfl rfl rfl hd_X2_isDry.2 ⟨Nat.le_of_ble_eq_true rfl, Nat.le_of_ble_eq_true rfl⟩) hK hP hD hS hA (zb_cM_m) rfl hl.1 rfl (Nat.le_of_ble_eq_true rfl) dX2_lots_195 ⟨Nat.le_refl _, Nat.le_refl _⟩ (fun H locs hP hD hS => ?_)
                        refine lv_if_eq (tgt := 205) hx hb dX2_lots_198 (by decide) (fun c43 => ?_) (fun c43 => ?_)
                        · replace h := it_t c43 h
                          refine lv_iconst (v := (0 : Int32)) hx hb dX2_lots_205 (by decide) ?_
                          refine lv_iadd hx hb dX2_lots_206 ?_
                          refine lv_istore (lv' := [(4, .int (x33 + (0 : Int32))), (0, .ref (ad 0)), (1, .int v1), (3, .int v3), (5, .int x12), (6, .int x34)]) hx hb dX2_lots_207 hl (by decide) rfl (fun ls hl => ?_)
                          refine lv_iinc (v := (x34 + (1 : Int32))) (lv' := [(6, .int (x34 + (1 : Int32))), (4, .int (x33 + (0 : Int32))), (0, .ref (ad 0)), (1, .int v1), (3, .int v3), (5, .int x12)]) hx hb dX2_lots_209 hl (k := 5) rfl (by first | rfl | decide) (by decide) rfl (fun ls hl => ?_)
                          refine lv_goto (tgt := 162) hx hb dX2_lots_212 (by decide) ?_
                          exact ih35 (x33 + (0 : Int32)) (x34 + (1 : Int32)) _ _ hP hD hS ls (lv_sub hl [2, 3, 4, 1, 5, 0] rfl) h
                        · replace h := it_f c43 h
                          refine lv_iconst (v := (1 : Int32)) hx hb dX2_lots_201 (by decide) ?_
                          refine lv_goto (tgt := 206) hx hb dX2_lots_202 (by decide) ?_
                          refine lv_iadd hx hb dX2_lots_206 ?_
                          refine lv_istore (lv' := [(4, .int (x33 + (1 : Int32))), (0, .ref (ad 0)), (1, .int v1), (3, .int v3), (5, .int x12), (6, .int x34)]) hx hb dX2_lots_207 hl (by decide) rfl (fun ls hl => ?_)
                          refine lv_iinc (v := (x34 + (1 : Int32))) (lv' := [(6, .int (x34 + (1 : Int32))), (4, .int (x33 + (1 : Int32))), (0, .ref (ad 0)), (1, .int v1), (3, .int v3), (5, .int x12)]) hx hb dX2_lots_209 hl (k := 5) rfl (by first | rfl | decide) (by decide) rfl (fun ls hl => ?_)
                          refine lv_goto (tgt := 162) hx hb dX2_lots_212 (by decide) ?_
                          exact ih35 (x33 + (1 : Int32)) (x34 + (1 : Int32)) _ _ hP hD hS ls (lv_sub hl [2, 3, 4, 1, 5, 0] rfl) h
                exact lp35 zb_FU (x11 + (r29 - r31)) (0 : Int32) _ _ hP hD hS ls (lv_sub hl [2, 3, 4, 1, 5, 0] rfl) h
            refine lv_iload hx hb dX2_lots_52 (lv_at hl 4 rfl) ?_
            refine lv_iload_n hx hb dX2_lots_54 rfl (lv_at hl 1 rfl) ?_
            refine lv_icmp_ge (tgt := 221) hx hb dX2_lots_55 (by decide) (fun c44 => ?_) (fun c44 => ?_)
            · replace h := it_t c44 h
              refine lv_iload hx hb dX2_lots_221 (lv_at hl 3 rfl) ?_
              obtain ⟨rfl, rfl, rfl, rfl⟩ := re4 h
              exact zb_iret hx hb hr hlk hP hS dX2_lots_223
            · replace h := it_f c44 h
              refine lv_aload_n hx hb dX2_lots_58 rfl (lv_at hl 0 rfl) ?_
              refine va_get (D := D) (ci := 2) (v := .ref (ad 1)) (C := RX2) (T := TX2) (N := 14) hx hb hts zi_X2_lots_X2 hown hK.1 hP 0 rfl rfl 0 (by decide) (hts _ zk_X2_lots_1) (fun _ h9 => h9) rfl dX2_lots_59 ?_
              refine lv_aload_n hx hb dX2_lots_62 rfl (lv_at hl 0 rfl) ?_
              refine va_get (D := D) (ci := 2) (v := .ref (ad 2)) (C := RX2) (T := TX2) (N := 14) hx hb hts zi_X2_lots_X2 hown hK.1 hP 0 rfl rfl 1 (by decide) (hts _ zk_X2_lots_2) (fun _ h9 => h9) rfl dX2_lots_63 ?_
              obtain ⟨n45, g46, h⟩ := bo1 h
              refine zb_callS (As := [.ref (ad 1), .ref (ad 2)]) (rest := []) ⟨hx, hb, hml, hown, hts⟩ (zc_X2_copies l D cI (ad 1) (ad 2) m_s x8 n45 g46) (va_cwS 2 hts gX2_lots_X2_copies rfl rfl rfl hd_X2_copies.2 ⟨Nat.le_of_ble_eq_true rfl, Nat.le_of_ble_eq_true rfl⟩) hK hP hD hS hA (zb_cM_s_m) rfl hl.1 rfl (Nat.le_of_ble_eq_true rfl) dX2_lots_66 ⟨Nat.le_refl _, Nat.le_refl _⟩ (fun H locs hP hD hS => ?_)
              refine lv_iconst (v := (0 : Int32)) hx hb dX2_lots_69 (by decide) ?_
              refine lv_istore (lv' := [(6, .int (0 : Int32)), (0, .ref (ad 0)), (1, .int v1), (3, .int v3), (4, .int x6), (5, .int x7)]) hx hb dX2_lots_70 hl (by decide) rfl (fun ls hl => ?_)
              have lp50 : ∀ (fu50 : Nat) (x47 : Int32) (x48 : (Nat → Int32)) (x49 : Int32) (H : Heap) (locs : List Loc) (hP : va_P D zb_cl (zb_M cI ad m_s x48 m_image m_was m_hasImage m_letters m_row m_refused m_letterMany m_rowMany m_place m_numbers m_cost x49) H) (hD : va_D A (zb_M cI ad m_s x48 m_image m_was m_hasImage m_letters m_row m_refused m_letterMany m_rowMany m_place m_numbers m_cost x49)) (hS : va_S A s.heap H locs) (ls : Array Slot) (hl : lv_has ls 7 [(0, .ref (ad 0)), (1, .int v1), (3, .int v3), (4, .int x6), (5, .int x7), (6, .int x47)]) (h : zl3 (zf_X2_lots_b72 (zl4 (zf_X2_lots_b52 v1 v3 m_s m_refused) fu10) v3 x6 x7 m_s) fu50 x47 x48 x49 = some (r0, w_m_m, w_m_refused, w_m_seed)), W p l e rm_X2_lots s m args below meth c H locs 0 0 (zb_Q below D (some (.int r0)) (zb_M cI ad m_s w_m_m m_image m_was m_hasImage m_letters m_row w_m_refused m_letterMany m_rowMany m_place m_numbers m_cost w_m_seed) A args s) (F0 m 72 ls []) := by
                intro fu50
                induction fu50 with
                | zero => intro x47 x48 x49 H locs hP hD hS ls hl h; exact zb_no h
                | succ fu50 ih50 =>
                  intro x47 x48 x49 H locs hP hD hS ls hl h
                  replace h : zf_X2_lots_b72 (zl4 (zf_X2_lots_b52 v1 v3 m_s m_refused) fu10) v3 x6 x7 m_s (zl3 (zf_X2_lots_b72 (zl4 (zf_X2_lots_b52 v1 v3 m_s m_refused) fu10) v3 x6 x7 m_s) fu50) x47 x48 x49 = some (r0, w_m_m, w_m_refused, w_m_seed) := h
                  unfold zf_X2_lots_b72 at h
                  refine lv_iload hx hb dX2_lots_72 (lv_at hl 5 rfl) ?_
                  refine lv_aload_n hx hb dX2_lots_74 rfl (lv_at hl 0 rfl) ?_
                  refine va_get (D := D) (ci := 2) (v := .ref (ad 1)) (C := RX2) (T := TX2) (N := 14) hx hb hts zi_X2_lots_X2 hown hK.1 hP 0 rfl rfl 0 (by decide) (hts _ zk_X2_lots_1) (fun _ h9 => h9) rfl dX2_lots_75 ?_
                  refine lv_iconst (v := (0 : Int32)) hx hb dX2_lots_78 (by decide) ?_
                  refine va_iald hx hb hK.1 hP 1 0 rfl rfl (vl_in (by decide)) dX2_lots_79 ?_
                  refine lv_icmp_ge (tgt := 122) hx hb dX2_lots_80 (by decide) (fun c51 => ?_) (fun c51 => ?_)
                  · replace h := it_t c51 h
                    exact j122 x6 x7 x48 x49 _ _ hP hD hS ls (lv_sub hl [0, 1, 2, 3, 4] rfl) h
                  · replace h := it_f c51 h
                    refine lv_aload_n hx hb dX2_lots_83 rfl (lv_at hl 0 rfl) ?_
                    refine va_get (D := D) (ci := 2) (v := .ref (ad 2)) (C := RX2) (T := TX2) (N := 14) hx hb hts zi_X2_lots_X2 hown hK.1 hP 0 rfl rfl 1 (by decide) (hts _ zk_X2_lots_2) (fun _ h9 => h9) rfl dX2_lots_84 ?_
                    refine lv_iload hx hb dX2_lots_87 (lv_at hl 5 rfl) ?_
                    refine lv_iconst (v := (0 : Int32)) hx hb dX2_lots_89 (by decide) ?_
                    obtain ⟨r52, g53, h⟩ := bo1 h
                    refine zb_callS (As := [.int x47, .int (0 : Int32)]) (rest := [.ref (ad 2)]) ⟨hx, hb, hml, hown, hts⟩ (zc_X2_of l D cI x47 (0 : Int32) r52 g53) (va_cwS 2 hts gX2_lots_X2_of rfl rfl rfl hd_X2_of.2 ⟨Nat.le_of_ble_eq_true rfl, Nat.le_of_ble_eq_true rfl⟩) hK hP hD hS hA (zb_none _) rfl hl.1 rfl (Nat.le_of_ble_eq_true rfl) dX2_lots_90 ⟨Nat.le_refl _, Nat.le_refl _⟩ (fun H locs hP hD hS => ?_)
                    refine lv_aload_n hx hb dX2_lots_93 rfl (lv_at hl 0 rfl) ?_
                    refine lv_bipush (v := (30 : Int32)) hx hb dX2_lots_94 (by decide) ?_
                    obtain ⟨r54, n55, g56, h⟩ := bo2 h
                    refine zb_callV (As := [.int (30 : Int32)]) (rest := [.int r52, .ref (ad 2)]) ⟨hx, hb, hml, hown, hts⟩ (zc_X2_drawn l D cI ad m_s x48 m_image m_was m_hasImage m_letters m_row m_refused m_letterMany m_rowMany m_place m_numbers m_cost x49 (30 : Int32) r54 n55 g56) (cwV 1 hts gX2_lots_X2_drawn rfl rfl rfl hd_X2_drawn ⟨Nat.le_of_ble_eq_true rfl, Nat.le_of_ble_eq_true rfl⟩) hK hP hD hS hA (zb_sM) (q0 := 0) rfl rfl rfl hl.1 rfl (Nat.le_of_ble_eq_true rfl) dX2_lots_96 ⟨Nat.le_refl _, Nat.le_refl _⟩ (fun H locs hP hD hS => ?_)
                    obtain ⟨h57, h⟩ := it_g h
                    refine va_iast hx hb hK.1 hP hD hS 2 0 rfl rfl h57 dX2_lots_99 (fun H locs hP hD hS => ?_)
                    have hP : va_P D zb_cl (zb_M cI ad m_s (upd x48 r52.toNatClampNeg r54) m_image m_was m_hasImage m_letters m_row m_refused m_letterMany m_rowMany m_place m_numbers m_cost n55) H := hP
                    have hD : va_D A (zb_M cI ad m_s (upd x48 r52.toNatClampNeg r54) m_image m_was m_hasImage m_letters m_row m_refused m_letterMany m_rowMany m_place m_numbers m_cost n55) := hD
                    refine lv_aload_n hx hb dX2_lots_100 rfl (lv_at hl 0 rfl) ?_
                    refine va_get (D := D) (ci := 2) (v := .ref (ad 2)) (C := RX2) (T := TX2) (N := 14) hx hb hts zi_X2_lots_X2 hown hK.1 hP 0 rfl rfl 1 (by decide) (hts _ zk_X2_lots_2) (fun _ h9 => h9) rfl dX2_lots_101 ?_
                    refine lv_iload hx hb dX2_lots_104 (lv_at hl 5 rfl) ?_
                    refine lv_iconst (v := (1 : Int32)) hx hb dX2_lots_106 (by decide) ?_
                    obtain ⟨r58, g59, h⟩ := bo1 h
                    refine zb_callS (As := [.int x47, .int (1 : Int32)]) (rest := [.ref (ad 2)]) ⟨hx, hb, hml, hown, hts⟩ (zc_X2_of l D cI x47 (1 : Int32) r58 g59) (va_cwS 2 hts gX2_lots_X2_of rfl rfl rfl hd_X2_of.2 ⟨Nat.le_of_ble_eq_true rfl, Nat.le_of_ble_eq_true rfl⟩) hK hP hD hS hA (zb_none _) rfl hl.1 rfl (Nat.le_of_ble_eq_true rfl) dX2_lots_107 ⟨Nat.le_refl _, Nat.le_refl _⟩ (fun H locs hP hD hS => ?_)
                    refine lv_aload_n hx hb dX2_lots_110 rfl (lv_at hl 0 rfl) ?_
                    refine lv_iconst (v := (4 : Int32)) hx hb dX2_lots_111 (by decide) ?_
                    obtain ⟨r60, n61, g62, h⟩ := bo2 h
                    refine zb_callV (As := [.int (4 : Int32)]) (rest := [.int r58, .ref (ad 2)]) ⟨hx, hb, hml, hown, hts⟩ (zc_X2_drawn l D cI ad m_s (upd x48 r52.toNatClampNeg r54) m_image m_was m_hasImage m_letters m_row m_refused m_letterMany m_rowMany m_place m_numbers m_cost n55 (4 : Int32) r60 n61 g62) (cwV 1 hts gX2_lots_X2_drawn rfl rfl rfl hd_X2_drawn ⟨Nat.le_of_ble_eq_true rfl, Nat.le_of_ble_eq_true rfl⟩) hK hP hD hS hA (zb_sM) (q0 := 0) rfl rfl rfl hl.1 rfl (Nat.le_of_ble_eq_true rfl) dX2_lots_112 ⟨Nat.le_refl _, Nat.le_refl _⟩ (fun H locs hP hD hS => ?_)
                    obtain ⟨h63, h⟩ := it_g h
                    refine va_iast hx hb hK.1 hP hD hS 2 0 rfl rfl h63 dX2_lots_115 (fun H locs hP hD hS => ?_)
                    have hP : va_P D zb_cl (zb_M cI ad m_s (upd (upd x48 r52.toNatClampNeg r54) r58.toNatClampNeg r60) m_image m_was m_hasImage m_letters m_row m_refused m_letterMany m_rowMany m_place m_numbers m_cost n61) H := hP
                    have hD : va_D A (zb_M cI ad m_s (upd (upd x48 r52.toNatClampNeg r54) r58.toNatClampNeg r60) m_image m_was m_hasImage m_letters m_row m_refused m_letterMany m_rowMany m_place m_numbers m_cost n61) := hD
                    refine lv_iinc (v := (x47 + (1 : Int32))) (lv' := [(6, .int (x47 + (1 : Int32))), (0, .ref (ad 0)), (1, .int v1), (3, .int v3), (4, .int x6), (5, .int x7)]) hx hb dX2_lots_116 hl (k := 5) rfl (by first | rfl | decide) (by decide) rfl (fun ls hl => ?_)
                    refine lv_goto (tgt := 72) hx hb dX2_lots_119 (by decide) ?_
                    exact ih50 (x47 + (1 : Int32)) (upd (upd x48 r52.toNatClampNeg r54) r58.toNatClampNeg r60) n61 _ _ hP hD hS ls (lv_sub hl [1, 2, 3, 4, 5, 0] rfl) h
              exact lp50 zb_FU (0 : Int32) n45 x9 _ _ hP hD hS ls (lv_sub hl [1, 2, 3, 4, 5, 0] rfl) h
        exact lp10 zb_FU (0 : Int32) (0 : Int32) m_m v2 _ _ hP hD hS ls (lv_sub hl [2, 3, 5, 1, 0] rfl) h
      · replace h := it_t c5 h
        refine lv_aload_n hx hb dX2_lots_34 rfl (lv_at hl 0 rfl) ?_
        refine lv_bipush (v := ((-2) : Int32)) hx hb dX2_lots_35 (by decide) ?_
        obtain ⟨r64, n65, g66, h⟩ := bo2 h
        refine zb_callV (As := [.int ((-2) : Int32)]) (rest := []) ⟨hx, hb, hml, hown, hts⟩ (zc_X2_no l D cI ad m_s m_m m_image m_was m_hasImage m_letters m_row m_refused m_letterMany m_rowMany m_place m_numbers m_cost m_seed ((-2) : Int32) r64 n65 g66) (cwV 1 hts gX2_lots_X2_no rfl rfl rfl hd_X2_no ⟨Nat.le_of_ble_eq_true rfl, Nat.le_of_ble_eq_true rfl⟩) hK hP hD hS hA (zb_sM) (q0 := 0) rfl rfl rfl hl.1 rfl (Nat.le_of_ble_eq_true rfl) dX2_lots_37 ⟨Nat.le_refl _, Nat.le_refl _⟩ (fun H locs hP hD hS => ?_)
        obtain ⟨rfl, rfl, rfl, rfl⟩ := re4 h
        exact zb_iret hx hb hr hlk hP hS dX2_lots_40
    · replace h := it_f c2 h
      refine lv_aload_n hx hb dX2_lots_18 rfl (lv_at hl 0 rfl) ?_
      refine lv_bipush (v := ((-6) : Int32)) hx hb dX2_lots_19 (by decide) ?_
      obtain ⟨r67, n68, g69, h⟩ := bo2 h
      refine zb_callV (As := [.int ((-6) : Int32)]) (rest := []) ⟨hx, hb, hml, hown, hts⟩ (zc_X2_no l D cI ad m_s m_m m_image m_was m_hasImage m_letters m_row m_refused m_letterMany m_rowMany m_place m_numbers m_cost m_seed ((-6) : Int32) r67 n68 g69) (cwV 1 hts gX2_lots_X2_no rfl rfl rfl hd_X2_no ⟨Nat.le_of_ble_eq_true rfl, Nat.le_of_ble_eq_true rfl⟩) hK hP hD hS hA (zb_sM) (q0 := 0) rfl rfl rfl hl.1 rfl (Nat.le_of_ble_eq_true rfl) dX2_lots_21 ⟨Nat.le_refl _, Nat.le_refl _⟩ (fun H locs hP hD hS => ?_)
      obtain ⟨rfl, rfl, rfl, rfl⟩ := re4 h
      exact zb_iret hx hb hr hlk hP hS dX2_lots_24
  · replace h := it_f c1 h
    refine lv_aload_n hx hb dX2_lots_5 rfl (lv_at hl 0 rfl) ?_
    refine lv_bipush (v := ((-4) : Int32)) hx hb dX2_lots_6 (by decide) ?_
    obtain ⟨r70, n71, g72, h⟩ := bo2 h
    refine zb_callV (As := [.int ((-4) : Int32)]) (rest := []) ⟨hx, hb, hml, hown, hts⟩ (zc_X2_no l D cI ad m_s m_m m_image m_was m_hasImage m_letters m_row m_refused m_letterMany m_rowMany m_place m_numbers m_cost m_seed ((-4) : Int32) r70 n71 g72) (cwV 1 hts gX2_lots_X2_no rfl rfl rfl hd_X2_no ⟨Nat.le_of_ble_eq_true rfl, Nat.le_of_ble_eq_true rfl⟩) hK hP hD hS hA (zb_sM) (q0 := 0) rfl rfl rfl hl.1 rfl (Nat.le_of_ble_eq_true rfl) dX2_lots_8 ⟨Nat.le_refl _, Nat.le_refl _⟩ (fun H locs hP hD hS => ?_)
    obtain ⟨rfl, rfl, rfl, rfl⟩ := re4 h
    exact zb_iret hx hb hr hlk hP hS dX2_lots_11
abbrev rm_X2_image : Room := { frames := 1, cells := 0, slots := 0, locals := 22 }
theorem hd_X2_image : yX2_image.cls = RX2 ∧ yX2_image.cls ≠ "java/lang/invoke/MethodHandle" ∧ yX2_image.cls ≠ "java/lang/invoke/VarHandle" ∧ (parseMethodDescriptor yX2_image.desc).map (fun d => d.parameters.length) = some 0 := by decide +kernel
theorem zi_X2_image_X2 : ∀ w ∈ wsX20, w ∈ wsX2_image := fun _ h => List.mem_cons_of_mem _ (List.mem_append_right _ h)
theorem zk_X2_image_0 : Cond.fieldLink RX2 9 "GroutingIsFollowedModel" "s" "[I" ∈ wsX2_image := by decide +kernel
theorem zk_X2_image_1 : Cond.fieldLink RX2 16 "GroutingIsFollowedModel" "image" "[I" ∈ wsX2_image := by decide +kernel
theorem zk_X2_image_2 : Cond.fieldLink RX2 228 "GroutingIsFollowedModel" "hasImage" "Z" ∈ wsX2_image := by decide +kernel
set_option maxHeartbeats 4000000 in
set_option maxRecDepth 100000 in
theorem zc_X2_image (l : Launch) (D : va_G) (cI : ClassId) (ad : Nat → Nat) (m_s : (Nat → Int32)) (m_m : (Nat → Int32)) (m_image : (Nat → Int32)) (m_was : (Nat → Int32)) (m_hasImage : Int32) (m_letters : (Nat → Int32)) (m_row : (Nat → Int32)) (m_refused : (Nat → Int32)) (m_letterMany : Int32) (m_rowMany : Int32) (m_place : Int32) (m_numbers : (Nat → Int32)) (m_cost : (Nat → Int32)) (m_seed : Int32) (r0 : Int32) (w_m_image : (Nat → Int32)) (w_m_hasImage : Int32) (h : zf_X2_image m_s m_image m_hasImage = some (r0, w_m_image, w_m_hasImage)) : Cn l D cI yX2_image wsX2_image rm_X2_image [.ref (ad 0)] (zb_M cI ad m_s m_m m_image m_was m_hasImage m_letters m_row m_refused m_letterMany m_rowMany m_place m_numbers m_cost m_seed) (some (.int r0)) (zb_M cI ad m_s m_m w_m_image m_was w_m_hasImage m_letters m_row m_refused m_letterMany m_rowMany m_place m_numbers m_cost m_seed) := by
  refine zb_ofW (cc := cX2_image) (maxL := 1) (ret := (some .int)) (by decide) rfl (Nat.le_of_ble_eq_true rfl) ?_
  intro p e s m args below meth c A ls hx hb hr hml hts hown hlk hK hP hD hA hl
  have hS : va_S A s.heap s.heap [] := va_S.rf
  have hl : lv_has ls 1 [(0, .ref (ad 0))] := hl
  unfold zf_X2_image at h
  refine lv_aload_n hx hb dX2_image_0 rfl (lv_at hl 0 rfl) ?_
  refine va_get (D := D) (ci := 2) (v := .ref (ad 1)) (C := RX2) (T := TX2) (N := 14) hx hb hts zi_X2_image_X2 hown hK.1 hP 0 rfl rfl 0 (by decide) (hts _ zk_X2_image_0) (fun _ h9 => h9) rfl dX2_image_1 ?_
  refine lv_aload_n hx hb dX2_image_4 rfl (lv_at hl 0 rfl) ?_
  refine va_get (D := D) (ci := 2) (v := .ref (ad 3)) (C := RX2) (T := TX2) (N := 14) hx hb hts zi_X2_image_X2 hown hK.1 hP 0 rfl rfl 2 (by decide) (hts _ zk_X2_image_1) (fun _ h9 => h9) rfl dX2_image_5 ?_
  obtain ⟨n1, g2, h⟩ := bo1 h
  refine zb_callS (As := [.ref (ad 1), .ref (ad 3)]) (rest := []) ⟨hx, hb, hml, hown, hts⟩ (zc_X2_copies l D cI (ad 1) (ad 3) m_s m_image n1 g2) (va_cwS 2 hts gX2_image_X2_copies rfl rfl rfl hd_X2_copies.2 ⟨Nat.le_of_ble_eq_true rfl, Nat.le_of_ble_eq_true rfl⟩) hK hP hD hS hA (zb_cM_s_image) rfl hl.1 rfl (Nat.le_of_ble_eq_true rfl) dX2_image_8 ⟨Nat.le_refl _, Nat.le_refl _⟩ (fun H locs hP hD hS => ?_)
  refine lv_aload_n hx hb dX2_image_11 rfl (lv_at hl 0 rfl) ?_
  refine lv_iconst (v := (1 : Int32)) hx hb dX2_image_12 (by decide) ?_
  refine va_put (D := D) (ci := 2) (v := .int (1 : Int32)) (ty := .boolean) (C := RX2) (T := TX2) (N := 14) hx hb hts zi_X2_image_X2 tyX2 tyX2_ok nmX2 hown hK.1 hP hD hS 0 rfl rfl 4 (by decide) (hts _ zk_X2_image_2) (fun _ h9 => h9) rfl (by decide +kernel) rfl rfl (Nat.le_of_ble_eq_true rfl) dX2_image_13 (fun H locs hP hD hS => ?_)
  have hP : va_P D zb_cl (zb_M cI ad m_s m_m n1 m_was (1 : Int32) m_letters m_row m_refused m_letterMany m_rowMany m_place m_numbers m_cost m_seed) H := hP
  have hD : va_D A (zb_M cI ad m_s m_m n1 m_was (1 : Int32) m_letters m_row m_refused m_letterMany m_rowMany m_place m_numbers m_cost m_seed) := hD
  refine lv_aload_n hx hb dX2_image_16 rfl (lv_at hl 0 rfl) ?_
  refine va_get (D := D) (ci := 2) (v := .ref (ad 1)) (C := RX2) (T := TX2) (N := 14) hx hb hts zi_X2_image_X2 hown hK.1 hP 0 rfl rfl 0 (by decide) (hts _ zk_X2_image_0) (fun _ h9 => h9) rfl dX2_image_17 ?_
  refine lv_iconst (v := (1 : Int32)) hx hb dX2_image_20 (by decide) ?_
  refine va_iald hx hb hK.1 hP 1 0 rfl rfl (vl_in (by decide)) dX2_image_21 ?_
  obtain ⟨rfl, rfl, rfl⟩ := re3 h
  exact zb_iret hx hb hr hlk hP hS dX2_image_22
abbrev rm_X2_on : Room := { frames := 1, cells := 0, slots := 0, locals := 22 }
theorem hd_X2_on : yX2_on.cls = RX2 ∧ yX2_on.cls ≠ "java/lang/invoke/MethodHandle" ∧ yX2_on.cls ≠ "java/lang/invoke/VarHandle" ∧ (parseMethodDescriptor yX2_on.desc).map (fun d => d.parameters.length) = some 0 := by decide +kernel
theorem zi_X2_on_X2 : ∀ w ∈ wsX20, w ∈ wsX2_on := fun _ h => List.mem_cons_of_mem _ (List.mem_append_right _ h)
theorem zk_X2_on_0 : Cond.fieldLink RX2 228 "GroutingIsFollowedModel" "hasImage" "Z" ∈ wsX2_on := by decide +kernel
theorem zk_X2_on_1 : Cond.fieldLink RX2 16 "GroutingIsFollowedModel" "image" "[I" ∈ wsX2_on := by decide +kernel
theorem zk_X2_on_2 : Cond.fieldLink RX2 9 "GroutingIsFollowedModel" "s" "[I" ∈ wsX2_on := by decide +kernel
set_option maxHeartbeats 4000000 in
set_option maxRecDepth 100000 in
theorem zc_X2_on (l : Launch) (D : va_G) (cI : ClassId) (ad : Nat → Nat) (m_s : (Nat → Int32)) (m_m : (Nat → Int32)) (m_image : (Nat → Int32)) (m_was : (Nat → Int32)) (m_hasImage : Int32) (m_letters : (Nat → Int32)) (m_row : (Nat → Int32)) (m_refused : (Nat → Int32)) (m_letterMany : Int32) (m_rowMany : Int32) (m_place : Int32) (m_numbers : (Nat → Int32)) (m_cost : (Nat → Int32)) (m_seed : Int32) (r0 : Int32) (w_m_s : (Nat → Int32)) (w_m_refused : (Nat → Int32)) (h : zf_X2_on m_s m_image m_hasImage m_refused = some (r0, w_m_s, w_m_refused)) : Cn l D cI yX2_on wsX2_on rm_X2_on [.ref (ad 0)] (zb_M cI ad m_s m_m m_image m_was m_hasImage m_letters m_row m_refused m_letterMany m_rowMany m_place m_numbers m_cost m_seed) (some (.int r0)) (zb_M cI ad w_m_s m_m m_image m_was m_hasImage m_letters m_row w_m_refused m_letterMany m_rowMany m_place m_numbers m_cost m_seed) := by
  refine zb_ofW (cc := cX2_on) (maxL := 1) (ret := (some .int)) (by decide) rfl (Nat.le_of_ble_eq_true rfl) ?_
  intro p e s m args below meth c A ls hx hb hr hml hts hown hlk hK hP hD hA hl
  have hS : va_S A s.heap s.heap [] := va_S.rf
  have hl : lv_has ls 1 [(0, .ref (ad 0))] := hl
  unfold zf_X2_on at h
  refine lv_aload_n hx hb dX2_on_0 rfl (lv_at hl 0 rfl) ?_
  refine va_get (D := D) (ci := 2) (v := .int m_hasImage) (C := RX2) (T := TX2) (N := 14) hx hb hts zi_X2_on_X2 hown hK.1 hP 0 rfl rfl 4 (by decide) (hts _ zk_X2_on_0) (fun _ h9 => h9) rfl dX2_on_1 ?_
  refine lv_if_ne (tgt := 14) hx hb dX2_on_4 (by decide) (fun c1 => ?_) (fun c1 => ?_)
  · replace h := it_f c1 h
    refine lv_aload_n hx hb dX2_on_14 rfl (lv_at hl 0 rfl) ?_
    refine va_get (D := D) (ci := 2) (v := .ref (ad 3)) (C := RX2) (T := TX2) (N := 14) hx hb hts zi_X2_on_X2 hown hK.1 hP 0 rfl rfl 2 (by decide) (hts _ zk_X2_on_1) (fun _ h9 => h9) rfl dX2_on_15 ?_
    refine lv_aload_n hx hb dX2_on_18 rfl (lv_at hl 0 rfl) ?_
    refine va_get (D := D) (ci := 2) (v := .ref (ad 1)) (C := RX2) (T := TX2) (N := 14) hx hb hts zi_X2_on_X2 hown hK.1 hP 0 rfl rfl 0 (by decide) (hts _ zk_X2_on_2) (fun _ h9 => h9) rfl dX2_on_19 ?_
    obtain ⟨n2, g3, h⟩ := bo1 h
    refine zb_callS (As := [.ref (ad 3), .ref (ad 1)]) (rest := []) ⟨hx, hb, hml, hown, hts⟩ (zc_X2_copies l D cI (ad 3) (ad 1) m_image m_s n2 g3) (va_cwS 2 hts gX2_on_X2_copies rfl rfl rfl hd_X2_copies.2 ⟨Nat.le_of_ble_eq_true rfl, Nat.le_of_ble_eq_true rfl⟩) hK hP hD hS hA (zb_cM_image_s) rfl hl.1 rfl (Nat.le_of_ble_eq_true rfl) dX2_on_22 ⟨Nat.le_refl _, Nat.le_refl _⟩ (fun H locs hP hD hS => ?_)
    refine lv_aload_n hx hb dX2_on_25 rfl (lv_at hl 0 rfl) ?_
    refine va_get (D := D) (ci := 2) (v := .ref (ad 1)) (C := RX2) (T := TX2) (N := 14) hx hb hts zi_X2_on_X2 hown hK.1 hP 0 rfl rfl 0 (by decide) (hts _ zk_X2_on_2) (fun _ h9 => h9) rfl dX2_on_26 ?_
    refine lv_iconst (v := (1 : Int32)) hx hb dX2_on_29 (by decide) ?_
    refine va_iald hx hb hK.1 hP 1 0 rfl rfl (vl_in (by decide)) dX2_on_30 ?_
    obtain ⟨rfl, rfl, rfl⟩ := re3 h
    exact zb_iret hx hb hr hlk hP hS dX2_on_31
  · replace h := it_t c1 h
    refine lv_aload_n hx hb dX2_on_7 rfl (lv_at hl 0 rfl) ?_
    refine lv_bipush (v := ((-3) : Int32)) hx hb dX2_on_8 (by decide) ?_
    obtain ⟨r4, n5, g6, h⟩ := bo2 h
    refine zb_callV (As := [.int ((-3) : Int32)]) (rest := []) ⟨hx, hb, hml, hown, hts⟩ (zc_X2_no l D cI ad m_s m_m m_image m_was m_hasImage m_letters m_row m_refused m_letterMany m_rowMany m_place m_numbers m_cost m_seed ((-3) : Int32) r4 n5 g6) (cwV 1 hts gX2_on_X2_no rfl rfl rfl hd_X2_no ⟨Nat.le_of_ble_eq_true rfl, Nat.le_of_ble_eq_true rfl⟩) hK hP hD hS hA (zb_sM) (q0 := 0) rfl rfl rfl hl.1 rfl (Nat.le_of_ble_eq_true rfl) dX2_on_10 ⟨Nat.le_refl _, Nat.le_refl _⟩ (fun H locs hP hD hS => ?_)
    obtain ⟨rfl, rfl, rfl⟩ := re3 h
    exact zb_iret hx hb hr hlk hP hS dX2_on_13
abbrev rm_X2_count : Room := { frames := 2, cells := 0, slots := 0, locals := 45 }
theorem hd_X2_count : yX2_count.cls = RX2 ∧ yX2_count.cls ≠ "java/lang/invoke/MethodHandle" ∧ yX2_count.cls ≠ "java/lang/invoke/VarHandle" ∧ (parseMethodDescriptor yX2_count.desc).map (fun d => d.parameters.length) = some 1 := by decide +kernel
theorem zi_X2_count_X2 : ∀ w ∈ wsX20, w ∈ wsX2_count := fun _ h => List.mem_cons_of_mem _ (List.mem_append_right _ h)
theorem zk_X2_count_0 : Cond.fieldLink RX2 28 "GroutingIsFollowedModel" "refused" "[I" ∈ wsX2_count := by decide +kernel
theorem zk_X2_count_1 : Cond.fieldLink RX2 85 "GroutingIsFollowedModel" "letterMany" "I" ∈ wsX2_count := by decide +kernel
theorem zk_X2_count_2 : Cond.fieldLink RX2 213 "GroutingIsFollowedModel" "rowMany" "I" ∈ wsX2_count := by decide +kernel
theorem zk_X2_count_3 : Cond.fieldLink RX2 9 "GroutingIsFollowedModel" "s" "[I" ∈ wsX2_count := by decide +kernel
set_option maxHeartbeats 4000000 in
set_option maxRecDepth 100000 in
theorem zc_X2_count (l : Launch) (D : va_G) (cI : ClassId) (ad : Nat → Nat) (m_s : (Nat → Int32)) (m_m : (Nat → Int32)) (m_image : (Nat → Int32)) (m_was : (Nat → Int32)) (m_hasImage : Int32) (m_letters : (Nat → Int32)) (m_row : (Nat → Int32)) (m_refused : (Nat → Int32)) (m_letterMany : Int32) (m_rowMany : Int32) (m_place : Int32) (m_numbers : (Nat → Int32)) (m_cost : (Nat → Int32)) (m_seed : Int32) (v1 : Int32) (r0 : Int32) (h : zf_X2_count m_s m_refused m_letterMany m_rowMany v1 = some r0) : Cn l D cI yX2_count wsX2_count rm_X2_count [.ref (ad 0), .int v1] (zb_M cI ad m_s m_m m_image m_was m_hasImage m_letters m_row m_refused m_letterMany m_rowMany m_place m_numbers m_cost m_seed) (some (.int r0)) (zb_M cI ad m_s m_m m_image m_was m_hasImage m_letters m_row m_refused m_letterMany m_rowMany m_place m_numbers m_cost m_seed) := by
  refine zb_ofW (cc := cX2_count) (maxL := 2) (ret := (some .int)) (by decide) rfl (Nat.le_of_ble_eq_true rfl) ?_
  intro p e s m args below meth c A ls hx hb hr hml hts hown hlk hK hP hD hA hl
  have hS : va_S A s.heap s.heap [] := va_S.rf
  have hl : lv_has ls 2 [(0, .ref (ad 0)), (1, .int v1)] := hl
  unfold zf_X2_count at h
  refine lv_iload_n hx hb dX2_count_0 rfl (lv_at hl 1 rfl) ?_
  refine lv_bipush (v := (11 : Int32)) hx hb dX2_count_1 (by decide) ?_
  refine lv_bipush (v := (16 : Int32)) hx hb dX2_count_3 (by decide) ?_
  obtain ⟨r1, g2, h⟩ := bo1 h
  refine zb_callS (As := [.int v1, .int (11 : Int32), .int (16 : Int32)]) (rest := []) ⟨hx, hb, hml, hown, hts⟩ (zc_X2_isIn l D cI v1 (11 : Int32) (16 : Int32) r1 g2) (va_cwS 3 hts gX2_count_X2_isIn rfl rfl rfl hd_X2_isIn.2 ⟨Nat.le_of_ble_eq_true rfl, Nat.le_of_ble_eq_true rfl⟩) hK hP hD hS hA (zb_none _) rfl hl.1 rfl (Nat.le_of_ble_eq_true rfl) dX2_count_5 ⟨Nat.le_refl _, Nat.le_refl _⟩ (fun H locs hP hD hS => ?_)
  refine lv_if_eq (tgt := 21) hx hb dX2_count_8 (by decide) (fun c3 => ?_) (fun c3 => ?_)
  · replace h := it_t c3 h
    refine lv_iload_n hx hb dX2_count_21 rfl (lv_at hl 1 rfl) ?_
    by_cases c4 : v1 = (0 : Int32)
    · replace h := it_t c4 h
      have e9 : v1.toInt = 0 := by rw [c4]; rfl
      refine lv_tableIn (tgt := 68) hx hb dX2_count_22 (by rw [e9]; decide) (by rw [e9]; decide) (by rw [e9]; rfl) (by decide) ?_
      refine lv_aload_n hx hb dX2_count_68 rfl (lv_at hl 0 rfl) ?_
      refine va_get (D := D) (ci := 2) (v := .ref (ad 1)) (C := RX2) (T := TX2) (N := 14) hx hb hts zi_X2_count_X2 hown hK.1 hP 0 rfl rfl 0 (by decide) (hts _ zk_X2_count_3) (fun _ h9 => h9) rfl dX2_count_69 ?_
      refine lv_iload_n hx hb dX2_count_72 rfl (lv_at hl 1 rfl) ?_
      obtain ⟨h5, h⟩ := it_g h
      refine va_iald hx hb hK.1 hP 1 0 rfl rfl h5 dX2_count_73 ?_
      obtain rfl := re1 h
      exact zb_iret hx hb hr hlk hP hS dX2_count_74
    replace h := it_f c4 h
    by_cases c6 : v1 = (1 : Int32)
    · replace h := it_t c6 h
      have e9 : v1.toInt = 1 := by rw [c6]; rfl
      refine lv_tableIn (tgt := 68) hx hb dX2_count_22 (by rw [e9]; decide) (by rw [e9]; decide) (by rw [e9]; rfl) (by decide) ?_
      refine lv_aload_n hx hb dX2_count_68 rfl (lv_at hl 0 rfl) ?_
      refine va_get (D := D) (ci := 2) (v := .ref (ad 1)) (C := RX2) (T := TX2) (N := 14) hx hb hts zi_X2_count_X2 hown hK.1 hP 0 rfl rfl 0 (by decide) (hts _ zk_X2_count_3) (fun _ h9 => h9) rfl dX2_count_69 ?_
      refine lv_iload_n hx hb dX2_count_72 rfl (lv_at hl 1 rfl) ?_
      obtain ⟨h7, h⟩ := it_g h
      refine va_iald hx hb hK.1 hP 1 0 rfl rfl h7 dX2_count_73 ?_
      obtain rfl := re1 h
      exact zb_iret hx hb hr hlk hP hS dX2_count_74
    replace h := it_f c6 h
    by_cases c8 : v1 = (2 : Int32)
    · replace h := it_t c8 h
      have e9 : v1.toInt = 2 := by rw [c8]; rfl
      refine lv_tableIn (tgt := 75) hx hb dX2_count_22 (by rw [e9]; decide) (by rw [e9]; decide) (by rw [e9]; rfl) (by decide) ?_
      refine lv_aload_n hx hb dX2_count_75 rfl (lv_at hl 0 rfl) ?_
      refine va_get (D := D) (ci := 2) (v := .ref (ad 1)) (C := RX2) (T := TX2) (N := 14) hx hb hts zi_X2_count_X2 hown hK.1 hP 0 rfl rfl 0 (by decide) (hts _ zk_X2_count_3) (fun _ h9 => h9) rfl dX2_count_76 ?_
      obtain ⟨r9, g10, h⟩ := bo1 h
      refine zb_callS (As := [.ref (ad 1)]) (rest := []) ⟨hx, hb, hml, hown, hts⟩ (zc_X2_allWet l D cI (ad 1) m_s r9 g10) (va_cwS 1 hts gX2_count_X2_allWet rfl rfl rfl hd_X2_allWet.2 ⟨Nat.le_of_ble_eq_true rfl, Nat.le_of_ble_eq_true rfl⟩) hK hP hD hS hA (zb_cM_s) rfl hl.1 rfl (Nat.le_of_ble_eq_true rfl) dX2_count_79 ⟨Nat.le_refl _, Nat.le_refl _⟩ (fun H locs hP hD hS => ?_)
      obtain rfl := re1 h
      exact zb_iret hx hb hr hlk hP hS dX2_count_82
    replace h := it_f c8 h
    by_cases c11 : v1 = (3 : Int32)
    · replace h := it_t c11 h
      have e9 : v1.toInt = 3 := by rw [c11]; rfl
      refine lv_tableIn (tgt := 83) hx hb dX2_count_22 (by rw [e9]; decide) (by rw [e9]; decide) (by rw [e9]; rfl) (by decide) ?_
      refine lv_aload_n hx hb dX2_count_83 rfl (lv_at hl 0 rfl) ?_
      refine va_get (D := D) (ci := 2) (v := .ref (ad 1)) (C := RX2) (T := TX2) (N := 14) hx hb hts zi_X2_count_X2 hown hK.1 hP 0 rfl rfl 0 (by decide) (hts _ zk_X2_count_3) (fun _ h9 => h9) rfl dX2_count_84 ?_
      obtain ⟨r12, g13, h⟩ := bo1 h
      refine zb_callS (As := [.ref (ad 1)]) (rest := []) ⟨hx, hb, hml, hown, hts⟩ (zc_X2_allHelped l D cI (ad 1) m_s r12 g13) (va_cwS 1 hts gX2_count_X2_allHelped rfl rfl rfl hd_X2_allHelped.2 ⟨Nat.le_of_ble_eq_true rfl, Nat.le_of_ble_eq_true rfl⟩) hK hP hD hS hA (zb_cM_s) rfl hl.1 rfl (Nat.le_of_ble_eq_true rfl) dX2_count_87 ⟨Nat.le_refl _, Nat.le_refl _⟩ (fun H locs hP hD hS => ?_)
      obtain rfl := re1 h
      exact zb_iret hx hb hr hlk hP hS dX2_count_90
    replace h := it_f c11 h
    by_cases c14 : v1 = (4 : Int32)
    · replace h := it_t c14 h
      have e9 : v1.toInt = 4 := by rw [c14]; rfl
      refine lv_tableIn (tgt := 91) hx hb dX2_count_22 (by rw [e9]; decide) (by rw [e9]; decide) (by rw [e9]; rfl) (by decide) ?_
      refine lv_aload_n hx hb dX2_count_91 rfl (lv_at hl 0 rfl) ?_
      obtain ⟨r15, g16, h⟩ := bo1 h
      refine zb_callV (As := []) (rest := []) ⟨hx, hb, hml, hown, hts⟩ (zc_X2_dryOnes l D cI ad m_s m_m m_image m_was m_hasImage m_letters m_row m_refused m_letterMany m_rowMany m_place m_numbers m_cost m_seed r15 g16) (cwV 0 hts gX2_count_X2_dryOnes rfl rfl rfl hd_X2_dryOnes ⟨Nat.le_of_ble_eq_true rfl, Nat.le_of_ble_eq_true rfl⟩) hK hP hD hS hA (zb_sM) (q0 := 0) rfl rfl rfl hl.1 rfl (Nat.le_of_ble_eq_true rfl) dX2_count_92 ⟨Nat.le_refl _, Nat.le_refl _⟩ (fun H locs hP hD hS => ?_)
      obtain rfl := re1 h
      exact zb_iret hx hb hr hlk hP hS dX2_count_95
    replace h := it_f c14 h
    by_cases c17 : v1 = (5 : Int32)
    · replace h := it_t c17 h
      have e9 : v1.toInt = 5 := by rw [c17]; rfl
      refine lv_tableIn (tgt := 96) hx hb dX2_count_22 (by rw [e9]; decide) (by rw [e9]; decide) (by rw [e9]; rfl) (by decide) ?_
      refine lv_aload_n hx hb dX2_count_96 rfl (lv_at hl 0 rfl) ?_
      refine va_get (D := D) (ci := 2) (v := .ref (ad 1)) (C := RX2) (T := TX2) (N := 14) hx hb hts zi_X2_count_X2 hown hK.1 hP 0 rfl rfl 0 (by decide) (hts _ zk_X2_count_3) (fun _ h9 => h9) rfl dX2_count_97 ?_
      refine lv_bipush (v := (33 : Int32)) hx hb dX2_count_100 (by decide) ?_
      refine lv_bipush (v := (30 : Int32)) hx hb dX2_count_102 (by decide) ?_
      refine lv_iconst (v := (1 : Int32)) hx hb dX2_count_104 (by decide) ?_
      obtain ⟨r18, g19, h⟩ := bo1 h
      refine zb_callS (As := [.ref (ad 1), .int (33 : Int32), .int (30 : Int32), .int (1 : Int32)]) (rest := []) ⟨hx, hb, hml, hown, hts⟩ (zc_X2_sumOf l D cI (ad 1) m_s (33 : Int32) (30 : Int32) (1 : Int32) r18 g19) (va_cwS 4 hts gX2_count_X2_sumOf rfl rfl rfl hd_X2_sumOf.2 ⟨Nat.le_of_ble_eq_true rfl, Nat.le_of_ble_eq_true rfl⟩) hK hP hD hS hA (zb_cM_s) rfl hl.1 rfl (Nat.le_of_ble_eq_true rfl) dX2_count_105 ⟨Nat.le_refl _, Nat.le_refl _⟩ (fun H locs hP hD hS => ?_)
      obtain rfl := re1 h
      exact zb_iret hx hb hr hlk hP hS dX2_count_108
    replace h := it_f c17 h
    by_cases c20 : v1 = (6 : Int32)
    · replace h := it_t c20 h
      have e9 : v1.toInt = 6 := by rw [c20]; rfl
      refine lv_tableIn (tgt := 109) hx hb dX2_count_22 (by rw [e9]; decide) (by rw [e9]; decide) (by rw [e9]; rfl) (by decide) ?_
      refine lv_aload_n hx hb dX2_count_109 rfl (lv_at hl 0 rfl) ?_
      refine va_get (D := D) (ci := 2) (v := .int m_rowMany) (C := RX2) (T := TX2) (N := 14) hx hb hts zi_X2_count_X2 hown hK.1 hP 0 rfl rfl 9 (by decide) (hts _ zk_X2_count_2) (fun _ h9 => h9) rfl dX2_count_110 ?_
      obtain rfl := re1 h
      exact zb_iret hx hb hr hlk hP hS dX2_count_113
    replace h := it_f c20 h
    by_cases c21 : v1 = (7 : Int32)
    · replace h := it_t c21 h
      have e9 : v1.toInt = 7 := by rw [c21]; rfl
      refine lv_tableIn (tgt := 114) hx hb dX2_count_22 (by rw [e9]; decide) (by rw [e9]; decide) (by rw [e9]; rfl) (by decide) ?_
      refine lv_aload_n hx hb dX2_count_114 rfl (lv_at hl 0 rfl) ?_
      refine va_get (D := D) (ci := 2) (v := .int m_letterMany) (C := RX2) (T := TX2) (N := 14) hx hb hts zi_X2_count_X2 hown hK.1 hP 0 rfl rfl 8 (by decide) (hts _ zk_X2_count_1) (fun _ h9 => h9) rfl dX2_count_115 ?_
      obtain rfl := re1 h
      exact zb_iret hx hb hr hlk hP hS dX2_count_118
    replace h := it_f c21 h
    have e_c4 := sw_ne (k := 0) rfl c4
    have e_c6 := sw_ne (k := 1) rfl c6
    have e_c8 := sw_ne (k := 2) rfl c8
    have e_c11 := sw_ne (k := 3) rfl c11
    have e_c14 := sw_ne (k := 4) rfl c14
    have e_c17 := sw_ne (k := 5) rfl c17
    have e_c20 := sw_ne (k := 6) rfl c20
    have e_c21 := sw_ne (k := 7) rfl c21
    refine lv_tableOut (tgt := 119) hx hb dX2_count_22 (by omega) (by decide) ?_
    refine lv_bipush (v := ((-9) : Int32)) hx hb dX2_count_119 (by decide) ?_
    obtain rfl := re1 h
    exact zb_iret hx hb hr hlk hP hS dX2_count_121
  · replace h := it_f c3 h
    refine lv_aload_n hx hb dX2_count_11 rfl (lv_at hl 0 rfl) ?_
    refine va_get (D := D) (ci := 2) (v := .ref (ad 7)) (C := RX2) (T := TX2) (N := 14) hx hb hts zi_X2_count_X2 hown hK.1 hP 0 rfl rfl 7 (by decide) (hts _ zk_X2_count_0) (fun _ h9 => h9) rfl dX2_count_12 ?_
    refine lv_iload_n hx hb dX2_count_15 rfl (lv_at hl 1 rfl) ?_
    refine lv_bipush (v := (10 : Int32)) hx hb dX2_count_16 (by decide) ?_
    refine lv_isub hx hb dX2_count_18 ?_
    obtain ⟨h22, h⟩ := it_g h
    refine va_iald hx hb hK.1 hP 7 0 rfl rfl h22 dX2_count_19 ?_
    obtain rfl := re1 h
    exact zb_iret hx hb hr hlk hP hS dX2_count_20
