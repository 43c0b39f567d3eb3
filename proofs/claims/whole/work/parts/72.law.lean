/-! the law's cases (laid by wip/gen/lawgen.py) -/
def zLS (D : va_G) (cI : ClassId) (ad bd : Nat → Nat) (A : Nat → Prop) (s : State) (H : Heap) (locs : List Loc) : Prop := ∃ (g_now : BT) (g_mind : BT) (g_taken : BT) (g_isTaken : Int32) (g_letters : (Nat → Int32)) (g_letterCount : Int32) (g_told : (Nat → Int32)) (g_toldCount : Int32) (g_refusals : (Nat → Int32)) (g_costs : (Nat → Int32)) (g_gains : (Nat → Int32)) (g_seed : Int32) (m_s : (Nat → Int32)) (m_m : (Nat → Int32)) (m_image : (Nat → Int32)) (m_was : (Nat → Int32)) (m_hasImage : Int32) (m_letters : (Nat → Int32)) (m_row : (Nat → Int32)) (m_refused : (Nat → Int32)) (m_letterMany : Int32) (m_rowMany : Int32) (m_place : Int32) (m_numbers : (Nat → Int32)) (m_cost : (Nat → Int32)) (m_seed : Int32), SR g_now g_taken g_isTaken g_letters g_letterCount g_told g_toldCount g_refusals m_s m_image m_hasImage m_letters m_row m_refused m_letterMany m_rowMany ∧ va_P D zb_cl (zb_G cI ad g_now g_mind g_taken g_isTaken g_letters g_letterCount g_told g_toldCount g_refusals g_costs g_gains g_seed ++ zb_M cI bd m_s m_m m_image m_was m_hasImage m_letters m_row m_refused m_letterMany m_rowMany m_place m_numbers m_cost m_seed) H ∧ va_D A (zb_G cI ad g_now g_mind g_taken g_isTaken g_letters g_letterCount g_told g_toldCount g_refusals g_costs g_gains g_seed ++ zb_M cI bd m_s m_m m_image m_was m_hasImage m_letters m_row m_refused m_letterMany m_rowMany m_place m_numbers m_cost m_seed) ∧ va_S A s.heap H locs
section LAW
variable {p : Program} {l : Launch} {e : Env} {s : State} {m : MethodId} {below : List Frame} {meth : Method} {c : Code} {b Ln : Nat} {xs : Nat → Int32} {D : va_G} {cI : ClassId} {aK aV ad bd : Nat → Nat} {A : Nat → Prop}
set_option maxHeartbeats 4000000 in
set_option maxRecDepth 100000 in
theorem lc_letter (hx : p.tables.exec = Jvm.exec) (hb : c.code = cL_law) (hml : c.maxLocals = 4) (hown : s.vm.findClass RL = some m.cls) (hts : ∀ w ∈ lw_tbl, w.before #[Value.ref b] s = true) (hX : va_X b Ln xs s s.heap) (hbl : b < s.heap.size) (hbA : ¬ A b) (hK : zb_K D cI s) (hE : zb_E aK aV A s s.heap) (hA : ∀ q, s.heap.size ≤ q → A q) {H : Heap} {locs : List Loc} {ls : Array Slot} {i : Nat} (hi : i + 6 ≤ Ln) (hLn : Ln ≤ 3072) (hl : lv_has ls 4 [(0, .ref b), (1, .ref (ad 0)), (2, .ref (bd 0)), (3, .int (nI i))]) (h : zLS D cI ad bd A s H locs) (kk : ∀ (H : Heap) (locs : List Loc), zLS D cI ad bd A s H locs → W p l e room_1 s m #[Value.ref b] below meth c H locs 37 1084 (lw_Z below #[Value.ref b] s) (F0 m 1292 ls [])) : W p l e room_1 s m #[Value.ref b] below meth c H locs 37 1084 (lw_Z below #[Value.ref b] s) (F0 m 192 ls []) := by
  obtain ⟨g_now, g_mind, g_taken, g_isTaken, g_letters, g_letterCount, g_told, g_toldCount, g_refusals, g_costs, g_gains, g_seed, m_s, m_m, m_image, m_was, m_hasImage, m_letters, m_row, m_refused, m_letterMany, m_rowMany, m_place, m_numbers, m_cost, m_seed, ⟨hRN, hRT, hRE, hRO, hRR⟩, hP, hD, hS⟩ := h
  have in1 : vp_in (nI i + (1 : Int32)) Ln := by rw [show (1 : Int32) = nI 1 from rfl, nI_add]; exact nI_in (by omega) (by omega)
  have SIM : Ok (fun a b => a.1 = b.1 ∧ RE a.2.1 a.2.2.1 b.2.1 b.2.2.2 ∧ RR a.2.2.2 b.2.2.1) (zf_X1_letter g_letters g_letterCount g_refusals (xs (nI i + 1).toNatClampNeg)) (zf_X2_letter m_letters m_refused m_letterMany (xs (nI i + 1).toNatClampNeg)) := sim_letter hRE hRR (xs (nI i + 1).toNatClampNeg)
  obtain ⟨⟨r0, w_g_letters, w_g_letterCount, w_g_refusals⟩, ⟨q0, y_m_letters, y_m_refused, y_m_letterMany⟩, f1, f2, e0, sRE, sRR⟩ := SIM
  try dsimp only at e0 sRE sRR
  refine lv_aload_n hx hb dL_law_192 rfl (lv_at hl 1 rfl) ?_
  refine lv_aload_n hx hb dL_law_193 rfl (lv_at hl 0 rfl) ?_
  refine lv_iload_n hx hb dL_law_194 rfl (lv_at hl 3 rfl) ?_
  refine lv_iconst (v := (1 : Int32)) hx hb dL_law_195 (by decide) ?_
  refine lv_iadd hx hb dL_law_196 ?_
  refine va_sld hx hb hX hbl hbA hS (in1) dL_law_197 ?_
  refine zb_callV (As := [.int (xs (nI i + 1).toNatClampNeg)]) (rest := []) ⟨hx, hb, hml, hown, hts⟩ (zc_X1_letter l D cI ad g_now g_mind g_taken g_isTaken g_letters g_letterCount g_told g_toldCount g_refusals g_costs g_gains g_seed (xs (nI i + 1).toNatClampNeg) r0 w_g_letters w_g_letterCount w_g_refusals f1) (cwV 1 hts gQ_X1_letter rfl rfl rfl hd_X1_letter ⟨Nat.le_of_ble_eq_true rfl, Nat.le_of_ble_eq_true rfl⟩) hK hP hD hS hA (zb_lG) (q0 := 0) rfl rfl rfl hl.1 rfl (Nat.le_of_ble_eq_true rfl) dL_law_198 ⟨Nat.le_refl _, Nat.le_refl _⟩ (fun H locs hP hD hS => ?_)
  have hP : va_P D zb_cl (zb_G cI ad g_now g_mind g_taken g_isTaken w_g_letters w_g_letterCount g_told g_toldCount w_g_refusals g_costs g_gains g_seed ++ zb_M cI bd m_s m_m m_image m_was m_hasImage m_letters m_row m_refused m_letterMany m_rowMany m_place m_numbers m_cost m_seed) H := hP
  have hD : va_D A (zb_G cI ad g_now g_mind g_taken g_isTaken w_g_letters w_g_letterCount g_told g_toldCount w_g_refusals g_costs g_gains g_seed ++ zb_M cI bd m_s m_m m_image m_was m_hasImage m_letters m_row m_refused m_letterMany m_rowMany m_place m_numbers m_cost m_seed) := hD
  refine lv_aload_n hx hb dL_law_201 rfl (lv_at hl 2 rfl) ?_
  refine lv_aload_n hx hb dL_law_202 rfl (lv_at hl 0 rfl) ?_
  refine lv_iload_n hx hb dL_law_203 rfl (lv_at hl 3 rfl) ?_
  refine lv_iconst (v := (1 : Int32)) hx hb dL_law_204 (by decide) ?_
  refine lv_iadd hx hb dL_law_205 ?_
  refine va_sld hx hb hX hbl hbA hS (in1) dL_law_206 ?_
  refine zb_callV (As := [.int (xs (nI i + 1).toNatClampNeg)]) (rest := [.int r0]) ⟨hx, hb, hml, hown, hts⟩ (zc_X2_letter l D cI bd m_s m_m m_image m_was m_hasImage m_letters m_row m_refused m_letterMany m_rowMany m_place m_numbers m_cost m_seed (xs (nI i + 1).toNatClampNeg) q0 y_m_letters y_m_refused y_m_letterMany f2) (cwV 1 hts gQ_X2_letter rfl rfl rfl hd_X2_letter ⟨Nat.le_of_ble_eq_true rfl, Nat.le_of_ble_eq_true rfl⟩) hK hP hD hS hA (zb_lM) (q0 := 0) rfl rfl rfl hl.1 rfl (Nat.le_of_ble_eq_true rfl) dL_law_207 ⟨Nat.le_refl _, Nat.le_refl _⟩ (fun H locs hP hD hS => ?_)
  have hP : va_P D zb_cl (zb_G cI ad g_now g_mind g_taken g_isTaken w_g_letters w_g_letterCount g_told g_toldCount w_g_refusals g_costs g_gains g_seed ++ zb_M cI bd m_s m_m m_image m_was m_hasImage y_m_letters m_row y_m_refused y_m_letterMany m_rowMany m_place m_numbers m_cost m_seed) H := hP
  have hD : va_D A (zb_G cI ad g_now g_mind g_taken g_isTaken w_g_letters w_g_letterCount g_told g_toldCount w_g_refusals g_costs g_gains g_seed ++ zb_M cI bd m_s m_m m_image m_was m_hasImage y_m_letters m_row y_m_refused y_m_letterMany m_rowMany m_place m_numbers m_cost m_seed) := hD
  have hLS : zLS D cI ad bd A s H locs := ⟨g_now, g_mind, g_taken, g_isTaken, w_g_letters, w_g_letterCount, g_told, g_toldCount, w_g_refusals, g_costs, g_gains, g_seed, m_s, m_m, m_image, m_was, m_hasImage, y_m_letters, m_row, y_m_refused, y_m_letterMany, m_rowMany, m_place, m_numbers, m_cost, m_seed, ⟨hRN, hRT, sRE, hRO, sRR⟩, hP, hD, hS⟩
  refine lv_icmp_eq (tgt := 1292) hx hb dL_law_210 (by decide) (fun _ => kk H locs hLS) (fun c9 => absurd e0 c9)
set_option maxHeartbeats 4000000 in
set_option maxRecDepth 100000 in
theorem lc_wall (hx : p.tables.exec = Jvm.exec) (hb : c.code = cL_law) (hml : c.maxLocals = 4) (hown : s.vm.findClass RL = some m.cls) (hts : ∀ w ∈ lw_tbl, w.before #[Value.ref b] s = true) (hX : va_X b Ln xs s s.heap) (hbl : b < s.heap.size) (hbA : ¬ A b) (hK : zb_K D cI s) (hE : zb_E aK aV A s s.heap) (hA : ∀ q, s.heap.size ≤ q → A q) {H : Heap} {locs : List Loc} {ls : Array Slot} {i : Nat} (hi : i + 6 ≤ Ln) (hLn : Ln ≤ 3072) (hl : lv_has ls 4 [(0, .ref b), (1, .ref (ad 0)), (2, .ref (bd 0)), (3, .int (nI i))]) (h : zLS D cI ad bd A s H locs) (kk : ∀ (H : Heap) (locs : List Loc), zLS D cI ad bd A s H locs → W p l e room_1 s m #[Value.ref b] below meth c H locs 37 1084 (lw_Z below #[Value.ref b] s) (F0 m 1292 ls [])) : W p l e room_1 s m #[Value.ref b] below meth c H locs 37 1084 (lw_Z below #[Value.ref b] s) (F0 m 215 ls []) := by
  obtain ⟨g_now, g_mind, g_taken, g_isTaken, g_letters, g_letterCount, g_told, g_toldCount, g_refusals, g_costs, g_gains, g_seed, m_s, m_m, m_image, m_was, m_hasImage, m_letters, m_row, m_refused, m_letterMany, m_rowMany, m_place, m_numbers, m_cost, m_seed, ⟨hRN, hRT, hRE, hRO, hRR⟩, hP, hD, hS⟩ := h
  have SIM : Ok (fun x y => x.1 = y.1 ∧ RN x.2.1 y.2.1 ∧ RE g_letters x.2.2.2 m_letters y.2.2.2.1) (zf_X1_wall g_now g_mind g_letters g_letterCount) (zf_X2_wall m_s m_was m_letters m_letterMany m_place m_numbers) := sim_wall hRN hRE 
  obtain ⟨⟨r0, w_g_now, w_g_mind, w_g_letterCount⟩, ⟨q0, y_m_s, y_m_was, y_m_letterMany, y_m_place, y_m_numbers⟩, f1, f2, e0, sRN, sRE⟩ := SIM
  try dsimp only at e0 sRN sRE
  refine lv_aload_n hx hb dL_law_215 rfl (lv_at hl 1 rfl) ?_
  refine zb_callVE (As := []) (rest := []) ⟨hx, hb, hml, hown, hts⟩ (zc_X1_wall l D cI aK aV ad g_now g_mind g_taken g_isTaken g_letters g_letterCount g_told g_toldCount g_refusals g_costs g_gains g_seed r0 w_g_now w_g_mind w_g_letterCount f1) (cwV 0 hts gQ_X1_wall rfl rfl rfl hd_X1_wall ⟨Nat.le_of_ble_eq_true rfl, Nat.le_of_ble_eq_true rfl⟩) hK hE hP hD hS hA (zb_lG) (q0 := 0) rfl rfl rfl hl.1 rfl (Nat.le_of_ble_eq_true rfl) dL_law_216 ⟨Nat.le_refl _, Nat.le_refl _⟩ (fun H locs hP hD hS => ?_)
  have hP : va_P D zb_cl (zb_G cI ad w_g_now w_g_mind g_taken g_isTaken g_letters w_g_letterCount g_told g_toldCount g_refusals g_costs g_gains g_seed ++ zb_M cI bd m_s m_m m_image m_was m_hasImage m_letters m_row m_refused m_letterMany m_rowMany m_place m_numbers m_cost m_seed) H := hP
  have hD : va_D A (zb_G cI ad w_g_now w_g_mind g_taken g_isTaken g_letters w_g_letterCount g_told g_toldCount g_refusals g_costs g_gains g_seed ++ zb_M cI bd m_s m_m m_image m_was m_hasImage m_letters m_row m_refused m_letterMany m_rowMany m_place m_numbers m_cost m_seed) := hD
  refine lv_aload_n hx hb dL_law_219 rfl (lv_at hl 2 rfl) ?_
  refine zb_callV (As := []) (rest := [.int r0]) ⟨hx, hb, hml, hown, hts⟩ (zc_X2_wall l D cI bd m_s m_m m_image m_was m_hasImage m_letters m_row m_refused m_letterMany m_rowMany m_place m_numbers m_cost m_seed q0 y_m_s y_m_was y_m_letterMany y_m_place y_m_numbers f2) (cwV 0 hts gQ_X2_wall rfl rfl rfl hd_X2_wall ⟨Nat.le_of_ble_eq_true rfl, Nat.le_of_ble_eq_true rfl⟩) hK hP hD hS hA (zb_lM) (q0 := 0) rfl rfl rfl hl.1 rfl (Nat.le_of_ble_eq_true rfl) dL_law_220 ⟨Nat.le_refl _, Nat.le_refl _⟩ (fun H locs hP hD hS => ?_)
  have hP : va_P D zb_cl (zb_G cI ad w_g_now w_g_mind g_taken g_isTaken g_letters w_g_letterCount g_told g_toldCount g_refusals g_costs g_gains g_seed ++ zb_M cI bd y_m_s m_m m_image y_m_was m_hasImage m_letters m_row m_refused y_m_letterMany m_rowMany y_m_place y_m_numbers m_cost m_seed) H := hP
  have hD : va_D A (zb_G cI ad w_g_now w_g_mind g_taken g_isTaken g_letters w_g_letterCount g_told g_toldCount g_refusals g_costs g_gains g_seed ++ zb_M cI bd y_m_s m_m m_image y_m_was m_hasImage m_letters m_row m_refused y_m_letterMany m_rowMany y_m_place y_m_numbers m_cost m_seed) := hD
  have hLS : zLS D cI ad bd A s H locs := ⟨w_g_now, w_g_mind, g_taken, g_isTaken, g_letters, w_g_letterCount, g_told, g_toldCount, g_refusals, g_costs, g_gains, g_seed, y_m_s, m_m, m_image, y_m_was, m_hasImage, m_letters, m_row, m_refused, y_m_letterMany, m_rowMany, y_m_place, y_m_numbers, m_cost, m_seed, ⟨sRN, hRT, sRE, hRO, hRR⟩, hP, hD, hS⟩
  refine lv_icmp_eq (tgt := 1292) hx hb dL_law_223 (by decide) (fun _ => kk H locs hLS) (fun c9 => absurd e0 c9)
set_option maxHeartbeats 4000000 in
set_option maxRecDepth 100000 in
theorem lc_node (hx : p.tables.exec = Jvm.exec) (hb : c.code = cL_law) (hml : c.maxLocals = 4) (hown : s.vm.findClass RL = some m.cls) (hts : ∀ w ∈ lw_tbl, w.before #[Value.ref b] s = true) (hX : va_X b Ln xs s s.heap) (hbl : b < s.heap.size) (hbA : ¬ A b) (hK : zb_K D cI s) (hE : zb_E aK aV A s s.heap) (hA : ∀ q, s.heap.size ≤ q → A q) {H : Heap} {locs : List Loc} {ls : Array Slot} {i : Nat} (hi : i + 6 ≤ Ln) (hLn : Ln ≤ 3072) (hl : lv_has ls 4 [(0, .ref b), (1, .ref (ad 0)), (2, .ref (bd 0)), (3, .int (nI i))]) (h : zLS D cI ad bd A s H locs) (kk : ∀ (H : Heap) (locs : List Loc), zLS D cI ad bd A s H locs → W p l e room_1 s m #[Value.ref b] below meth c H locs 37 1084 (lw_Z below #[Value.ref b] s) (F0 m 1292 ls [])) : W p l e room_1 s m #[Value.ref b] below meth c H locs 37 1084 (lw_Z below #[Value.ref b] s) (F0 m 228 ls []) := by
  obtain ⟨g_now, g_mind, g_taken, g_isTaken, g_letters, g_letterCount, g_told, g_toldCount, g_refusals, g_costs, g_gains, g_seed, m_s, m_m, m_image, m_was, m_hasImage, m_letters, m_row, m_refused, m_letterMany, m_rowMany, m_place, m_numbers, m_cost, m_seed, ⟨hRN, hRT, hRE, hRO, hRR⟩, hP, hD, hS⟩ := h
  have in1 : vp_in (nI i + (1 : Int32)) Ln := by rw [show (1 : Int32) = nI 1 from rfl, nI_add]; exact nI_in (by omega) (by omega)
  have in2 : vp_in (nI i + (2 : Int32)) Ln := by rw [show (2 : Int32) = nI 2 from rfl, nI_add]; exact nI_in (by omega) (by omega)
  have SIM : Ok (fun a b => a.1 = b.1 ∧ RR a.2 b.2) (zf_X1_node g_now g_refusals (xs (nI i + 1).toNatClampNeg) (xs (nI i + 2).toNatClampNeg)) (zf_X2_node m_s m_refused (xs (nI i + 1).toNatClampNeg) (xs (nI i + 2).toNatClampNeg)) := sim_node hRN hRR (xs (nI i + 1).toNatClampNeg) (xs (nI i + 2).toNatClampNeg)
  obtain ⟨⟨r0, w_g_refusals⟩, ⟨q0, y_m_refused⟩, f1, f2, e0, sRR⟩ := SIM
  try dsimp only at e0 sRR
  refine lv_aload_n hx hb dL_law_228 rfl (lv_at hl 1 rfl) ?_
  refine lv_aload_n hx hb dL_law_229 rfl (lv_at hl 0 rfl) ?_
  refine lv_iload_n hx hb dL_law_230 rfl (lv_at hl 3 rfl) ?_
  refine lv_iconst (v := (1 : Int32)) hx hb dL_law_231 (by decide) ?_
  refine lv_iadd hx hb dL_law_232 ?_
  refine va_sld hx hb hX hbl hbA hS (in1) dL_law_233 ?_
  refine lv_aload_n hx hb dL_law_234 rfl (lv_at hl 0 rfl) ?_
  refine lv_iload_n hx hb dL_law_235 rfl (lv_at hl 3 rfl) ?_
  refine lv_iconst (v := (2 : Int32)) hx hb dL_law_236 (by decide) ?_
  refine lv_iadd hx hb dL_law_237 ?_
  refine va_sld hx hb hX hbl hbA hS (in2) dL_law_238 ?_
  refine zb_callV (As := [.int (xs (nI i + 1).toNatClampNeg), .int (xs (nI i + 2).toNatClampNeg)]) (rest := []) ⟨hx, hb, hml, hown, hts⟩ (zc_X1_node l D cI ad g_now g_mind g_taken g_isTaken g_letters g_letterCount g_told g_toldCount g_refusals g_costs g_gains g_seed (xs (nI i + 1).toNatClampNeg) (xs (nI i + 2).toNatClampNeg) r0 w_g_refusals f1) (cwV 2 hts gQ_X1_node rfl rfl rfl hd_X1_node ⟨Nat.le_of_ble_eq_true rfl, Nat.le_of_ble_eq_true rfl⟩) hK hP hD hS hA (zb_lG) (q0 := 0) rfl rfl rfl hl.1 rfl (Nat.le_of_ble_eq_true rfl) dL_law_239 ⟨Nat.le_refl _, Nat.le_refl _⟩ (fun H locs hP hD hS => ?_)
  have hP : va_P D zb_cl (zb_G cI ad g_now g_mind g_taken g_isTaken g_letters g_letterCount g_told g_toldCount w_g_refusals g_costs g_gains g_seed ++ zb_M cI bd m_s m_m m_image m_was m_hasImage m_letters m_row m_refused m_letterMany m_rowMany m_place m_numbers m_cost m_seed) H := hP
  have hD : va_D A (zb_G cI ad g_now g_mind g_taken g_isTaken g_letters g_letterCount g_told g_toldCount w_g_refusals g_costs g_gains g_seed ++ zb_M cI bd m_s m_m m_image m_was m_hasImage m_letters m_row m_refused m_letterMany m_rowMany m_place m_numbers m_cost m_seed) := hD
  refine lv_aload_n hx hb dL_law_242 rfl (lv_at hl 2 rfl) ?_
  refine lv_aload_n hx hb dL_law_243 rfl (lv_at hl 0 rfl) ?_
  refine lv_iload_n hx hb dL_law_244 rfl (lv_at hl 3 rfl) ?_
  refine lv_iconst (v := (1 : Int32)) hx hb dL_law_245 (by decide) ?_
  refine lv_iadd hx hb dL_law_246 ?_
  refine va_sld hx hb hX hbl hbA hS (in1) dL_law_247 ?_
  refine lv_aload_n hx hb dL_law_248 rfl (lv_at hl 0 rfl) ?_
  refine lv_iload_n hx hb dL_law_249 rfl (lv_at hl 3 rfl) ?_
  refine lv_iconst (v := (2 : Int32)) hx hb dL_law_250 (by decide) ?_
  refine lv_iadd hx hb dL_law_251 ?_
  refine va_sld hx hb hX hbl hbA hS (in2) dL_law_252 ?_
  refine zb_callV (As := [.int (xs (nI i + 1).toNatClampNeg), .int (xs (nI i + 2).toNatClampNeg)]) (rest := [.int r0]) ⟨hx, hb, hml, hown, hts⟩ (zc_X2_node l D cI bd m_s m_m m_image m_was m_hasImage m_letters m_row m_refused m_letterMany m_rowMany m_place m_numbers m_cost m_seed (xs (nI i + 1).toNatClampNeg) (xs (nI i + 2).toNatClampNeg) q0 y_m_refused f2) (cwV 2 hts gQ_X2_node rfl rfl rfl hd_X2_node ⟨Nat.le_of_ble_eq_true rfl, Nat.le_of_ble_eq_true rfl⟩) hK hP hD hS hA (zb_lM) (q0 := 0) rfl rfl rfl hl.1 rfl (Nat.le_of_ble_eq_true rfl) dL_law_253 ⟨Nat.le_refl _, Nat.le_refl _⟩ (fun H locs hP hD hS => ?_)
  have hP : va_P D zb_cl (zb_G cI ad g_now g_mind g_taken g_isTaken g_letters g_letterCount g_told g_toldCount w_g_refusals g_costs g_gains g_seed ++ zb_M cI bd m_s m_m m_image m_was m_hasImage m_letters m_row y_m_refused m_letterMany m_rowMany m_place m_numbers m_cost m_seed) H := hP
  have hD : va_D A (zb_G cI ad g_now g_mind g_taken g_isTaken g_letters g_letterCount g_told g_toldCount w_g_refusals g_costs g_gains g_seed ++ zb_M cI bd m_s m_m m_image m_was m_hasImage m_letters m_row y_m_refused m_letterMany m_rowMany m_place m_numbers m_cost m_seed) := hD
  have hLS : zLS D cI ad bd A s H locs := ⟨g_now, g_mind, g_taken, g_isTaken, g_letters, g_letterCount, g_told, g_toldCount, w_g_refusals, g_costs, g_gains, g_seed, m_s, m_m, m_image, m_was, m_hasImage, m_letters, m_row, y_m_refused, m_letterMany, m_rowMany, m_place, m_numbers, m_cost, m_seed, ⟨hRN, hRT, hRE, hRO, sRR⟩, hP, hD, hS⟩
  refine lv_icmp_eq (tgt := 1292) hx hb dL_law_256 (by decide) (fun _ => kk H locs hLS) (fun c9 => absurd e0 c9)
set_option maxHeartbeats 4000000 in
set_option maxRecDepth 100000 in
theorem lc_person (hx : p.tables.exec = Jvm.exec) (hb : c.code = cL_law) (hml : c.maxLocals = 4) (hown : s.vm.findClass RL = some m.cls) (hts : ∀ w ∈ lw_tbl, w.before #[Value.ref b] s = true) (hX : va_X b Ln xs s s.heap) (hbl : b < s.heap.size) (hbA : ¬ A b) (hK : zb_K D cI s) (hE : zb_E aK aV A s s.heap) (hA : ∀ q, s.heap.size ≤ q → A q) {H : Heap} {locs : List Loc} {ls : Array Slot} {i : Nat} (hi : i + 6 ≤ Ln) (hLn : Ln ≤ 3072) (hl : lv_has ls 4 [(0, .ref b), (1, .ref (ad 0)), (2, .ref (bd 0)), (3, .int (nI i))]) (h : zLS D cI ad bd A s H locs) (kk : ∀ (H : Heap) (locs : List Loc), zLS D cI ad bd A s H locs → W p l e room_1 s m #[Value.ref b] below meth c H locs 37 1084 (lw_Z below #[Value.ref b] s) (F0 m 1292 ls [])) : W p l e room_1 s m #[Value.ref b] below meth c H locs 37 1084 (lw_Z below #[Value.ref b] s) (F0 m 261 ls []) := by
  obtain ⟨g_now, g_mind, g_taken, g_isTaken, g_letters, g_letterCount, g_told, g_toldCount, g_refusals, g_costs, g_gains, g_seed, m_s, m_m, m_image, m_was, m_hasImage, m_letters, m_row, m_refused, m_letterMany, m_rowMany, m_place, m_numbers, m_cost, m_seed, ⟨hRN, hRT, hRE, hRO, hRR⟩, hP, hD, hS⟩ := h
  have in1 : vp_in (nI i + (1 : Int32)) Ln := by rw [show (1 : Int32) = nI 1 from rfl, nI_add]; exact nI_in (by omega) (by omega)
  have in2 : vp_in (nI i + (2 : Int32)) Ln := by rw [show (2 : Int32) = nI 2 from rfl, nI_add]; exact nI_in (by omega) (by omega)
  have SIM : Ok (fun a b => a.1 = b.1 ∧ RR a.2 b.2) (zf_X1_person g_now g_refusals (xs (nI i + 1).toNatClampNeg) (xs (nI i + 2).toNatClampNeg)) (zf_X2_person m_s m_refused (xs (nI i + 1).toNatClampNeg) (xs (nI i + 2).toNatClampNeg)) := sim_person hRN hRR (xs (nI i + 1).toNatClampNeg) (xs (nI i + 2).toNatClampNeg)
  obtain ⟨⟨r0, w_g_refusals⟩, ⟨q0, y_m_refused⟩, f1, f2, e0, sRR⟩ := SIM
  try dsimp only at e0 sRR
  refine lv_aload_n hx hb dL_law_261 rfl (lv_at hl 1 rfl) ?_
  refine lv_aload_n hx hb dL_law_262 rfl (lv_at hl 0 rfl) ?_
  refine lv_iload_n hx hb dL_law_263 rfl (lv_at hl 3 rfl) ?_
  refine lv_iconst (v := (1 : Int32)) hx hb dL_law_264 (by decide) ?_
  refine lv_iadd hx hb dL_law_265 ?_
  refine va_sld hx hb hX hbl hbA hS (in1) dL_law_266 ?_
  refine lv_aload_n hx hb dL_law_267 rfl (lv_at hl 0 rfl) ?_
  refine lv_iload_n hx hb dL_law_268 rfl (lv_at hl 3 rfl) ?_
  refine lv_iconst (v := (2 : Int32)) hx hb dL_law_269 (by decide) ?_
  refine lv_iadd hx hb dL_law_270 ?_
  refine va_sld hx hb hX hbl hbA hS (in2) dL_law_271 ?_
  refine zb_callV (As := [.int (xs (nI i + 1).toNatClampNeg), .int (xs (nI i + 2).toNatClampNeg)]) (rest := []) ⟨hx, hb, hml, hown, hts⟩ (zc_X1_person l D cI ad g_now g_mind g_taken g_isTaken g_letters g_letterCount g_told g_toldCount g_refusals g_costs g_gains g_seed (xs (nI i + 1).toNatClampNeg) (xs (nI i + 2).toNatClampNeg) r0 w_g_refusals f1) (cwV 2 hts gQ_X1_person rfl rfl rfl hd_X1_person ⟨Nat.le_of_ble_eq_true rfl, Nat.le_of_ble_eq_true rfl⟩) hK hP hD hS hA (zb_lG) (q0 := 0) rfl rfl rfl hl.1 rfl (Nat.le_of_ble_eq_true rfl) dL_law_272 ⟨Nat.le_refl _, Nat.le_refl _⟩ (fun H locs hP hD hS => ?_)
  have hP : va_P D zb_cl (zb_G cI ad g_now g_mind g_taken g_isTaken g_letters g_letterCount g_told g_toldCount w_g_refusals g_costs g_gains g_seed ++ zb_M cI bd m_s m_m m_image m_was m_hasImage m_letters m_row m_refused m_letterMany m_rowMany m_place m_numbers m_cost m_seed) H := hP
  have hD : va_D A (zb_G cI ad g_now g_mind g_taken g_isTaken g_letters g_letterCount g_told g_toldCount w_g_refusals g_costs g_gains g_seed ++ zb_M cI bd m_s m_m m_image m_was m_hasImage m_letters m_row m_refused m_letterMany m_rowMany m_place m_numbers m_cost m_seed) := hD
  refine lv_aload_n hx hb dL_law_275 rfl (lv_at hl 2 rfl) ?_
  refine lv_aload_n hx hb dL_law_276 rfl (lv_at hl 0 rfl) ?_
  refine lv_iload_n hx hb dL_law_277 rfl (lv_at hl 3 rfl) ?_
  refine lv_iconst (v := (1 : Int32)) hx hb dL_law_278 (by decide) ?_
  refine lv_iadd hx hb dL_law_279 ?_
  refine va_sld hx hb hX hbl hbA hS (in1) dL_law_280 ?_
  refine lv_aload_n hx hb dL_law_281 rfl (lv_at hl 0 rfl) ?_
  refine lv_iload_n hx hb dL_law_282 rfl (lv_at hl 3 rfl) ?_
  refine lv_iconst (v := (2 : Int32)) hx hb dL_law_283 (by decide) ?_
  refine lv_iadd hx hb dL_law_284 ?_
  refine va_sld hx hb hX hbl hbA hS (in2) dL_law_285 ?_
  refine zb_callV (As := [.int (xs (nI i + 1).toNatClampNeg), .int (xs (nI i + 2).toNatClampNeg)]) (rest := [.int r0]) ⟨hx, hb, hml, hown, hts⟩ (zc_X2_person l D cI bd m_s m_m m_image m_was m_hasImage m_letters m_row m_refused m_letterMany m_rowMany m_place m_numbers m_cost m_seed (xs (nI i + 1).toNatClampNeg) (xs (nI i + 2).toNatClampNeg) q0 y_m_refused f2) (cwV 2 hts gQ_X2_person rfl rfl rfl hd_X2_person ⟨Nat.le_of_ble_eq_true rfl, Nat.le_of_ble_eq_true rfl⟩) hK hP hD hS hA (zb_lM) (q0 := 0) rfl rfl rfl hl.1 rfl (Nat.le_of_ble_eq_true rfl) dL_law_286 ⟨Nat.le_refl _, Nat.le_refl _⟩ (fun H locs hP hD hS => ?_)
  have hP : va_P D zb_cl (zb_G cI ad g_now g_mind g_taken g_isTaken g_letters g_letterCount g_told g_toldCount w_g_refusals g_costs g_gains g_seed ++ zb_M cI bd m_s m_m m_image m_was m_hasImage m_letters m_row y_m_refused m_letterMany m_rowMany m_place m_numbers m_cost m_seed) H := hP
  have hD : va_D A (zb_G cI ad g_now g_mind g_taken g_isTaken g_letters g_letterCount g_told g_toldCount w_g_refusals g_costs g_gains g_seed ++ zb_M cI bd m_s m_m m_image m_was m_hasImage m_letters m_row y_m_refused m_letterMany m_rowMany m_place m_numbers m_cost m_seed) := hD
  have hLS : zLS D cI ad bd A s H locs := ⟨g_now, g_mind, g_taken, g_isTaken, g_letters, g_letterCount, g_told, g_toldCount, w_g_refusals, g_costs, g_gains, g_seed, m_s, m_m, m_image, m_was, m_hasImage, m_letters, m_row, y_m_refused, m_letterMany, m_rowMany, m_place, m_numbers, m_cost, m_seed, ⟨hRN, hRT, hRE, hRO, sRR⟩, hP, hD, hS⟩
  refine lv_icmp_eq (tgt := 1292) hx hb dL_law_289 (by decide) (fun _ => kk H locs hLS) (fun c9 => absurd e0 c9)
set_option maxHeartbeats 4000000 in
set_option maxRecDepth 100000 in
theorem lc_lays (hx : p.tables.exec = Jvm.exec) (hb : c.code = cL_law) (hml : c.maxLocals = 4) (hown : s.vm.findClass RL = some m.cls) (hts : ∀ w ∈ lw_tbl, w.before #[Value.ref b] s = true) (hX : va_X b Ln xs s s.heap) (hbl : b < s.heap.size) (hbA : ¬ A b) (hK : zb_K D cI s) (hE : zb_E aK aV A s s.heap) (hA : ∀ q, s.heap.size ≤ q → A q) {H : Heap} {locs : List Loc} {ls : Array Slot} {i : Nat} (hi : i + 6 ≤ Ln) (hLn : Ln ≤ 3072) (hl : lv_has ls 4 [(0, .ref b), (1, .ref (ad 0)), (2, .ref (bd 0)), (3, .int (nI i))]) (h : zLS D cI ad bd A s H locs) (kk : ∀ (H : Heap) (locs : List Loc), zLS D cI ad bd A s H locs → W p l e room_1 s m #[Value.ref b] below meth c H locs 37 1084 (lw_Z below #[Value.ref b] s) (F0 m 1292 ls [])) : W p l e room_1 s m #[Value.ref b] below meth c H locs 37 1084 (lw_Z below #[Value.ref b] s) (F0 m 294 ls []) := by
  obtain ⟨g_now, g_mind, g_taken, g_isTaken, g_letters, g_letterCount, g_told, g_toldCount, g_refusals, g_costs, g_gains, g_seed, m_s, m_m, m_image, m_was, m_hasImage, m_letters, m_row, m_refused, m_letterMany, m_rowMany, m_place, m_numbers, m_cost, m_seed, ⟨hRN, hRT, hRE, hRO, hRR⟩, hP, hD, hS⟩ := h
  have in1 : vp_in (nI i + (1 : Int32)) Ln := by rw [show (1 : Int32) = nI 1 from rfl, nI_add]; exact nI_in (by omega) (by omega)
  have in2 : vp_in (nI i + (2 : Int32)) Ln := by rw [show (2 : Int32) = nI 2 from rfl, nI_add]; exact nI_in (by omega) (by omega)
  have in3 : vp_in (nI i + (3 : Int32)) Ln := by rw [show (3 : Int32) = nI 3 from rfl, nI_add]; exact nI_in (by omega) (by omega)
  have SIM : Ok (fun a b => a.1 = b.1 ∧ RN a.2.1 b.2.1 ∧ RR a.2.2 b.2.2) (zf_X1_lays g_now g_refusals (xs (nI i + 1).toNatClampNeg) (xs (nI i + 2).toNatClampNeg) (xs (nI i + 3).toNatClampNeg)) (zf_X2_lays m_s m_refused (xs (nI i + 1).toNatClampNeg) (xs (nI i + 2).toNatClampNeg) (xs (nI i + 3).toNatClampNeg)) := sim_lays hRN hRR (xs (nI i + 1).toNatClampNeg) (xs (nI i + 2).toNatClampNeg) (xs (nI i + 3).toNatClampNeg)
  obtain ⟨⟨r0, w_g_now, w_g_refusals⟩, ⟨q0, y_m_s, y_m_refused⟩, f1, f2, e0, sRN, sRR⟩ := SIM
  try dsimp only at e0 sRN sRR
  refine lv_aload_n hx hb dL_law_294 rfl (lv_at hl 1 rfl) ?_
  refine lv_aload_n hx hb dL_law_295 rfl (lv_at hl 0 rfl) ?_
  refine lv_iload_n hx hb dL_law_296 rfl (lv_at hl 3 rfl) ?_
  refine lv_iconst (v := (1 : Int32)) hx hb dL_law_297 (by decide) ?_
  refine lv_iadd hx hb dL_law_298 ?_
  refine va_sld hx hb hX hbl hbA hS (in1) dL_law_299 ?_
  refine lv_aload_n hx hb dL_law_300 rfl (lv_at hl 0 rfl) ?_
  refine lv_iload_n hx hb dL_law_301 rfl (lv_at hl 3 rfl) ?_
  refine lv_iconst (v := (2 : Int32)) hx hb dL_law_302 (by decide) ?_
  refine lv_iadd hx hb dL_law_303 ?_
  refine va_sld hx hb hX hbl hbA hS (in2) dL_law_304 ?_
  refine lv_aload_n hx hb dL_law_305 rfl (lv_at hl 0 rfl) ?_
  refine lv_iload_n hx hb dL_law_306 rfl (lv_at hl 3 rfl) ?_
  refine lv_iconst (v := (3 : Int32)) hx hb dL_law_307 (by decide) ?_
  refine lv_iadd hx hb dL_law_308 ?_
  refine va_sld hx hb hX hbl hbA hS (in3) dL_law_309 ?_
  refine zb_callV (As := [.int (xs (nI i + 1).toNatClampNeg), .int (xs (nI i + 2).toNatClampNeg), .int (xs (nI i + 3).toNatClampNeg)]) (rest := []) ⟨hx, hb, hml, hown, hts⟩ (zc_X1_lays l D cI ad g_now g_mind g_taken g_isTaken g_letters g_letterCount g_told g_toldCount g_refusals g_costs g_gains g_seed (xs (nI i + 1).toNatClampNeg) (xs (nI i + 2).toNatClampNeg) (xs (nI i + 3).toNatClampNeg) r0 w_g_now w_g_refusals f1) (cwV 3 hts gQ_X1_lays rfl rfl rfl hd_X1_lays ⟨Nat.le_of_ble_eq_true rfl, Nat.le_of_ble_eq_true rfl⟩) hK hP hD hS hA (zb_lG) (q0 := 0) rfl rfl rfl hl.1 rfl (Nat.le_of_ble_eq_true rfl) dL_law_310 ⟨Nat.le_refl _, Nat.le_refl _⟩ (fun H locs hP hD hS => ?_)
  have hP : va_P D zb_cl (zb_G cI ad w_g_now g_mind g_taken g_isTaken g_letters g_letterCount g_told g_toldCount w_g_refusals g_costs g_gains g_seed ++ zb_M cI bd m_s m_m m_image m_was m_hasImage m_letters m_row m_refused m_letterMany m_rowMany m_place m_numbers m_cost m_seed) H := hP
  have hD : va_D A (zb_G cI ad w_g_now g_mind g_taken g_isTaken g_letters g_letterCount g_told g_toldCount w_g_refusals g_costs g_gains g_seed ++ zb_M cI bd m_s m_m m_image m_was m_hasImage m_letters m_row m_refused m_letterMany m_rowMany m_place m_numbers m_cost m_seed) := hD
  refine lv_aload_n hx hb dL_law_313 rfl (lv_at hl 2 rfl) ?_
  refine lv_aload_n hx hb dL_law_314 rfl (lv_at hl 0 rfl) ?_
  refine lv_iload_n hx hb dL_law_315 rfl (lv_at hl 3 rfl) ?_
  refine lv_iconst (v := (1 : Int32)) hx hb dL_law_316 (by decide) ?_
  refine lv_iadd hx hb dL_law_317 ?_
  refine va_sld hx hb hX hbl hbA hS (in1) dL_law_318 ?_
  refine lv_aload_n hx hb dL_law_319 rfl (lv_at hl 0 rfl) ?_
  refine lv_iload_n hx hb dL_law_320 rfl (lv_at hl 3 rfl) ?_
  refine lv_iconst (v := (2 : Int32)) hx hb dL_law_321 (by decide) ?_
  refine lv_iadd hx hb dL_law_322 ?_
  refine va_sld hx hb hX hbl hbA hS (in2) dL_law_323 ?_
  refine lv_aload_n hx hb dL_law_324 rfl (lv_at hl 0 rfl) ?_
  refine lv_iload_n hx hb dL_law_325 rfl (lv_at hl 3 rfl) ?_
  refine lv_iconst (v := (3 : Int32)) hx hb dL_law_326 (by decide) ?_
  refine lv_iadd hx hb dL_law_327 ?_
  refine va_sld hx hb hX hbl hbA hS (in3) dL_law_328 ?_
  refine zb_callV (As := [.int (xs (nI i + 1).toNatClampNeg), .int (xs (nI i + 2).toNatClampNeg), .int (xs (nI i + 3).toNatClampNeg)]) (rest := [.int r0]) ⟨hx, hb, hml, hown, hts⟩ (zc_X2_lays l D cI bd m_s m_m m_image m_was m_hasImage m_letters m_row m_refused m_letterMany m_rowMany m_place m_numbers m_cost m_seed (xs (nI i + 1).toNatClampNeg) (xs (nI i + 2).toNatClampNeg) (xs (nI i + 3).toNatClampNeg) q0 y_m_s y_m_refused f2) (cwV 3 hts gQ_X2_lays rfl rfl rfl hd_X2_lays ⟨Nat.le_of_ble_eq_true rfl, Nat.le_of_ble_eq_true rfl⟩) hK hP hD hS hA (zb_lM) (q0 := 0) rfl rfl rfl hl.1 rfl (Nat.le_of_ble_eq_true rfl) dL_law_329 ⟨Nat.le_refl _, Nat.le_refl _⟩ (fun H locs hP hD hS => ?_)
  have hP : va_P D zb_cl (zb_G cI ad w_g_now g_mind g_taken g_isTaken g_letters g_letterCount g_told g_toldCount w_g_refusals g_costs g_gains g_seed ++ zb_M cI bd y_m_s m_m m_image m_was m_hasImage m_letters m_row y_m_refused m_letterMany m_rowMany m_place m_numbers m_cost m_seed) H := hP
  have hD : va_D A (zb_G cI ad w_g_now g_mind g_taken g_isTaken g_letters g_letterCount g_told g_toldCount w_g_refusals g_costs g_gains g_seed ++ zb_M cI bd y_m_s m_m m_image m_was m_hasImage m_letters m_row y_m_refused m_letterMany m_rowMany m_place m_numbers m_cost m_seed) := hD
  have hLS : zLS D cI ad bd A s H locs := ⟨w_g_now, g_mind, g_taken, g_isTaken, g_letters, g_letterCount, g_told, g_toldCount, w_g_refusals, g_costs, g_gains, g_seed, y_m_s, m_m, m_image, m_was, m_hasImage, m_letters, m_row, y_m_refused, m_letterMany, m_rowMany, m_place, m_numbers, m_cost, m_seed, ⟨sRN, hRT, hRE, hRO, sRR⟩, hP, hD, hS⟩
  refine lv_icmp_eq (tgt := 1292) hx hb dL_law_332 (by decide) (fun _ => kk H locs hLS) (fun c9 => absurd e0 c9)
set_option maxHeartbeats 4000000 in
set_option maxRecDepth 100000 in
theorem lc_wets (hx : p.tables.exec = Jvm.exec) (hb : c.code = cL_law) (hml : c.maxLocals = 4) (hown : s.vm.findClass RL = some m.cls) (hts : ∀ w ∈ lw_tbl, w.before #[Value.ref b] s = true) (hX : va_X b Ln xs s s.heap) (hbl : b < s.heap.size) (hbA : ¬ A b) (hK : zb_K D cI s) (hE : zb_E aK aV A s s.heap) (hA : ∀ q, s.heap.size ≤ q → A q) {H : Heap} {locs : List Loc} {ls : Array Slot} {i : Nat} (hi : i + 6 ≤ Ln) (hLn : Ln ≤ 3072) (hl : lv_has ls 4 [(0, .ref b), (1, .ref (ad 0)), (2, .ref (bd 0)), (3, .int (nI i))]) (h : zLS D cI ad bd A s H locs) (kk : ∀ (H : Heap) (locs : List Loc), zLS D cI ad bd A s H locs → W p l e room_1 s m #[Value.ref b] below meth c H locs 37 1084 (lw_Z below #[Value.ref b] s) (F0 m 1292 ls [])) : W p l e room_1 s m #[Value.ref b] below meth c H locs 37 1084 (lw_Z below #[Value.ref b] s) (F0 m 337 ls []) := by
  obtain ⟨g_now, g_mind, g_taken, g_isTaken, g_letters, g_letterCount, g_told, g_toldCount, g_refusals, g_costs, g_gains, g_seed, m_s, m_m, m_image, m_was, m_hasImage, m_letters, m_row, m_refused, m_letterMany, m_rowMany, m_place, m_numbers, m_cost, m_seed, ⟨hRN, hRT, hRE, hRO, hRR⟩, hP, hD, hS⟩ := h
  have in1 : vp_in (nI i + (1 : Int32)) Ln := by rw [show (1 : Int32) = nI 1 from rfl, nI_add]; exact nI_in (by omega) (by omega)
  have in2 : vp_in (nI i + (2 : Int32)) Ln := by rw [show (2 : Int32) = nI 2 from rfl, nI_add]; exact nI_in (by omega) (by omega)
  have SIM : Ok (fun a b => a.1 = b.1 ∧ RN a.2.1 b.2.1 ∧ RR a.2.2 b.2.2) (zf_X1_wets g_now g_refusals (xs (nI i + 1).toNatClampNeg) (xs (nI i + 2).toNatClampNeg)) (zf_X2_wets m_s m_refused (xs (nI i + 1).toNatClampNeg) (xs (nI i + 2).toNatClampNeg)) := sim_wets hRN hRR (xs (nI i + 1).toNatClampNeg) (xs (nI i + 2).toNatClampNeg)
  obtain ⟨⟨r0, w_g_now, w_g_refusals⟩, ⟨q0, y_m_s, y_m_refused⟩, f1, f2, e0, sRN, sRR⟩ := SIM
  try dsimp only at e0 sRN sRR
  refine lv_aload_n hx hb dL_law_337 rfl (lv_at hl 1 rfl) ?_
  refine lv_aload_n hx hb dL_law_338 rfl (lv_at hl 0 rfl) ?_
  refine lv_iload_n hx hb dL_law_339 rfl (lv_at hl 3 rfl) ?_
  refine lv_iconst (v := (1 : Int32)) hx hb dL_law_340 (by decide) ?_
  refine lv_iadd hx hb dL_law_341 ?_
  refine va_sld hx hb hX hbl hbA hS (in1) dL_law_342 ?_
  refine lv_aload_n hx hb dL_law_343 rfl (lv_at hl 0 rfl) ?_
  refine lv_iload_n hx hb dL_law_344 rfl (lv_at hl 3 rfl) ?_
  refine lv_iconst (v := (2 : Int32)) hx hb dL_law_345 (by decide) ?_
  refine lv_iadd hx hb dL_law_346 ?_
  refine va_sld hx hb hX hbl hbA hS (in2) dL_law_347 ?_
  refine zb_callV (As := [.int (xs (nI i + 1).toNatClampNeg), .int (xs (nI i + 2).toNatClampNeg)]) (rest := []) ⟨hx, hb, hml, hown, hts⟩ (zc_X1_wets l D cI ad g_now g_mind g_taken g_isTaken g_letters g_letterCount g_told g_toldCount g_refusals g_costs g_gains g_seed (xs (nI i + 1).toNatClampNeg) (xs (nI i + 2).toNatClampNeg) r0 w_g_now w_g_refusals f1) (cwV 2 hts gQ_X1_wets rfl rfl rfl hd_X1_wets ⟨Nat.le_of_ble_eq_true rfl, Nat.le_of_ble_eq_true rfl⟩) hK hP hD hS hA (zb_lG) (q0 := 0) rfl rfl rfl hl.1 rfl (Nat.le_of_ble_eq_true rfl) dL_law_348 ⟨Nat.le_refl _, Nat.le_refl _⟩ (fun H locs hP hD hS => ?_)
  have hP : va_P D zb_cl (zb_G cI ad w_g_now g_mind g_taken g_isTaken g_letters g_letterCount g_told g_toldCount w_g_refusals g_costs g_gains g_seed ++ zb_M cI bd m_s m_m m_image m_was m_hasImage m_letters m_row m_refused m_letterMany m_rowMany m_place m_numbers m_cost m_seed) H := hP
  have hD : va_D A (zb_G cI ad w_g_now g_mind g_taken g_isTaken g_letters g_letterCount g_told g_toldCount w_g_refusals g_costs g_gains g_seed ++ zb_M cI bd m_s m_m m_image m_was m_hasImage m_letters m_row m_refused m_letterMany m_rowMany m_place m_numbers m_cost m_seed) := hD
  refine lv_aload_n hx hb dL_law_351 rfl (lv_at hl 2 rfl) ?_
  refine lv_aload_n hx hb dL_law_352 rfl (lv_at hl 0 rfl) ?_
  refine lv_iload_n hx hb dL_law_353 rfl (lv_at hl 3 rfl) ?_
  refine lv_iconst (v := (1 : Int32)) hx hb dL_law_354 (by decide) ?_
  refine lv_iadd hx hb dL_law_355 ?_
  refine va_sld hx hb hX hbl hbA hS (in1) dL_law_356 ?_
  refine lv_aload_n hx hb dL_law_357 rfl (lv_at hl 0 rfl) ?_
  refine lv_iload_n hx hb dL_law_358 rfl (lv_at hl 3 rfl) ?_
  refine lv_iconst (v := (2 : Int32)) hx hb dL_law_359 (by decide) ?_
  refine lv_iadd hx hb dL_law_360 ?_
  refine va_sld hx hb hX hbl hbA hS (in2) dL_law_361 ?_
  refine zb_callV (As := [.int (xs (nI i + 1).toNatClampNeg), .int (xs (nI i + 2).toNatClampNeg)]) (rest := [.int r0]) ⟨hx, hb, hml, hown, hts⟩ (zc_X2_wets l D cI bd m_s m_m m_image m_was m_hasImage m_letters m_row m_refused m_letterMany m_rowMany m_place m_numbers m_cost m_seed (xs (nI i + 1).toNatClampNeg) (xs (nI i + 2).toNatClampNeg) q0 y_m_s y_m_refused f2) (cwV 2 hts gQ_X2_wets rfl rfl rfl hd_X2_wets ⟨Nat.le_of_ble_eq_true rfl, Nat.le_of_ble_eq_true rfl⟩) hK hP hD hS hA (zb_lM) (q0 := 0) rfl rfl rfl hl.1 rfl (Nat.le_of_ble_eq_true rfl) dL_law_362 ⟨Nat.le_refl _, Nat.le_refl _⟩ (fun H locs hP hD hS => ?_)
  have hP : va_P D zb_cl (zb_G cI ad w_g_now g_mind g_taken g_isTaken g_letters g_letterCount g_told g_toldCount w_g_refusals g_costs g_gains g_seed ++ zb_M cI bd y_m_s m_m m_image m_was m_hasImage m_letters m_row y_m_refused m_letterMany m_rowMany m_place m_numbers m_cost m_seed) H := hP
  have hD : va_D A (zb_G cI ad w_g_now g_mind g_taken g_isTaken g_letters g_letterCount g_told g_toldCount w_g_refusals g_costs g_gains g_seed ++ zb_M cI bd y_m_s m_m m_image m_was m_hasImage m_letters m_row y_m_refused m_letterMany m_rowMany m_place m_numbers m_cost m_seed) := hD
  have hLS : zLS D cI ad bd A s H locs := ⟨w_g_now, g_mind, g_taken, g_isTaken, g_letters, g_letterCount, g_told, g_toldCount, w_g_refusals, g_costs, g_gains, g_seed, y_m_s, m_m, m_image, m_was, m_hasImage, m_letters, m_row, y_m_refused, m_letterMany, m_rowMany, m_place, m_numbers, m_cost, m_seed, ⟨sRN, hRT, hRE, hRO, sRR⟩, hP, hD, hS⟩
  refine lv_icmp_eq (tgt := 1292) hx hb dL_law_365 (by decide) (fun _ => kk H locs hLS) (fun c9 => absurd e0 c9)
set_option maxHeartbeats 4000000 in
set_option maxRecDepth 100000 in
theorem lc_comesIn (hx : p.tables.exec = Jvm.exec) (hb : c.code = cL_law) (hml : c.maxLocals = 4) (hown : s.vm.findClass RL = some m.cls) (hts : ∀ w ∈ lw_tbl, w.before #[Value.ref b] s = true) (hX : va_X b Ln xs s s.heap) (hbl : b < s.heap.size) (hbA : ¬ A b) (hK : zb_K D cI s) (hE : zb_E aK aV A s s.heap) (hA : ∀ q, s.heap.size ≤ q → A q) {H : Heap} {locs : List Loc} {ls : Array Slot} {i : Nat} (hi : i + 6 ≤ Ln) (hLn : Ln ≤ 3072) (hl : lv_has ls 4 [(0, .ref b), (1, .ref (ad 0)), (2, .ref (bd 0)), (3, .int (nI i))]) (h : zLS D cI ad bd A s H locs) (kk : ∀ (H : Heap) (locs : List Loc), zLS D cI ad bd A s H locs → W p l e room_1 s m #[Value.ref b] below meth c H locs 37 1084 (lw_Z below #[Value.ref b] s) (F0 m 1292 ls [])) : W p l e room_1 s m #[Value.ref b] below meth c H locs 37 1084 (lw_Z below #[Value.ref b] s) (F0 m 370 ls []) := by
  obtain ⟨g_now, g_mind, g_taken, g_isTaken, g_letters, g_letterCount, g_told, g_toldCount, g_refusals, g_costs, g_gains, g_seed, m_s, m_m, m_image, m_was, m_hasImage, m_letters, m_row, m_refused, m_letterMany, m_rowMany, m_place, m_numbers, m_cost, m_seed, ⟨hRN, hRT, hRE, hRO, hRR⟩, hP, hD, hS⟩ := h
  have in1 : vp_in (nI i + (1 : Int32)) Ln := by rw [show (1 : Int32) = nI 1 from rfl, nI_add]; exact nI_in (by omega) (by omega)
  have in2 : vp_in (nI i + (2 : Int32)) Ln := by rw [show (2 : Int32) = nI 2 from rfl, nI_add]; exact nI_in (by omega) (by omega)
  have SIM : Ok (fun a b => a.1 = b.1 ∧ RN a.2.1 b.2.1 ∧ RR a.2.2 b.2.2) (zf_X1_comesIn g_now g_refusals (xs (nI i + 1).toNatClampNeg) (xs (nI i + 2).toNatClampNeg)) (zf_X2_comesIn m_s m_refused (xs (nI i + 1).toNatClampNeg) (xs (nI i + 2).toNatClampNeg)) := sim_comesIn hRN hRR (xs (nI i + 1).toNatClampNeg) (xs (nI i + 2).toNatClampNeg)
  obtain ⟨⟨r0, w_g_now, w_g_refusals⟩, ⟨q0, y_m_s, y_m_refused⟩, f1, f2, e0, sRN, sRR⟩ := SIM
  try dsimp only at e0 sRN sRR
  refine lv_aload_n hx hb dL_law_370 rfl (lv_at hl 1 rfl) ?_
  refine lv_aload_n hx hb dL_law_371 rfl (lv_at hl 0 rfl) ?_
  refine lv_iload_n hx hb dL_law_372 rfl (lv_at hl 3 rfl) ?_
  refine lv_iconst (v := (1 : Int32)) hx hb dL_law_373 (by decide) ?_
  refine lv_iadd hx hb dL_law_374 ?_
  refine va_sld hx hb hX hbl hbA hS (in1) dL_law_375 ?_
  refine lv_aload_n hx hb dL_law_376 rfl (lv_at hl 0 rfl) ?_
  refine lv_iload_n hx hb dL_law_377 rfl (lv_at hl 3 rfl) ?_
  refine lv_iconst (v := (2 : Int32)) hx hb dL_law_378 (by decide) ?_
  refine lv_iadd hx hb dL_law_379 ?_
  refine va_sld hx hb hX hbl hbA hS (in2) dL_law_380 ?_
  refine zb_callV (As := [.int (xs (nI i + 1).toNatClampNeg), .int (xs (nI i + 2).toNatClampNeg)]) (rest := []) ⟨hx, hb, hml, hown, hts⟩ (zc_X1_comesIn l D cI ad g_now g_mind g_taken g_isTaken g_letters g_letterCount g_told g_toldCount g_refusals g_costs g_gains g_seed (xs (nI i + 1).toNatClampNeg) (xs (nI i + 2).toNatClampNeg) r0 w_g_now w_g_refusals f1) (cwV 2 hts gQ_X1_comesIn rfl rfl rfl hd_X1_comesIn ⟨Nat.le_of_ble_eq_true rfl, Nat.le_of_ble_eq_true rfl⟩) hK hP hD hS hA (zb_lG) (q0 := 0) rfl rfl rfl hl.1 rfl (Nat.le_of_ble_eq_true rfl) dL_law_381 ⟨Nat.le_refl _, Nat.le_refl _⟩ (fun H locs hP hD hS => ?_)
  have hP : va_P D zb_cl (zb_G cI ad w_g_now g_mind g_taken g_isTaken g_letters g_letterCount g_told g_toldCount w_g_refusals g_costs g_gains g_seed ++ zb_M cI bd m_s m_m m_image m_was m_hasImage m_letters m_row m_refused m_letterMany m_rowMany m_place m_numbers m_cost m_seed) H := hP
  have hD : va_D A (zb_G cI ad w_g_now g_mind g_taken g_isTaken g_letters g_letterCount g_told g_toldCount w_g_refusals g_costs g_gains g_seed ++ zb_M cI bd m_s m_m m_image m_was m_hasImage m_letters m_row m_refused m_letterMany m_rowMany m_place m_numbers m_cost m_seed) := hD
  refine lv_aload_n hx hb dL_law_384 rfl (lv_at hl 2 rfl) ?_
  refine lv_aload_n hx hb dL_law_385 rfl (lv_at hl 0 rfl) ?_
  refine lv_iload_n hx hb dL_law_386 rfl (lv_at hl 3 rfl) ?_
  refine lv_iconst (v := (1 : Int32)) hx hb dL_law_387 (by decide) ?_
  refine lv_iadd hx hb dL_law_388 ?_
  refine va_sld hx hb hX hbl hbA hS (in1) dL_law_389 ?_
  refine lv_aload_n hx hb dL_law_390 rfl (lv_at hl 0 rfl) ?_
  refine lv_iload_n hx hb dL_law_391 rfl (lv_at hl 3 rfl) ?_
  refine lv_iconst (v := (2 : Int32)) hx hb dL_law_392 (by decide) ?_
  refine lv_iadd hx hb dL_law_393 ?_
  refine va_sld hx hb hX hbl hbA hS (in2) dL_law_394 ?_
  refine zb_callV (As := [.int (xs (nI i + 1).toNatClampNeg), .int (xs (nI i + 2).toNatClampNeg)]) (rest := [.int r0]) ⟨hx, hb, hml, hown, hts⟩ (zc_X2_comesIn l D cI bd m_s m_m m_image m_was m_hasImage m_letters m_row m_refused m_letterMany m_rowMany m_place m_numbers m_cost m_seed (xs (nI i + 1).toNatClampNeg) (xs (nI i + 2).toNatClampNeg) q0 y_m_s y_m_refused f2) (cwV 2 hts gQ_X2_comesIn rfl rfl rfl hd_X2_comesIn ⟨Nat.le_of_ble_eq_true rfl, Nat.le_of_ble_eq_true rfl⟩) hK hP hD hS hA (zb_lM) (q0 := 0) rfl rfl rfl hl.1 rfl (Nat.le_of_ble_eq_true rfl) dL_law_395 ⟨Nat.le_refl _, Nat.le_refl _⟩ (fun H locs hP hD hS => ?_)
  have hP : va_P D zb_cl (zb_G cI ad w_g_now g_mind g_taken g_isTaken g_letters g_letterCount g_told g_toldCount w_g_refusals g_costs g_gains g_seed ++ zb_M cI bd y_m_s m_m m_image m_was m_hasImage m_letters m_row y_m_refused m_letterMany m_rowMany m_place m_numbers m_cost m_seed) H := hP
  have hD : va_D A (zb_G cI ad w_g_now g_mind g_taken g_isTaken g_letters g_letterCount g_told g_toldCount w_g_refusals g_costs g_gains g_seed ++ zb_M cI bd y_m_s m_m m_image m_was m_hasImage m_letters m_row y_m_refused m_letterMany m_rowMany m_place m_numbers m_cost m_seed) := hD
  have hLS : zLS D cI ad bd A s H locs := ⟨w_g_now, g_mind, g_taken, g_isTaken, g_letters, g_letterCount, g_told, g_toldCount, w_g_refusals, g_costs, g_gains, g_seed, y_m_s, m_m, m_image, m_was, m_hasImage, m_letters, m_row, y_m_refused, m_letterMany, m_rowMany, m_place, m_numbers, m_cost, m_seed, ⟨sRN, hRT, hRE, hRO, sRR⟩, hP, hD, hS⟩
  refine lv_icmp_eq (tgt := 1292) hx hb dL_law_398 (by decide) (fun _ => kk H locs hLS) (fun c9 => absurd e0 c9)
set_option maxHeartbeats 4000000 in
set_option maxRecDepth 100000 in
theorem lc_heads (hx : p.tables.exec = Jvm.exec) (hb : c.code = cL_law) (hml : c.maxLocals = 4) (hown : s.vm.findClass RL = some m.cls) (hts : ∀ w ∈ lw_tbl, w.before #[Value.ref b] s = true) (hX : va_X b Ln xs s s.heap) (hbl : b < s.heap.size) (hbA : ¬ A b) (hK : zb_K D cI s) (hE : zb_E aK aV A s s.heap) (hA : ∀ q, s.heap.size ≤ q → A q) {H : Heap} {locs : List Loc} {ls : Array Slot} {i : Nat} (hi : i + 6 ≤ Ln) (hLn : Ln ≤ 3072) (hl : lv_has ls 4 [(0, .ref b), (1, .ref (ad 0)), (2, .ref (bd 0)), (3, .int (nI i))]) (h : zLS D cI ad bd A s H locs) (kk : ∀ (H : Heap) (locs : List Loc), zLS D cI ad bd A s H locs → W p l e room_1 s m #[Value.ref b] below meth c H locs 37 1084 (lw_Z below #[Value.ref b] s) (F0 m 1292 ls [])) : W p l e room_1 s m #[Value.ref b] below meth c H locs 37 1084 (lw_Z below #[Value.ref b] s) (F0 m 403 ls []) := by
  obtain ⟨g_now, g_mind, g_taken, g_isTaken, g_letters, g_letterCount, g_told, g_toldCount, g_refusals, g_costs, g_gains, g_seed, m_s, m_m, m_image, m_was, m_hasImage, m_letters, m_row, m_refused, m_letterMany, m_rowMany, m_place, m_numbers, m_cost, m_seed, ⟨hRN, hRT, hRE, hRO, hRR⟩, hP, hD, hS⟩ := h
  have in1 : vp_in (nI i + (1 : Int32)) Ln := by rw [show (1 : Int32) = nI 1 from rfl, nI_add]; exact nI_in (by omega) (by omega)
  have in2 : vp_in (nI i + (2 : Int32)) Ln := by rw [show (2 : Int32) = nI 2 from rfl, nI_add]; exact nI_in (by omega) (by omega)
  have SIM : Ok (fun a b => a.1 = b.1 ∧ RN a.2.1 b.2.1 ∧ RR a.2.2 b.2.2) (zf_X1_heads g_now g_refusals (xs (nI i + 1).toNatClampNeg) (xs (nI i + 2).toNatClampNeg)) (zf_X2_heads m_s m_refused (xs (nI i + 1).toNatClampNeg) (xs (nI i + 2).toNatClampNeg)) := sim_heads hRN hRR (xs (nI i + 1).toNatClampNeg) (xs (nI i + 2).toNatClampNeg)
  obtain ⟨⟨r0, w_g_now, w_g_refusals⟩, ⟨q0, y_m_s, y_m_refused⟩, f1, f2, e0, sRN, sRR⟩ := SIM
  try dsimp only at e0 sRN sRR
  refine lv_aload_n hx hb dL_law_403 rfl (lv_at hl 1 rfl) ?_
  refine lv_aload_n hx hb dL_law_404 rfl (lv_at hl 0 rfl) ?_
  refine lv_iload_n hx hb dL_law_405 rfl (lv_at hl 3 rfl) ?_
  refine lv_iconst (v := (1 : Int32)) hx hb dL_law_406 (by decide) ?_
  refine lv_iadd hx hb dL_law_407 ?_
  refine va_sld hx hb hX hbl hbA hS (in1) dL_law_408 ?_
  refine lv_aload_n hx hb dL_law_409 rfl (lv_at hl 0 rfl) ?_
  refine lv_iload_n hx hb dL_law_410 rfl (lv_at hl 3 rfl) ?_
  refine lv_iconst (v := (2 : Int32)) hx hb dL_law_411 (by decide) ?_
  refine lv_iadd hx hb dL_law_412 ?_
  refine va_sld hx hb hX hbl hbA hS (in2) dL_law_413 ?_
  refine zb_callV (As := [.int (xs (nI i + 1).toNatClampNeg), .int (xs (nI i + 2).toNatClampNeg)]) (rest := []) ⟨hx, hb, hml, hown, hts⟩ (zc_X1_heads l D cI ad g_now g_mind g_taken g_isTaken g_letters g_letterCount g_told g_toldCount g_refusals g_costs g_gains g_seed (xs (nI i + 1).toNatClampNeg) (xs (nI i + 2).toNatClampNeg) r0 w_g_now w_g_refusals f1) (cwV 2 hts gQ_X1_heads rfl rfl rfl hd_X1_heads ⟨Nat.le_of_ble_eq_true rfl, Nat.le_of_ble_eq_true rfl⟩) hK hP hD hS hA (zb_lG) (q0 := 0) rfl rfl rfl hl.1 rfl (Nat.le_of_ble_eq_true rfl) dL_law_414 ⟨Nat.le_refl _, Nat.le_refl _⟩ (fun H locs hP hD hS => ?_)
  have hP : va_P D zb_cl (zb_G cI ad w_g_now g_mind g_taken g_isTaken g_letters g_letterCount g_told g_toldCount w_g_refusals g_costs g_gains g_seed ++ zb_M cI bd m_s m_m m_image m_was m_hasImage m_letters m_row m_refused m_letterMany m_rowMany m_place m_numbers m_cost m_seed) H := hP
  have hD : va_D A (zb_G cI ad w_g_now g_mind g_taken g_isTaken g_letters g_letterCount g_told g_toldCount w_g_refusals g_costs g_gains g_seed ++ zb_M cI bd m_s m_m m_image m_was m_hasImage m_letters m_row m_refused m_letterMany m_rowMany m_place m_numbers m_cost m_seed) := hD
  refine lv_aload_n hx hb dL_law_417 rfl (lv_at hl 2 rfl) ?_
  refine lv_aload_n hx hb dL_law_418 rfl (lv_at hl 0 rfl) ?_
  refine lv_iload_n hx hb dL_law_419 rfl (lv_at hl 3 rfl) ?_
  refine lv_iconst (v := (1 : Int32)) hx hb dL_law_420 (by decide) ?_
  refine lv_iadd hx hb dL_law_421 ?_
  refine va_sld hx hb hX hbl hbA hS (in1) dL_law_422 ?_
  refine lv_aload_n hx hb dL_law_423 rfl (lv_at hl 0 rfl) ?_
  refine lv_iload_n hx hb dL_law_424 rfl (lv_at hl 3 rfl) ?_
  refine lv_iconst (v := (2 : Int32)) hx hb dL_law_425 (by decide) ?_
  refine lv_iadd hx hb dL_law_426 ?_
  refine va_sld hx hb hX hbl hbA hS (in2) dL_law_427 ?_
  refine zb_callV (As := [.int (xs (nI i + 1).toNatClampNeg), .int (xs (nI i + 2).toNatClampNeg)]) (rest := [.int r0]) ⟨hx, hb, hml, hown, hts⟩ (zc_X2_heads l D cI bd m_s m_m m_image m_was m_hasImage m_letters m_row m_refused m_letterMany m_rowMany m_place m_numbers m_cost m_seed (xs (nI i + 1).toNatClampNeg) (xs (nI i + 2).toNatClampNeg) q0 y_m_s y_m_refused f2) (cwV 2 hts gQ_X2_heads rfl rfl rfl hd_X2_heads ⟨Nat.le_of_ble_eq_true rfl, Nat.le_of_ble_eq_true rfl⟩) hK hP hD hS hA (zb_lM) (q0 := 0) rfl rfl rfl hl.1 rfl (Nat.le_of_ble_eq_true rfl) dL_law_428 ⟨Nat.le_refl _, Nat.le_refl _⟩ (fun H locs hP hD hS => ?_)
  have hP : va_P D zb_cl (zb_G cI ad w_g_now g_mind g_taken g_isTaken g_letters g_letterCount g_told g_toldCount w_g_refusals g_costs g_gains g_seed ++ zb_M cI bd y_m_s m_m m_image m_was m_hasImage m_letters m_row y_m_refused m_letterMany m_rowMany m_place m_numbers m_cost m_seed) H := hP
  have hD : va_D A (zb_G cI ad w_g_now g_mind g_taken g_isTaken g_letters g_letterCount g_told g_toldCount w_g_refusals g_costs g_gains g_seed ++ zb_M cI bd y_m_s m_m m_image m_was m_hasImage m_letters m_row y_m_refused m_letterMany m_rowMany m_place m_numbers m_cost m_seed) := hD
  have hLS : zLS D cI ad bd A s H locs := ⟨w_g_now, g_mind, g_taken, g_isTaken, g_letters, g_letterCount, g_told, g_toldCount, w_g_refusals, g_costs, g_gains, g_seed, y_m_s, m_m, m_image, m_was, m_hasImage, m_letters, m_row, y_m_refused, m_letterMany, m_rowMany, m_place, m_numbers, m_cost, m_seed, ⟨sRN, hRT, hRE, hRO, sRR⟩, hP, hD, hS⟩
  refine lv_icmp_eq (tgt := 1292) hx hb dL_law_431 (by decide) (fun _ => kk H locs hLS) (fun c9 => absurd e0 c9)
set_option maxHeartbeats 4000000 in
set_option maxRecDepth 100000 in
theorem lc_stands (hx : p.tables.exec = Jvm.exec) (hb : c.code = cL_law) (hml : c.maxLocals = 4) (hown : s.vm.findClass RL = some m.cls) (hts : ∀ w ∈ lw_tbl, w.before #[Value.ref b] s = true) (hX : va_X b Ln xs s s.heap) (hbl : b < s.heap.size) (hbA : ¬ A b) (hK : zb_K D cI s) (hE : zb_E aK aV A s s.heap) (hA : ∀ q, s.heap.size ≤ q → A q) {H : Heap} {locs : List Loc} {ls : Array Slot} {i : Nat} (hi : i + 6 ≤ Ln) (hLn : Ln ≤ 3072) (hl : lv_has ls 4 [(0, .ref b), (1, .ref (ad 0)), (2, .ref (bd 0)), (3, .int (nI i))]) (h : zLS D cI ad bd A s H locs) (kk : ∀ (H : Heap) (locs : List Loc), zLS D cI ad bd A s H locs → W p l e room_1 s m #[Value.ref b] below meth c H locs 37 1084 (lw_Z below #[Value.ref b] s) (F0 m 1292 ls [])) : W p l e room_1 s m #[Value.ref b] below meth c H locs 37 1084 (lw_Z below #[Value.ref b] s) (F0 m 436 ls []) := by
  obtain ⟨g_now, g_mind, g_taken, g_isTaken, g_letters, g_letterCount, g_told, g_toldCount, g_refusals, g_costs, g_gains, g_seed, m_s, m_m, m_image, m_was, m_hasImage, m_letters, m_row, m_refused, m_letterMany, m_rowMany, m_place, m_numbers, m_cost, m_seed, ⟨hRN, hRT, hRE, hRO, hRR⟩, hP, hD, hS⟩ := h
  have in1 : vp_in (nI i + (1 : Int32)) Ln := by rw [show (1 : Int32) = nI 1 from rfl, nI_add]; exact nI_in (by omega) (by omega)
  have in2 : vp_in (nI i + (2 : Int32)) Ln := by rw [show (2 : Int32) = nI 2 from rfl, nI_add]; exact nI_in (by omega) (by omega)
  have SIM : Ok (fun a b => a.1 = b.1 ∧ RN a.2.1 b.2.1 ∧ RR a.2.2 b.2.2) (zf_X1_stands g_now g_refusals (xs (nI i + 1).toNatClampNeg) (xs (nI i + 2).toNatClampNeg)) (zf_X2_stands m_s m_refused (xs (nI i + 1).toNatClampNeg) (xs (nI i + 2).toNatClampNeg)) := sim_stands hRN hRR (xs (nI i + 1).toNatClampNeg) (xs (nI i + 2).toNatClampNeg)
  obtain ⟨⟨r0, w_g_now, w_g_refusals⟩, ⟨q0, y_m_s, y_m_refused⟩, f1, f2, e0, sRN, sRR⟩ := SIM
  try dsimp only at e0 sRN sRR
  refine lv_aload_n hx hb dL_law_436 rfl (lv_at hl 1 rfl) ?_
  refine lv_aload_n hx hb dL_law_437 rfl (lv_at hl 0 rfl) ?_
  refine lv_iload_n hx hb dL_law_438 rfl (lv_at hl 3 rfl) ?_
  refine lv_iconst (v := (1 : Int32)) hx hb dL_law_439 (by decide) ?_
  refine lv_iadd hx hb dL_law_440 ?_
  refine va_sld hx hb hX hbl hbA hS (in1) dL_law_441 ?_
  refine lv_aload_n hx hb dL_law_442 rfl (lv_at hl 0 rfl) ?_
  refine lv_iload_n hx hb dL_law_443 rfl (lv_at hl 3 rfl) ?_
  refine lv_iconst (v := (2 : Int32)) hx hb dL_law_444 (by decide) ?_
  refine lv_iadd hx hb dL_law_445 ?_
  refine va_sld hx hb hX hbl hbA hS (in2) dL_law_446 ?_
  refine zb_callV (As := [.int (xs (nI i + 1).toNatClampNeg), .int (xs (nI i + 2).toNatClampNeg)]) (rest := []) ⟨hx, hb, hml, hown, hts⟩ (zc_X1_stands l D cI ad g_now g_mind g_taken g_isTaken g_letters g_letterCount g_told g_toldCount g_refusals g_costs g_gains g_seed (xs (nI i + 1).toNatClampNeg) (xs (nI i + 2).toNatClampNeg) r0 w_g_now w_g_refusals f1) (cwV 2 hts gQ_X1_stands rfl rfl rfl hd_X1_stands ⟨Nat.le_of_ble_eq_true rfl, Nat.le_of_ble_eq_true rfl⟩) hK hP hD hS hA (zb_lG) (q0 := 0) rfl rfl rfl hl.1 rfl (Nat.le_of_ble_eq_true rfl) dL_law_447 ⟨Nat.le_refl _, Nat.le_refl _⟩ (fun H locs hP hD hS => ?_)
  have hP : va_P D zb_cl (zb_G cI ad w_g_now g_mind g_taken g_isTaken g_letters g_letterCount g_told g_toldCount w_g_refusals g_costs g_gains g_seed ++ zb_M cI bd m_s m_m m_image m_was m_hasImage m_letters m_row m_refused m_letterMany m_rowMany m_place m_numbers m_cost m_seed) H := hP
  have hD : va_D A (zb_G cI ad w_g_now g_mind g_taken g_isTaken g_letters g_letterCount g_told g_toldCount w_g_refusals g_costs g_gains g_seed ++ zb_M cI bd m_s m_m m_image m_was m_hasImage m_letters m_row m_refused m_letterMany m_rowMany m_place m_numbers m_cost m_seed) := hD
  refine lv_aload_n hx hb dL_law_450 rfl (lv_at hl 2 rfl) ?_
  refine lv_aload_n hx hb dL_law_451 rfl (lv_at hl 0 rfl) ?_
  refine lv_iload_n hx hb dL_law_452 rfl (lv_at hl 3 rfl) ?_
  refine lv_iconst (v := (1 : Int32)) hx hb dL_law_453 (by decide) ?_
  refine lv_iadd hx hb dL_law_454 ?_
  refine va_sld hx hb hX hbl hbA hS (in1) dL_law_455 ?_
  refine lv_aload_n hx hb dL_law_456 rfl (lv_at hl 0 rfl) ?_
  refine lv_iload_n hx hb dL_law_457 rfl (lv_at hl 3 rfl) ?_
  refine lv_iconst (v := (2 : Int32)) hx hb dL_law_458 (by decide) ?_
  refine lv_iadd hx hb dL_law_459 ?_
  refine va_sld hx hb hX hbl hbA hS (in2) dL_law_460 ?_
  refine zb_callV (As := [.int (xs (nI i + 1).toNatClampNeg), .int (xs (nI i + 2).toNatClampNeg)]) (rest := [.int r0]) ⟨hx, hb, hml, hown, hts⟩ (zc_X2_stands l D cI bd m_s m_m m_image m_was m_hasImage m_letters m_row m_refused m_letterMany m_rowMany m_place m_numbers m_cost m_seed (xs (nI i + 1).toNatClampNeg) (xs (nI i + 2).toNatClampNeg) q0 y_m_s y_m_refused f2) (cwV 2 hts gQ_X2_stands rfl rfl rfl hd_X2_stands ⟨Nat.le_of_ble_eq_true rfl, Nat.le_of_ble_eq_true rfl⟩) hK hP hD hS hA (zb_lM) (q0 := 0) rfl rfl rfl hl.1 rfl (Nat.le_of_ble_eq_true rfl) dL_law_461 ⟨Nat.le_refl _, Nat.le_refl _⟩ (fun H locs hP hD hS => ?_)
  have hP : va_P D zb_cl (zb_G cI ad w_g_now g_mind g_taken g_isTaken g_letters g_letterCount g_told g_toldCount w_g_refusals g_costs g_gains g_seed ++ zb_M cI bd y_m_s m_m m_image m_was m_hasImage m_letters m_row y_m_refused m_letterMany m_rowMany m_place m_numbers m_cost m_seed) H := hP
  have hD : va_D A (zb_G cI ad w_g_now g_mind g_taken g_isTaken g_letters g_letterCount g_told g_toldCount w_g_refusals g_costs g_gains g_seed ++ zb_M cI bd y_m_s m_m m_image m_was m_hasImage m_letters m_row y_m_refused m_letterMany m_rowMany m_place m_numbers m_cost m_seed) := hD
  have hLS : zLS D cI ad bd A s H locs := ⟨w_g_now, g_mind, g_taken, g_isTaken, g_letters, g_letterCount, g_told, g_toldCount, w_g_refusals, g_costs, g_gains, g_seed, y_m_s, m_m, m_image, m_was, m_hasImage, m_letters, m_row, y_m_refused, m_letterMany, m_rowMany, m_place, m_numbers, m_cost, m_seed, ⟨sRN, hRT, hRE, hRO, sRR⟩, hP, hD, hS⟩
  refine lv_icmp_eq (tgt := 1292) hx hb dL_law_464 (by decide) (fun _ => kk H locs hLS) (fun c9 => absurd e0 c9)
set_option maxHeartbeats 4000000 in
set_option maxRecDepth 100000 in
theorem lc_steps (hx : p.tables.exec = Jvm.exec) (hb : c.code = cL_law) (hml : c.maxLocals = 4) (hown : s.vm.findClass RL = some m.cls) (hts : ∀ w ∈ lw_tbl, w.before #[Value.ref b] s = true) (hX : va_X b Ln xs s s.heap) (hbl : b < s.heap.size) (hbA : ¬ A b) (hK : zb_K D cI s) (hE : zb_E aK aV A s s.heap) (hA : ∀ q, s.heap.size ≤ q → A q) {H : Heap} {locs : List Loc} {ls : Array Slot} {i : Nat} (hi : i + 6 ≤ Ln) (hLn : Ln ≤ 3072) (hl : lv_has ls 4 [(0, .ref b), (1, .ref (ad 0)), (2, .ref (bd 0)), (3, .int (nI i))]) (h : zLS D cI ad bd A s H locs) (kk : ∀ (H : Heap) (locs : List Loc), zLS D cI ad bd A s H locs → W p l e room_1 s m #[Value.ref b] below meth c H locs 37 1084 (lw_Z below #[Value.ref b] s) (F0 m 1292 ls [])) : W p l e room_1 s m #[Value.ref b] below meth c H locs 37 1084 (lw_Z below #[Value.ref b] s) (F0 m 469 ls []) := by
  obtain ⟨g_now, g_mind, g_taken, g_isTaken, g_letters, g_letterCount, g_told, g_toldCount, g_refusals, g_costs, g_gains, g_seed, m_s, m_m, m_image, m_was, m_hasImage, m_letters, m_row, m_refused, m_letterMany, m_rowMany, m_place, m_numbers, m_cost, m_seed, ⟨hRN, hRT, hRE, hRO, hRR⟩, hP, hD, hS⟩ := h
  have in1 : vp_in (nI i + (1 : Int32)) Ln := by rw [show (1 : Int32) = nI 1 from rfl, nI_add]; exact nI_in (by omega) (by omega)
  have SIM : Ok (fun a b => a.1 = b.1 ∧ RN a.2.1 b.2.1 ∧ RR a.2.2 b.2.2) (zf_X1_steps g_now g_refusals (xs (nI i + 1).toNatClampNeg)) (zf_X2_steps m_s m_refused (xs (nI i + 1).toNatClampNeg)) := sim_steps hRN hRR (xs (nI i + 1).toNatClampNeg)
  obtain ⟨⟨r0, w_g_now, w_g_refusals⟩, ⟨q0, y_m_s, y_m_refused⟩, f1, f2, e0, sRN, sRR⟩ := SIM
  try dsimp only at e0 sRN sRR
  refine lv_aload_n hx hb dL_law_469 rfl (lv_at hl 1 rfl) ?_
  refine lv_aload_n hx hb dL_law_470 rfl (lv_at hl 0 rfl) ?_
  refine lv_iload_n hx hb dL_law_471 rfl (lv_at hl 3 rfl) ?_
  refine lv_iconst (v := (1 : Int32)) hx hb dL_law_472 (by decide) ?_
  refine lv_iadd hx hb dL_law_473 ?_
  refine va_sld hx hb hX hbl hbA hS (in1) dL_law_474 ?_
  refine zb_callV (As := [.int (xs (nI i + 1).toNatClampNeg)]) (rest := []) ⟨hx, hb, hml, hown, hts⟩ (zc_X1_steps l D cI ad g_now g_mind g_taken g_isTaken g_letters g_letterCount g_told g_toldCount g_refusals g_costs g_gains g_seed (xs (nI i + 1).toNatClampNeg) r0 w_g_now w_g_refusals f1) (cwV 1 hts gQ_X1_steps rfl rfl rfl hd_X1_steps ⟨Nat.le_of_ble_eq_true rfl, Nat.le_of_ble_eq_true rfl⟩) hK hP hD hS hA (zb_lG) (q0 := 0) rfl rfl rfl hl.1 rfl (Nat.le_of_ble_eq_true rfl) dL_law_475 ⟨Nat.le_refl _, Nat.le_refl _⟩ (fun H locs hP hD hS => ?_)
  have hP : va_P D zb_cl (zb_G cI ad w_g_now g_mind g_taken g_isTaken g_letters g_letterCount g_told g_toldCount w_g_refusals g_costs g_gains g_seed ++ zb_M cI bd m_s m_m m_image m_was m_hasImage m_letters m_row m_refused m_letterMany m_rowMany m_place m_numbers m_cost m_seed) H := hP
  have hD : va_D A (zb_G cI ad w_g_now g_mind g_taken g_isTaken g_letters g_letterCount g_told g_toldCount w_g_refusals g_costs g_gains g_seed ++ zb_M cI bd m_s m_m m_image m_was m_hasImage m_letters m_row m_refused m_letterMany m_rowMany m_place m_numbers m_cost m_seed) := hD
  refine lv_aload_n hx hb dL_law_478 rfl (lv_at hl 2 rfl) ?_
  refine lv_aload_n hx hb dL_law_479 rfl (lv_at hl 0 rfl) ?_
  refine lv_iload_n hx hb dL_law_480 rfl (lv_at hl 3 rfl) ?_
  refine lv_iconst (v := (1 : Int32)) hx hb dL_law_481 (by decide) ?_
  refine lv_iadd hx hb dL_law_482 ?_
  refine va_sld hx hb hX hbl hbA hS (in1) dL_law_483 ?_
  refine zb_callV (As := [.int (xs (nI i + 1).toNatClampNeg)]) (rest := [.int r0]) ⟨hx, hb, hml, hown, hts⟩ (zc_X2_steps l D cI bd m_s m_m m_image m_was m_hasImage m_letters m_row m_refused m_letterMany m_rowMany m_place m_numbers m_cost m_seed (xs (nI i + 1).toNatClampNeg) q0 y_m_s y_m_refused f2) (cwV 1 hts gQ_X2_steps rfl rfl rfl hd_X2_steps ⟨Nat.le_of_ble_eq_true rfl, Nat.le_of_ble_eq_true rfl⟩) hK hP hD hS hA (zb_lM) (q0 := 0) rfl rfl rfl hl.1 rfl (Nat.le_of_ble_eq_true rfl) dL_law_484 ⟨Nat.le_refl _, Nat.le_refl _⟩ (fun H locs hP hD hS => ?_)
  have hP : va_P D zb_cl (zb_G cI ad w_g_now g_mind g_taken g_isTaken g_letters g_letterCount g_told g_toldCount w_g_refusals g_costs g_gains g_seed ++ zb_M cI bd y_m_s m_m m_image m_was m_hasImage m_letters m_row y_m_refused m_letterMany m_rowMany m_place m_numbers m_cost m_seed) H := hP
  have hD : va_D A (zb_G cI ad w_g_now g_mind g_taken g_isTaken g_letters g_letterCount g_told g_toldCount w_g_refusals g_costs g_gains g_seed ++ zb_M cI bd y_m_s m_m m_image m_was m_hasImage m_letters m_row y_m_refused m_letterMany m_rowMany m_place m_numbers m_cost m_seed) := hD
  have hLS : zLS D cI ad bd A s H locs := ⟨w_g_now, g_mind, g_taken, g_isTaken, g_letters, g_letterCount, g_told, g_toldCount, w_g_refusals, g_costs, g_gains, g_seed, y_m_s, m_m, m_image, m_was, m_hasImage, m_letters, m_row, y_m_refused, m_letterMany, m_rowMany, m_place, m_numbers, m_cost, m_seed, ⟨sRN, hRT, hRE, hRO, sRR⟩, hP, hD, hS⟩
  refine lv_icmp_eq (tgt := 1292) hx hb dL_law_487 (by decide) (fun _ => kk H locs hLS) (fun c9 => absurd e0 c9)
set_option maxHeartbeats 4000000 in
set_option maxRecDepth 100000 in
theorem lc_personThen (hx : p.tables.exec = Jvm.exec) (hb : c.code = cL_law) (hml : c.maxLocals = 4) (hown : s.vm.findClass RL = some m.cls) (hts : ∀ w ∈ lw_tbl, w.before #[Value.ref b] s = true) (hX : va_X b Ln xs s s.heap) (hbl : b < s.heap.size) (hbA : ¬ A b) (hK : zb_K D cI s) (hE : zb_E aK aV A s s.heap) (hA : ∀ q, s.heap.size ≤ q → A q) {H : Heap} {locs : List Loc} {ls : Array Slot} {i : Nat} (hi : i + 6 ≤ Ln) (hLn : Ln ≤ 3072) (hl : lv_has ls 4 [(0, .ref b), (1, .ref (ad 0)), (2, .ref (bd 0)), (3, .int (nI i))]) (h : zLS D cI ad bd A s H locs) (kk : ∀ (H : Heap) (locs : List Loc), zLS D cI ad bd A s H locs → W p l e room_1 s m #[Value.ref b] below meth c H locs 37 1084 (lw_Z below #[Value.ref b] s) (F0 m 1292 ls [])) : W p l e room_1 s m #[Value.ref b] below meth c H locs 37 1084 (lw_Z below #[Value.ref b] s) (F0 m 492 ls []) := by
  obtain ⟨g_now, g_mind, g_taken, g_isTaken, g_letters, g_letterCount, g_told, g_toldCount, g_refusals, g_costs, g_gains, g_seed, m_s, m_m, m_image, m_was, m_hasImage, m_letters, m_row, m_refused, m_letterMany, m_rowMany, m_place, m_numbers, m_cost, m_seed, ⟨hRN, hRT, hRE, hRO, hRR⟩, hP, hD, hS⟩ := h
  have in1 : vp_in (nI i + (1 : Int32)) Ln := by rw [show (1 : Int32) = nI 1 from rfl, nI_add]; exact nI_in (by omega) (by omega)
  have in2 : vp_in (nI i + (2 : Int32)) Ln := by rw [show (2 : Int32) = nI 2 from rfl, nI_add]; exact nI_in (by omega) (by omega)
  have in3 : vp_in (nI i + (3 : Int32)) Ln := by rw [show (3 : Int32) = nI 3 from rfl, nI_add]; exact nI_in (by omega) (by omega)
  have SIM : Ok (fun a b => a.1 = b.1 ∧ RR a.2.2 b.2.2) (zf_X1_personThen g_now g_mind g_refusals (xs (nI i + 1).toNatClampNeg) (xs (nI i + 2).toNatClampNeg) (xs (nI i + 3).toNatClampNeg)) (zf_X2_personThen m_s m_m m_refused (xs (nI i + 1).toNatClampNeg) (xs (nI i + 2).toNatClampNeg) (xs (nI i + 3).toNatClampNeg)) := sim_personThen hRN hRR (xs (nI i + 1).toNatClampNeg) (xs (nI i + 2).toNatClampNeg) (xs (nI i + 3).toNatClampNeg)
  obtain ⟨⟨r0, w_g_mind, w_g_refusals⟩, ⟨q0, y_m_m, y_m_refused⟩, f1, f2, e0, sRR⟩ := SIM
  try dsimp only at e0 sRR
  refine lv_aload_n hx hb dL_law_492 rfl (lv_at hl 1 rfl) ?_
  refine lv_aload_n hx hb dL_law_493 rfl (lv_at hl 0 rfl) ?_
  refine lv_iload_n hx hb dL_law_494 rfl (lv_at hl 3 rfl) ?_
  refine lv_iconst (v := (1 : Int32)) hx hb dL_law_495 (by decide) ?_
  refine lv_iadd hx hb dL_law_496 ?_
  refine va_sld hx hb hX hbl hbA hS (in1) dL_law_497 ?_
  refine lv_aload_n hx hb dL_law_498 rfl (lv_at hl 0 rfl) ?_
  refine lv_iload_n hx hb dL_law_499 rfl (lv_at hl 3 rfl) ?_
  refine lv_iconst (v := (2 : Int32)) hx hb dL_law_500 (by decide) ?_
  refine lv_iadd hx hb dL_law_501 ?_
  refine va_sld hx hb hX hbl hbA hS (in2) dL_law_502 ?_
  refine lv_aload_n hx hb dL_law_503 rfl (lv_at hl 0 rfl) ?_
  refine lv_iload_n hx hb dL_law_504 rfl (lv_at hl 3 rfl) ?_
  refine lv_iconst (v := (3 : Int32)) hx hb dL_law_505 (by decide) ?_
  refine lv_iadd hx hb dL_law_506 ?_
  refine va_sld hx hb hX hbl hbA hS (in3) dL_law_507 ?_
  refine zb_callV (As := [.int (xs (nI i + 1).toNatClampNeg), .int (xs (nI i + 2).toNatClampNeg), .int (xs (nI i + 3).toNatClampNeg)]) (rest := []) ⟨hx, hb, hml, hown, hts⟩ (zc_X1_personThen l D cI ad g_now g_mind g_taken g_isTaken g_letters g_letterCount g_told g_toldCount g_refusals g_costs g_gains g_seed (xs (nI i + 1).toNatClampNeg) (xs (nI i + 2).toNatClampNeg) (xs (nI i + 3).toNatClampNeg) r0 w_g_mind w_g_refusals f1) (cwV 3 hts gQ_X1_personThen rfl rfl rfl hd_X1_personThen ⟨Nat.le_of_ble_eq_true rfl, Nat.le_of_ble_eq_true rfl⟩) hK hP hD hS hA (zb_lG) (q0 := 0) rfl rfl rfl hl.1 rfl (Nat.le_of_ble_eq_true rfl) dL_law_508 ⟨Nat.le_refl _, Nat.le_refl _⟩ (fun H locs hP hD hS => ?_)
  have hP : va_P D zb_cl (zb_G cI ad g_now w_g_mind g_taken g_isTaken g_letters g_letterCount g_told g_toldCount w_g_refusals g_costs g_gains g_seed ++ zb_M cI bd m_s m_m m_image m_was m_hasImage m_letters m_row m_refused m_letterMany m_rowMany m_place m_numbers m_cost m_seed) H := hP
  have hD : va_D A (zb_G cI ad g_now w_g_mind g_taken g_isTaken g_letters g_letterCount g_told g_toldCount w_g_refusals g_costs g_gains g_seed ++ zb_M cI bd m_s m_m m_image m_was m_hasImage m_letters m_row m_refused m_letterMany m_rowMany m_place m_numbers m_cost m_seed) := hD
  refine lv_aload_n hx hb dL_law_511 rfl (lv_at hl 2 rfl) ?_
  refine lv_aload_n hx hb dL_law_512 rfl (lv_at hl 0 rfl) ?_
  refine lv_iload_n hx hb dL_law_513 rfl (lv_at hl 3 rfl) ?_
  refine lv_iconst (v := (1 : Int32)) hx hb dL_law_514 (by decide) ?_
  refine lv_iadd hx hb dL_law_515 ?_
  refine va_sld hx hb hX hbl hbA hS (in1) dL_law_516 ?_
  refine lv_aload_n hx hb dL_law_517 rfl (lv_at hl 0 rfl) ?_
  refine lv_iload_n hx hb dL_law_518 rfl (lv_at hl 3 rfl) ?_
  refine lv_iconst (v := (2 : Int32)) hx hb dL_law_519 (by decide) ?_
  refine lv_iadd hx hb dL_law_520 ?_
  refine va_sld hx hb hX hbl hbA hS (in2) dL_law_521 ?_
  refine lv_aload_n hx hb dL_law_522 rfl (lv_at hl 0 rfl) ?_
  refine lv_iload_n hx hb dL_law_523 rfl (lv_at hl 3 rfl) ?_
  refine lv_iconst (v := (3 : Int32)) hx hb dL_law_524 (by decide) ?_
  refine lv_iadd hx hb dL_law_525 ?_
  refine va_sld hx hb hX hbl hbA hS (in3) dL_law_526 ?_
  refine zb_callV (As := [.int (xs (nI i + 1).toNatClampNeg), .int (xs (nI i + 2).toNatClampNeg), .int (xs (nI i + 3).toNatClampNeg)]) (rest := [.int r0]) ⟨hx, hb, hml, hown, hts⟩ (zc_X2_personThen l D cI bd m_s m_m m_image m_was m_hasImage m_letters m_row m_refused m_letterMany m_rowMany m_place m_numbers m_cost m_seed (xs (nI i + 1).toNatClampNeg) (xs (nI i + 2).toNatClampNeg) (xs (nI i + 3).toNatClampNeg) q0 y_m_m y_m_refused f2) (cwV 3 hts gQ_X2_personThen rfl rfl rfl hd_X2_personThen ⟨Nat.le_of_ble_eq_true rfl, Nat.le_of_ble_eq_true rfl⟩) hK hP hD hS hA (zb_lM) (q0 := 0) rfl rfl rfl hl.1 rfl (Nat.le_of_ble_eq_true rfl) dL_law_527 ⟨Nat.le_refl _, Nat.le_refl _⟩ (fun H locs hP hD hS => ?_)
  have hP : va_P D zb_cl (zb_G cI ad g_now w_g_mind g_taken g_isTaken g_letters g_letterCount g_told g_toldCount w_g_refusals g_costs g_gains g_seed ++ zb_M cI bd m_s y_m_m m_image m_was m_hasImage m_letters m_row y_m_refused m_letterMany m_rowMany m_place m_numbers m_cost m_seed) H := hP
  have hD : va_D A (zb_G cI ad g_now w_g_mind g_taken g_isTaken g_letters g_letterCount g_told g_toldCount w_g_refusals g_costs g_gains g_seed ++ zb_M cI bd m_s y_m_m m_image m_was m_hasImage m_letters m_row y_m_refused m_letterMany m_rowMany m_place m_numbers m_cost m_seed) := hD
  have hLS : zLS D cI ad bd A s H locs := ⟨g_now, w_g_mind, g_taken, g_isTaken, g_letters, g_letterCount, g_told, g_toldCount, w_g_refusals, g_costs, g_gains, g_seed, m_s, y_m_m, m_image, m_was, m_hasImage, m_letters, m_row, y_m_refused, m_letterMany, m_rowMany, m_place, m_numbers, m_cost, m_seed, ⟨hRN, hRT, hRE, hRO, sRR⟩, hP, hD, hS⟩
  refine lv_icmp_eq (tgt := 1292) hx hb dL_law_530 (by decide) (fun _ => kk H locs hLS) (fun c9 => absurd e0 c9)
set_option maxHeartbeats 4000000 in
set_option maxRecDepth 100000 in
theorem lc_wetThen (hx : p.tables.exec = Jvm.exec) (hb : c.code = cL_law) (hml : c.maxLocals = 4) (hown : s.vm.findClass RL = some m.cls) (hts : ∀ w ∈ lw_tbl, w.before #[Value.ref b] s = true) (hX : va_X b Ln xs s s.heap) (hbl : b < s.heap.size) (hbA : ¬ A b) (hK : zb_K D cI s) (hE : zb_E aK aV A s s.heap) (hA : ∀ q, s.heap.size ≤ q → A q) {H : Heap} {locs : List Loc} {ls : Array Slot} {i : Nat} (hi : i + 6 ≤ Ln) (hLn : Ln ≤ 3072) (hl : lv_has ls 4 [(0, .ref b), (1, .ref (ad 0)), (2, .ref (bd 0)), (3, .int (nI i))]) (h : zLS D cI ad bd A s H locs) (kk : ∀ (H : Heap) (locs : List Loc), zLS D cI ad bd A s H locs → W p l e room_1 s m #[Value.ref b] below meth c H locs 37 1084 (lw_Z below #[Value.ref b] s) (F0 m 1292 ls [])) : W p l e room_1 s m #[Value.ref b] below meth c H locs 37 1084 (lw_Z below #[Value.ref b] s) (F0 m 535 ls []) := by
  obtain ⟨g_now, g_mind, g_taken, g_isTaken, g_letters, g_letterCount, g_told, g_toldCount, g_refusals, g_costs, g_gains, g_seed, m_s, m_m, m_image, m_was, m_hasImage, m_letters, m_row, m_refused, m_letterMany, m_rowMany, m_place, m_numbers, m_cost, m_seed, ⟨hRN, hRT, hRE, hRO, hRR⟩, hP, hD, hS⟩ := h
  have in1 : vp_in (nI i + (1 : Int32)) Ln := by rw [show (1 : Int32) = nI 1 from rfl, nI_add]; exact nI_in (by omega) (by omega)
  have in2 : vp_in (nI i + (2 : Int32)) Ln := by rw [show (2 : Int32) = nI 2 from rfl, nI_add]; exact nI_in (by omega) (by omega)
  have SIM : Ok (fun a b => a.1 = b.1 ∧ RR a.2.2 b.2.2) (zf_X1_wetThen g_now g_mind g_refusals (xs (nI i + 1).toNatClampNeg) (xs (nI i + 2).toNatClampNeg)) (zf_X2_wetThen m_s m_m m_refused (xs (nI i + 1).toNatClampNeg) (xs (nI i + 2).toNatClampNeg)) := sim_wetThen hRN hRR (xs (nI i + 1).toNatClampNeg) (xs (nI i + 2).toNatClampNeg)
  obtain ⟨⟨r0, w_g_mind, w_g_refusals⟩, ⟨q0, y_m_m, y_m_refused⟩, f1, f2, e0, sRR⟩ := SIM
  try dsimp only at e0 sRR
  refine lv_aload_n hx hb dL_law_535 rfl (lv_at hl 1 rfl) ?_
  refine lv_aload_n hx hb dL_law_536 rfl (lv_at hl 0 rfl) ?_
  refine lv_iload_n hx hb dL_law_537 rfl (lv_at hl 3 rfl) ?_
  refine lv_iconst (v := (1 : Int32)) hx hb dL_law_538 (by decide) ?_
  refine lv_iadd hx hb dL_law_539 ?_
  refine va_sld hx hb hX hbl hbA hS (in1) dL_law_540 ?_
  refine lv_aload_n hx hb dL_law_541 rfl (lv_at hl 0 rfl) ?_
  refine lv_iload_n hx hb dL_law_542 rfl (lv_at hl 3 rfl) ?_
  refine lv_iconst (v := (2 : Int32)) hx hb dL_law_543 (by decide) ?_
  refine lv_iadd hx hb dL_law_544 ?_
  refine va_sld hx hb hX hbl hbA hS (in2) dL_law_545 ?_
  refine zb_callV (As := [.int (xs (nI i + 1).toNatClampNeg), .int (xs (nI i + 2).toNatClampNeg)]) (rest := []) ⟨hx, hb, hml, hown, hts⟩ (zc_X1_wetThen l D cI ad g_now g_mind g_taken g_isTaken g_letters g_letterCount g_told g_toldCount g_refusals g_costs g_gains g_seed (xs (nI i + 1).toNatClampNeg) (xs (nI i + 2).toNatClampNeg) r0 w_g_mind w_g_refusals f1) (cwV 2 hts gQ_X1_wetThen rfl rfl rfl hd_X1_wetThen ⟨Nat.le_of_ble_eq_true rfl, Nat.le_of_ble_eq_true rfl⟩) hK hP hD hS hA (zb_lG) (q0 := 0) rfl rfl rfl hl.1 rfl (Nat.le_of_ble_eq_true rfl) dL_law_546 ⟨Nat.le_refl _, Nat.le_refl _⟩ (fun H locs hP hD hS => ?_)
  have hP : va_P D zb_cl (zb_G cI ad g_now w_g_mind g_taken g_isTaken g_letters g_letterCount g_told g_toldCount w_g_refusals g_costs g_gains g_seed ++ zb_M cI bd m_s m_m m_image m_was m_hasImage m_letters m_row m_refused m_letterMany m_rowMany m_place m_numbers m_cost m_seed) H := hP
  have hD : va_D A (zb_G cI ad g_now w_g_mind g_taken g_isTaken g_letters g_letterCount g_told g_toldCount w_g_refusals g_costs g_gains g_seed ++ zb_M cI bd m_s m_m m_image m_was m_hasImage m_letters m_row m_refused m_letterMany m_rowMany m_place m_numbers m_cost m_seed) := hD
  refine lv_aload_n hx hb dL_law_549 rfl (lv_at hl 2 rfl) ?_
  refine lv_aload_n hx hb dL_law_550 rfl (lv_at hl 0 rfl) ?_
  refine lv_iload_n hx hb dL_law_551 rfl (lv_at hl 3 rfl) ?_
  refine lv_iconst (v := (1 : Int32)) hx hb dL_law_552 (by decide) ?_
  refine lv_iadd hx hb dL_law_553 ?_
  refine va_sld hx hb hX hbl hbA hS (in1) dL_law_554 ?_
  refine lv_aload_n hx hb dL_law_555 rfl (lv_at hl 0 rfl) ?_
  refine lv_iload_n hx hb dL_law_556 rfl (lv_at hl 3 rfl) ?_
  refine lv_iconst (v := (2 : Int32)) hx hb dL_law_557 (by decide) ?_
  refine lv_iadd hx hb dL_law_558 ?_
  refine va_sld hx hb hX hbl hbA hS (in2) dL_law_559 ?_
  refine zb_callV (As := [.int (xs (nI i + 1).toNatClampNeg), .int (xs (nI i + 2).toNatClampNeg)]) (rest := [.int r0]) ⟨hx, hb, hml, hown, hts⟩ (zc_X2_wetThen l D cI bd m_s m_m m_image m_was m_hasImage m_letters m_row m_refused m_letterMany m_rowMany m_place m_numbers m_cost m_seed (xs (nI i + 1).toNatClampNeg) (xs (nI i + 2).toNatClampNeg) q0 y_m_m y_m_refused f2) (cwV 2 hts gQ_X2_wetThen rfl rfl rfl hd_X2_wetThen ⟨Nat.le_of_ble_eq_true rfl, Nat.le_of_ble_eq_true rfl⟩) hK hP hD hS hA (zb_lM) (q0 := 0) rfl rfl rfl hl.1 rfl (Nat.le_of_ble_eq_true rfl) dL_law_560 ⟨Nat.le_refl _, Nat.le_refl _⟩ (fun H locs hP hD hS => ?_)
  have hP : va_P D zb_cl (zb_G cI ad g_now w_g_mind g_taken g_isTaken g_letters g_letterCount g_told g_toldCount w_g_refusals g_costs g_gains g_seed ++ zb_M cI bd m_s y_m_m m_image m_was m_hasImage m_letters m_row y_m_refused m_letterMany m_rowMany m_place m_numbers m_cost m_seed) H := hP
  have hD : va_D A (zb_G cI ad g_now w_g_mind g_taken g_isTaken g_letters g_letterCount g_told g_toldCount w_g_refusals g_costs g_gains g_seed ++ zb_M cI bd m_s y_m_m m_image m_was m_hasImage m_letters m_row y_m_refused m_letterMany m_rowMany m_place m_numbers m_cost m_seed) := hD
  have hLS : zLS D cI ad bd A s H locs := ⟨g_now, w_g_mind, g_taken, g_isTaken, g_letters, g_letterCount, g_told, g_toldCount, w_g_refusals, g_costs, g_gains, g_seed, m_s, y_m_m, m_image, m_was, m_hasImage, m_letters, m_row, y_m_refused, m_letterMany, m_rowMany, m_place, m_numbers, m_cost, m_seed, ⟨hRN, hRT, hRE, hRO, sRR⟩, hP, hD, hS⟩
  refine lv_icmp_eq (tgt := 1292) hx hb dL_law_563 (by decide) (fun _ => kk H locs hLS) (fun c9 => absurd e0 c9)
set_option maxHeartbeats 4000000 in
set_option maxRecDepth 100000 in
theorem lc_comes (hx : p.tables.exec = Jvm.exec) (hb : c.code = cL_law) (hml : c.maxLocals = 4) (hown : s.vm.findClass RL = some m.cls) (hts : ∀ w ∈ lw_tbl, w.before #[Value.ref b] s = true) (hX : va_X b Ln xs s s.heap) (hbl : b < s.heap.size) (hbA : ¬ A b) (hK : zb_K D cI s) (hE : zb_E aK aV A s s.heap) (hA : ∀ q, s.heap.size ≤ q → A q) {H : Heap} {locs : List Loc} {ls : Array Slot} {i : Nat} (hi : i + 6 ≤ Ln) (hLn : Ln ≤ 3072) (hl : lv_has ls 4 [(0, .ref b), (1, .ref (ad 0)), (2, .ref (bd 0)), (3, .int (nI i))]) (h : zLS D cI ad bd A s H locs) (kk : ∀ (H : Heap) (locs : List Loc), zLS D cI ad bd A s H locs → W p l e room_1 s m #[Value.ref b] below meth c H locs 37 1084 (lw_Z below #[Value.ref b] s) (F0 m 1292 ls [])) : W p l e room_1 s m #[Value.ref b] below meth c H locs 37 1084 (lw_Z below #[Value.ref b] s) (F0 m 568 ls []) := by
  obtain ⟨g_now, g_mind, g_taken, g_isTaken, g_letters, g_letterCount, g_told, g_toldCount, g_refusals, g_costs, g_gains, g_seed, m_s, m_m, m_image, m_was, m_hasImage, m_letters, m_row, m_refused, m_letterMany, m_rowMany, m_place, m_numbers, m_cost, m_seed, ⟨hRN, hRT, hRE, hRO, hRR⟩, hP, hD, hS⟩ := h
  have in1 : vp_in (nI i + (1 : Int32)) Ln := by rw [show (1 : Int32) = nI 1 from rfl, nI_add]; exact nI_in (by omega) (by omega)
  have in2 : vp_in (nI i + (2 : Int32)) Ln := by rw [show (2 : Int32) = nI 2 from rfl, nI_add]; exact nI_in (by omega) (by omega)
  have SIM : Ok (fun a b => a.1 = b.1 ∧ RR a.2.2 b.2.2) (zf_X1_comes g_now g_mind g_refusals (xs (nI i + 1).toNatClampNeg) (xs (nI i + 2).toNatClampNeg)) (zf_X2_comes m_s m_m m_refused (xs (nI i + 1).toNatClampNeg) (xs (nI i + 2).toNatClampNeg)) := sim_comes hRN hRR (xs (nI i + 1).toNatClampNeg) (xs (nI i + 2).toNatClampNeg)
  obtain ⟨⟨r0, w_g_mind, w_g_refusals⟩, ⟨q0, y_m_m, y_m_refused⟩, f1, f2, e0, sRR⟩ := SIM
  try dsimp only at e0 sRR
  refine lv_aload_n hx hb dL_law_568 rfl (lv_at hl 1 rfl) ?_
  refine lv_aload_n hx hb dL_law_569 rfl (lv_at hl 0 rfl) ?_
  refine lv_iload_n hx hb dL_law_570 rfl (lv_at hl 3 rfl) ?_
  refine lv_iconst (v := (1 : Int32)) hx hb dL_law_571 (by decide) ?_
  refine lv_iadd hx hb dL_law_572 ?_
  refine va_sld hx hb hX hbl hbA hS (in1) dL_law_573 ?_
  refine lv_aload_n hx hb dL_law_574 rfl (lv_at hl 0 rfl) ?_
  refine lv_iload_n hx hb dL_law_575 rfl (lv_at hl 3 rfl) ?_
  refine lv_iconst (v := (2 : Int32)) hx hb dL_law_576 (by decide) ?_
  refine lv_iadd hx hb dL_law_577 ?_
  refine va_sld hx hb hX hbl hbA hS (in2) dL_law_578 ?_
  refine zb_callV (As := [.int (xs (nI i + 1).toNatClampNeg), .int (xs (nI i + 2).toNatClampNeg)]) (rest := []) ⟨hx, hb, hml, hown, hts⟩ (zc_X1_comes l D cI ad g_now g_mind g_taken g_isTaken g_letters g_letterCount g_told g_toldCount g_refusals g_costs g_gains g_seed (xs (nI i + 1).toNatClampNeg) (xs (nI i + 2).toNatClampNeg) r0 w_g_mind w_g_refusals f1) (cwV 2 hts gQ_X1_comes rfl rfl rfl hd_X1_comes ⟨Nat.le_of_ble_eq_true rfl, Nat.le_of_ble_eq_true rfl⟩) hK hP hD hS hA (zb_lG) (q0 := 0) rfl rfl rfl hl.1 rfl (Nat.le_of_ble_eq_true rfl) dL_law_579 ⟨Nat.le_refl _, Nat.le_refl _⟩ (fun H locs hP hD hS => ?_)
  have hP : va_P D zb_cl (zb_G cI ad g_now w_g_mind g_taken g_isTaken g_letters g_letterCount g_told g_toldCount w_g_refusals g_costs g_gains g_seed ++ zb_M cI bd m_s m_m m_image m_was m_hasImage m_letters m_row m_refused m_letterMany m_rowMany m_place m_numbers m_cost m_seed) H := hP
  have hD : va_D A (zb_G cI ad g_now w_g_mind g_taken g_isTaken g_letters g_letterCount g_told g_toldCount w_g_refusals g_costs g_gains g_seed ++ zb_M cI bd m_s m_m m_image m_was m_hasImage m_letters m_row m_refused m_letterMany m_rowMany m_place m_numbers m_cost m_seed) := hD
  refine lv_aload_n hx hb dL_law_582 rfl (lv_at hl 2 rfl) ?_
  refine lv_aload_n hx hb dL_law_583 rfl (lv_at hl 0 rfl) ?_
  refine lv_iload_n hx hb dL_law_584 rfl (lv_at hl 3 rfl) ?_
  refine lv_iconst (v := (1 : Int32)) hx hb dL_law_585 (by decide) ?_
  refine lv_iadd hx hb dL_law_586 ?_
  refine va_sld hx hb hX hbl hbA hS (in1) dL_law_587 ?_
  refine lv_aload_n hx hb dL_law_588 rfl (lv_at hl 0 rfl) ?_
  refine lv_iload_n hx hb dL_law_589 rfl (lv_at hl 3 rfl) ?_
  refine lv_iconst (v := (2 : Int32)) hx hb dL_law_590 (by decide) ?_
  refine lv_iadd hx hb dL_law_591 ?_
  refine va_sld hx hb hX hbl hbA hS (in2) dL_law_592 ?_
  refine zb_callV (As := [.int (xs (nI i + 1).toNatClampNeg), .int (xs (nI i + 2).toNatClampNeg)]) (rest := [.int r0]) ⟨hx, hb, hml, hown, hts⟩ (zc_X2_comes l D cI bd m_s m_m m_image m_was m_hasImage m_letters m_row m_refused m_letterMany m_rowMany m_place m_numbers m_cost m_seed (xs (nI i + 1).toNatClampNeg) (xs (nI i + 2).toNatClampNeg) q0 y_m_m y_m_refused f2) (cwV 2 hts gQ_X2_comes rfl rfl rfl hd_X2_comes ⟨Nat.le_of_ble_eq_true rfl, Nat.le_of_ble_eq_true rfl⟩) hK hP hD hS hA (zb_lM) (q0 := 0) rfl rfl rfl hl.1 rfl (Nat.le_of_ble_eq_true rfl) dL_law_593 ⟨Nat.le_refl _, Nat.le_refl _⟩ (fun H locs hP hD hS => ?_)
  have hP : va_P D zb_cl (zb_G cI ad g_now w_g_mind g_taken g_isTaken g_letters g_letterCount g_told g_toldCount w_g_refusals g_costs g_gains g_seed ++ zb_M cI bd m_s y_m_m m_image m_was m_hasImage m_letters m_row y_m_refused m_letterMany m_rowMany m_place m_numbers m_cost m_seed) H := hP
  have hD : va_D A (zb_G cI ad g_now w_g_mind g_taken g_isTaken g_letters g_letterCount g_told g_toldCount w_g_refusals g_costs g_gains g_seed ++ zb_M cI bd m_s y_m_m m_image m_was m_hasImage m_letters m_row y_m_refused m_letterMany m_rowMany m_place m_numbers m_cost m_seed) := hD
  have hLS : zLS D cI ad bd A s H locs := ⟨g_now, w_g_mind, g_taken, g_isTaken, g_letters, g_letterCount, g_told, g_toldCount, w_g_refusals, g_costs, g_gains, g_seed, m_s, y_m_m, m_image, m_was, m_hasImage, m_letters, m_row, y_m_refused, m_letterMany, m_rowMany, m_place, m_numbers, m_cost, m_seed, ⟨hRN, hRT, hRE, hRO, sRR⟩, hP, hD, hS⟩
  refine lv_icmp_eq (tgt := 1292) hx hb dL_law_596 (by decide) (fun _ => kk H locs hLS) (fun c9 => absurd e0 c9)
set_option maxHeartbeats 4000000 in
set_option maxRecDepth 100000 in
theorem lc_visits (hx : p.tables.exec = Jvm.exec) (hb : c.code = cL_law) (hml : c.maxLocals = 4) (hown : s.vm.findClass RL = some m.cls) (hts : ∀ w ∈ lw_tbl, w.before #[Value.ref b] s = true) (hX : va_X b Ln xs s s.heap) (hbl : b < s.heap.size) (hbA : ¬ A b) (hK : zb_K D cI s) (hE : zb_E aK aV A s s.heap) (hA : ∀ q, s.heap.size ≤ q → A q) {H : Heap} {locs : List Loc} {ls : Array Slot} {i : Nat} (hi : i + 6 ≤ Ln) (hLn : Ln ≤ 3072) (hl : lv_has ls 4 [(0, .ref b), (1, .ref (ad 0)), (2, .ref (bd 0)), (3, .int (nI i))]) (h : zLS D cI ad bd A s H locs) (kk : ∀ (H : Heap) (locs : List Loc), zLS D cI ad bd A s H locs → W p l e room_1 s m #[Value.ref b] below meth c H locs 37 1084 (lw_Z below #[Value.ref b] s) (F0 m 1292 ls [])) : W p l e room_1 s m #[Value.ref b] below meth c H locs 37 1084 (lw_Z below #[Value.ref b] s) (F0 m 601 ls []) := by
  obtain ⟨g_now, g_mind, g_taken, g_isTaken, g_letters, g_letterCount, g_told, g_toldCount, g_refusals, g_costs, g_gains, g_seed, m_s, m_m, m_image, m_was, m_hasImage, m_letters, m_row, m_refused, m_letterMany, m_rowMany, m_place, m_numbers, m_cost, m_seed, ⟨hRN, hRT, hRE, hRO, hRR⟩, hP, hD, hS⟩ := h
  have in1 : vp_in (nI i + (1 : Int32)) Ln := by rw [show (1 : Int32) = nI 1 from rfl, nI_add]; exact nI_in (by omega) (by omega)
  have in2 : vp_in (nI i + (2 : Int32)) Ln := by rw [show (2 : Int32) = nI 2 from rfl, nI_add]; exact nI_in (by omega) (by omega)
  have SIM : Ok (fun a b => a.1 = b.1 ∧ RR a.2.2 b.2.2) (zf_X1_visits g_now g_mind g_refusals (xs (nI i + 1).toNatClampNeg) (xs (nI i + 2).toNatClampNeg)) (zf_X2_visits m_s m_m m_refused (xs (nI i + 1).toNatClampNeg) (xs (nI i + 2).toNatClampNeg)) := sim_visits hRN hRR (xs (nI i + 1).toNatClampNeg) (xs (nI i + 2).toNatClampNeg)
  obtain ⟨⟨r0, w_g_mind, w_g_refusals⟩, ⟨q0, y_m_m, y_m_refused⟩, f1, f2, e0, sRR⟩ := SIM
  try dsimp only at e0 sRR
  refine lv_aload_n hx hb dL_law_601 rfl (lv_at hl 1 rfl) ?_
  refine lv_aload_n hx hb dL_law_602 rfl (lv_at hl 0 rfl) ?_
  refine lv_iload_n hx hb dL_law_603 rfl (lv_at hl 3 rfl) ?_
  refine lv_iconst (v := (1 : Int32)) hx hb dL_law_604 (by decide) ?_
  refine lv_iadd hx hb dL_law_605 ?_
  refine va_sld hx hb hX hbl hbA hS (in1) dL_law_606 ?_
  refine lv_aload_n hx hb dL_law_607 rfl (lv_at hl 0 rfl) ?_
  refine lv_iload_n hx hb dL_law_608 rfl (lv_at hl 3 rfl) ?_
  refine lv_iconst (v := (2 : Int32)) hx hb dL_law_609 (by decide) ?_
  refine lv_iadd hx hb dL_law_610 ?_
  refine va_sld hx hb hX hbl hbA hS (in2) dL_law_611 ?_
  refine zb_callV (As := [.int (xs (nI i + 1).toNatClampNeg), .int (xs (nI i + 2).toNatClampNeg)]) (rest := []) ⟨hx, hb, hml, hown, hts⟩ (zc_X1_visits l D cI ad g_now g_mind g_taken g_isTaken g_letters g_letterCount g_told g_toldCount g_refusals g_costs g_gains g_seed (xs (nI i + 1).toNatClampNeg) (xs (nI i + 2).toNatClampNeg) r0 w_g_mind w_g_refusals f1) (cwV 2 hts gQ_X1_visits rfl rfl rfl hd_X1_visits ⟨Nat.le_of_ble_eq_true rfl, Nat.le_of_ble_eq_true rfl⟩) hK hP hD hS hA (zb_lG) (q0 := 0) rfl rfl rfl hl.1 rfl (Nat.le_of_ble_eq_true rfl) dL_law_612 ⟨Nat.le_refl _, Nat.le_refl _⟩ (fun H locs hP hD hS => ?_)
  have hP : va_P D zb_cl (zb_G cI ad g_now w_g_mind g_taken g_isTaken g_letters g_letterCount g_told g_toldCount w_g_refusals g_costs g_gains g_seed ++ zb_M cI bd m_s m_m m_image m_was m_hasImage m_letters m_row m_refused m_letterMany m_rowMany m_place m_numbers m_cost m_seed) H := hP
  have hD : va_D A (zb_G cI ad g_now w_g_mind g_taken g_isTaken g_letters g_letterCount g_told g_toldCount w_g_refusals g_costs g_gains g_seed ++ zb_M cI bd m_s m_m m_image m_was m_hasImage m_letters m_row m_refused m_letterMany m_rowMany m_place m_numbers m_cost m_seed) := hD
  refine lv_aload_n hx hb dL_law_615 rfl (lv_at hl 2 rfl) ?_
  refine lv_aload_n hx hb dL_law_616 rfl (lv_at hl 0 rfl) ?_
  refine lv_iload_n hx hb dL_law_617 rfl (lv_at hl 3 rfl) ?_
  refine lv_iconst (v := (1 : Int32)) hx hb dL_law_618 (by decide) ?_
  refine lv_iadd hx hb dL_law_619 ?_
  refine va_sld hx hb hX hbl hbA hS (in1) dL_law_620 ?_
  refine lv_aload_n hx hb dL_law_621 rfl (lv_at hl 0 rfl) ?_
  refine lv_iload_n hx hb dL_law_622 rfl (lv_at hl 3 rfl) ?_
  refine lv_iconst (v := (2 : Int32)) hx hb dL_law_623 (by decide) ?_
  refine lv_iadd hx hb dL_law_624 ?_
  refine va_sld hx hb hX hbl hbA hS (in2) dL_law_625 ?_
  refine zb_callV (As := [.int (xs (nI i + 1).toNatClampNeg), .int (xs (nI i + 2).toNatClampNeg)]) (rest := [.int r0]) ⟨hx, hb, hml, hown, hts⟩ (zc_X2_visits l D cI bd m_s m_m m_image m_was m_hasImage m_letters m_row m_refused m_letterMany m_rowMany m_place m_numbers m_cost m_seed (xs (nI i + 1).toNatClampNeg) (xs (nI i + 2).toNatClampNeg) q0 y_m_m y_m_refused f2) (cwV 2 hts gQ_X2_visits rfl rfl rfl hd_X2_visits ⟨Nat.le_of_ble_eq_true rfl, Nat.le_of_ble_eq_true rfl⟩) hK hP hD hS hA (zb_lM) (q0 := 0) rfl rfl rfl hl.1 rfl (Nat.le_of_ble_eq_true rfl) dL_law_626 ⟨Nat.le_refl _, Nat.le_refl _⟩ (fun H locs hP hD hS => ?_)
  have hP : va_P D zb_cl (zb_G cI ad g_now w_g_mind g_taken g_isTaken g_letters g_letterCount g_told g_toldCount w_g_refusals g_costs g_gains g_seed ++ zb_M cI bd m_s y_m_m m_image m_was m_hasImage m_letters m_row y_m_refused m_letterMany m_rowMany m_place m_numbers m_cost m_seed) H := hP
  have hD : va_D A (zb_G cI ad g_now w_g_mind g_taken g_isTaken g_letters g_letterCount g_told g_toldCount w_g_refusals g_costs g_gains g_seed ++ zb_M cI bd m_s y_m_m m_image m_was m_hasImage m_letters m_row y_m_refused m_letterMany m_rowMany m_place m_numbers m_cost m_seed) := hD
  have hLS : zLS D cI ad bd A s H locs := ⟨g_now, w_g_mind, g_taken, g_isTaken, g_letters, g_letterCount, g_told, g_toldCount, w_g_refusals, g_costs, g_gains, g_seed, m_s, y_m_m, m_image, m_was, m_hasImage, m_letters, m_row, y_m_refused, m_letterMany, m_rowMany, m_place, m_numbers, m_cost, m_seed, ⟨hRN, hRT, hRE, hRO, sRR⟩, hP, hD, hS⟩
  refine lv_icmp_eq (tgt := 1292) hx hb dL_law_629 (by decide) (fun _ => kk H locs hLS) (fun c9 => absurd e0 c9)
set_option maxHeartbeats 4000000 in
set_option maxRecDepth 100000 in
theorem lc_stops (hx : p.tables.exec = Jvm.exec) (hb : c.code = cL_law) (hml : c.maxLocals = 4) (hown : s.vm.findClass RL = some m.cls) (hts : ∀ w ∈ lw_tbl, w.before #[Value.ref b] s = true) (hX : va_X b Ln xs s s.heap) (hbl : b < s.heap.size) (hbA : ¬ A b) (hK : zb_K D cI s) (hE : zb_E aK aV A s s.heap) (hA : ∀ q, s.heap.size ≤ q → A q) {H : Heap} {locs : List Loc} {ls : Array Slot} {i : Nat} (hi : i + 6 ≤ Ln) (hLn : Ln ≤ 3072) (hl : lv_has ls 4 [(0, .ref b), (1, .ref (ad 0)), (2, .ref (bd 0)), (3, .int (nI i))]) (h : zLS D cI ad bd A s H locs) (kk : ∀ (H : Heap) (locs : List Loc), zLS D cI ad bd A s H locs → W p l e room_1 s m #[Value.ref b] below meth c H locs 37 1084 (lw_Z below #[Value.ref b] s) (F0 m 1292 ls [])) : W p l e room_1 s m #[Value.ref b] below meth c H locs 37 1084 (lw_Z below #[Value.ref b] s) (F0 m 634 ls []) := by
  obtain ⟨g_now, g_mind, g_taken, g_isTaken, g_letters, g_letterCount, g_told, g_toldCount, g_refusals, g_costs, g_gains, g_seed, m_s, m_m, m_image, m_was, m_hasImage, m_letters, m_row, m_refused, m_letterMany, m_rowMany, m_place, m_numbers, m_cost, m_seed, ⟨hRN, hRT, hRE, hRO, hRR⟩, hP, hD, hS⟩ := h
  have in1 : vp_in (nI i + (1 : Int32)) Ln := by rw [show (1 : Int32) = nI 1 from rfl, nI_add]; exact nI_in (by omega) (by omega)
  have SIM : Ok (fun a b => a.1 = b.1 ∧ RR a.2.2 b.2.2) (zf_X1_stops g_now g_mind g_refusals (xs (nI i + 1).toNatClampNeg)) (zf_X2_stops m_s m_m m_refused (xs (nI i + 1).toNatClampNeg)) := sim_stops hRN hRR (xs (nI i + 1).toNatClampNeg)
  obtain ⟨⟨r0, w_g_mind, w_g_refusals⟩, ⟨q0, y_m_m, y_m_refused⟩, f1, f2, e0, sRR⟩ := SIM
  try dsimp only at e0 sRR
  refine lv_aload_n hx hb dL_law_634 rfl (lv_at hl 1 rfl) ?_
  refine lv_aload_n hx hb dL_law_635 rfl (lv_at hl 0 rfl) ?_
  refine lv_iload_n hx hb dL_law_636 rfl (lv_at hl 3 rfl) ?_
  refine lv_iconst (v := (1 : Int32)) hx hb dL_law_637 (by decide) ?_
  refine lv_iadd hx hb dL_law_638 ?_
  refine va_sld hx hb hX hbl hbA hS (in1) dL_law_639 ?_
  refine zb_callV (As := [.int (xs (nI i + 1).toNatClampNeg)]) (rest := []) ⟨hx, hb, hml, hown, hts⟩ (zc_X1_stops l D cI ad g_now g_mind g_taken g_isTaken g_letters g_letterCount g_told g_toldCount g_refusals g_costs g_gains g_seed (xs (nI i + 1).toNatClampNeg) r0 w_g_mind w_g_refusals f1) (cwV 1 hts gQ_X1_stops rfl rfl rfl hd_X1_stops ⟨Nat.le_of_ble_eq_true rfl, Nat.le_of_ble_eq_true rfl⟩) hK hP hD hS hA (zb_lG) (q0 := 0) rfl rfl rfl hl.1 rfl (Nat.le_of_ble_eq_true rfl) dL_law_640 ⟨Nat.le_refl _, Nat.le_refl _⟩ (fun H locs hP hD hS => ?_)
  have hP : va_P D zb_cl (zb_G cI ad g_now w_g_mind g_taken g_isTaken g_letters g_letterCount g_told g_toldCount w_g_refusals g_costs g_gains g_seed ++ zb_M cI bd m_s m_m m_image m_was m_hasImage m_letters m_row m_refused m_letterMany m_rowMany m_place m_numbers m_cost m_seed) H := hP
  have hD : va_D A (zb_G cI ad g_now w_g_mind g_taken g_isTaken g_letters g_letterCount g_told g_toldCount w_g_refusals g_costs g_gains g_seed ++ zb_M cI bd m_s m_m m_image m_was m_hasImage m_letters m_row m_refused m_letterMany m_rowMany m_place m_numbers m_cost m_seed) := hD
  refine lv_aload_n hx hb dL_law_643 rfl (lv_at hl 2 rfl) ?_
  refine lv_aload_n hx hb dL_law_644 rfl (lv_at hl 0 rfl) ?_
  refine lv_iload_n hx hb dL_law_645 rfl (lv_at hl 3 rfl) ?_
  refine lv_iconst (v := (1 : Int32)) hx hb dL_law_646 (by decide) ?_
  refine lv_iadd hx hb dL_law_647 ?_
  refine va_sld hx hb hX hbl hbA hS (in1) dL_law_648 ?_
  refine zb_callV (As := [.int (xs (nI i + 1).toNatClampNeg)]) (rest := [.int r0]) ⟨hx, hb, hml, hown, hts⟩ (zc_X2_stops l D cI bd m_s m_m m_image m_was m_hasImage m_letters m_row m_refused m_letterMany m_rowMany m_place m_numbers m_cost m_seed (xs (nI i + 1).toNatClampNeg) q0 y_m_m y_m_refused f2) (cwV 1 hts gQ_X2_stops rfl rfl rfl hd_X2_stops ⟨Nat.le_of_ble_eq_true rfl, Nat.le_of_ble_eq_true rfl⟩) hK hP hD hS hA (zb_lM) (q0 := 0) rfl rfl rfl hl.1 rfl (Nat.le_of_ble_eq_true rfl) dL_law_649 ⟨Nat.le_refl _, Nat.le_refl _⟩ (fun H locs hP hD hS => ?_)
  have hP : va_P D zb_cl (zb_G cI ad g_now w_g_mind g_taken g_isTaken g_letters g_letterCount g_told g_toldCount w_g_refusals g_costs g_gains g_seed ++ zb_M cI bd m_s y_m_m m_image m_was m_hasImage m_letters m_row y_m_refused m_letterMany m_rowMany m_place m_numbers m_cost m_seed) H := hP
  have hD : va_D A (zb_G cI ad g_now w_g_mind g_taken g_isTaken g_letters g_letterCount g_told g_toldCount w_g_refusals g_costs g_gains g_seed ++ zb_M cI bd m_s y_m_m m_image m_was m_hasImage m_letters m_row y_m_refused m_letterMany m_rowMany m_place m_numbers m_cost m_seed) := hD
  have hLS : zLS D cI ad bd A s H locs := ⟨g_now, w_g_mind, g_taken, g_isTaken, g_letters, g_letterCount, g_told, g_toldCount, w_g_refusals, g_costs, g_gains, g_seed, m_s, y_m_m, m_image, m_was, m_hasImage, m_letters, m_row, y_m_refused, m_letterMany, m_rowMany, m_place, m_numbers, m_cost, m_seed, ⟨hRN, hRT, hRE, hRO, sRR⟩, hP, hD, hS⟩
  refine lv_icmp_eq (tgt := 1292) hx hb dL_law_652 (by decide) (fun _ => kk H locs hLS) (fun c9 => absurd e0 c9)
set_option maxHeartbeats 4000000 in
set_option maxRecDepth 100000 in
theorem lc_meets (hx : p.tables.exec = Jvm.exec) (hb : c.code = cL_law) (hml : c.maxLocals = 4) (hown : s.vm.findClass RL = some m.cls) (hts : ∀ w ∈ lw_tbl, w.before #[Value.ref b] s = true) (hX : va_X b Ln xs s s.heap) (hbl : b < s.heap.size) (hbA : ¬ A b) (hK : zb_K D cI s) (hE : zb_E aK aV A s s.heap) (hA : ∀ q, s.heap.size ≤ q → A q) {H : Heap} {locs : List Loc} {ls : Array Slot} {i : Nat} (hi : i + 6 ≤ Ln) (hLn : Ln ≤ 3072) (hl : lv_has ls 4 [(0, .ref b), (1, .ref (ad 0)), (2, .ref (bd 0)), (3, .int (nI i))]) (h : zLS D cI ad bd A s H locs) (kk : ∀ (H : Heap) (locs : List Loc), zLS D cI ad bd A s H locs → W p l e room_1 s m #[Value.ref b] below meth c H locs 37 1084 (lw_Z below #[Value.ref b] s) (F0 m 1292 ls [])) : W p l e room_1 s m #[Value.ref b] below meth c H locs 37 1084 (lw_Z below #[Value.ref b] s) (F0 m 657 ls []) := by
  obtain ⟨g_now, g_mind, g_taken, g_isTaken, g_letters, g_letterCount, g_told, g_toldCount, g_refusals, g_costs, g_gains, g_seed, m_s, m_m, m_image, m_was, m_hasImage, m_letters, m_row, m_refused, m_letterMany, m_rowMany, m_place, m_numbers, m_cost, m_seed, ⟨hRN, hRT, hRE, hRO, hRR⟩, hP, hD, hS⟩ := h
  have in1 : vp_in (nI i + (1 : Int32)) Ln := by rw [show (1 : Int32) = nI 1 from rfl, nI_add]; exact nI_in (by omega) (by omega)
  have in2 : vp_in (nI i + (2 : Int32)) Ln := by rw [show (2 : Int32) = nI 2 from rfl, nI_add]; exact nI_in (by omega) (by omega)
  have SIM : Ok (fun a b => a.1 = b.1 ∧ RR a.2.2 b.2.2) (zf_X1_meets g_now g_mind g_refusals (xs (nI i + 1).toNatClampNeg) (xs (nI i + 2).toNatClampNeg)) (zf_X2_meets m_s m_m m_refused (xs (nI i + 1).toNatClampNeg) (xs (nI i + 2).toNatClampNeg)) := sim_meets hRN hRR (xs (nI i + 1).toNatClampNeg) (xs (nI i + 2).toNatClampNeg)
  obtain ⟨⟨r0, w_g_mind, w_g_refusals⟩, ⟨q0, y_m_m, y_m_refused⟩, f1, f2, e0, sRR⟩ := SIM
  try dsimp only at e0 sRR
  refine lv_aload_n hx hb dL_law_657 rfl (lv_at hl 1 rfl) ?_
  refine lv_aload_n hx hb dL_law_658 rfl (lv_at hl 0 rfl) ?_
  refine lv_iload_n hx hb dL_law_659 rfl (lv_at hl 3 rfl) ?_
  refine lv_iconst (v := (1 : Int32)) hx hb dL_law_660 (by decide) ?_
  refine lv_iadd hx hb dL_law_661 ?_
  refine va_sld hx hb hX hbl hbA hS (in1) dL_law_662 ?_
  refine lv_aload_n hx hb dL_law_663 rfl (lv_at hl 0 rfl) ?_
  refine lv_iload_n hx hb dL_law_664 rfl (lv_at hl 3 rfl) ?_
  refine lv_iconst (v := (2 : Int32)) hx hb dL_law_665 (by decide) ?_
  refine lv_iadd hx hb dL_law_666 ?_
  refine va_sld hx hb hX hbl hbA hS (in2) dL_law_667 ?_
  refine zb_callV (As := [.int (xs (nI i + 1).toNatClampNeg), .int (xs (nI i + 2).toNatClampNeg)]) (rest := []) ⟨hx, hb, hml, hown, hts⟩ (zc_X1_meets l D cI ad g_now g_mind g_taken g_isTaken g_letters g_letterCount g_told g_toldCount g_refusals g_costs g_gains g_seed (xs (nI i + 1).toNatClampNeg) (xs (nI i + 2).toNatClampNeg) r0 w_g_mind w_g_refusals f1) (cwV 2 hts gQ_X1_meets rfl rfl rfl hd_X1_meets ⟨Nat.le_of_ble_eq_true rfl, Nat.le_of_ble_eq_true rfl⟩) hK hP hD hS hA (zb_lG) (q0 := 0) rfl rfl rfl hl.1 rfl (Nat.le_of_ble_eq_true rfl) dL_law_668 ⟨Nat.le_refl _, Nat.le_refl _⟩ (fun H locs hP hD hS => ?_)
  have hP : va_P D zb_cl (zb_G cI ad g_now w_g_mind g_taken g_isTaken g_letters g_letterCount g_told g_toldCount w_g_refusals g_costs g_gains g_seed ++ zb_M cI bd m_s m_m m_image m_was m_hasImage m_letters m_row m_refused m_letterMany m_rowMany m_place m_numbers m_cost m_seed) H := hP
  have hD : va_D A (zb_G cI ad g_now w_g_mind g_taken g_isTaken g_letters g_letterCount g_told g_toldCount w_g_refusals g_costs g_gains g_seed ++ zb_M cI bd m_s m_m m_image m_was m_hasImage m_letters m_row m_refused m_letterMany m_rowMany m_place m_numbers m_cost m_seed) := hD
  refine lv_aload_n hx hb dL_law_671 rfl (lv_at hl 2 rfl) ?_
  refine lv_aload_n hx hb dL_law_672 rfl (lv_at hl 0 rfl) ?_
  refine lv_iload_n hx hb dL_law_673 rfl (lv_at hl 3 rfl) ?_
  refine lv_iconst (v := (1 : Int32)) hx hb dL_law_674 (by decide) ?_
  refine lv_iadd hx hb dL_law_675 ?_
  refine va_sld hx hb hX hbl hbA hS (in1) dL_law_676 ?_
  refine lv_aload_n hx hb dL_law_677 rfl (lv_at hl 0 rfl) ?_
  refine lv_iload_n hx hb dL_law_678 rfl (lv_at hl 3 rfl) ?_
  refine lv_iconst (v := (2 : Int32)) hx hb dL_law_679 (by decide) ?_
  refine lv_iadd hx hb dL_law_680 ?_
  refine va_sld hx hb hX hbl hbA hS (in2) dL_law_681 ?_
  refine zb_callV (As := [.int (xs (nI i + 1).toNatClampNeg), .int (xs (nI i + 2).toNatClampNeg)]) (rest := [.int r0]) ⟨hx, hb, hml, hown, hts⟩ (zc_X2_meets l D cI bd m_s m_m m_image m_was m_hasImage m_letters m_row m_refused m_letterMany m_rowMany m_place m_numbers m_cost m_seed (xs (nI i + 1).toNatClampNeg) (xs (nI i + 2).toNatClampNeg) q0 y_m_m y_m_refused f2) (cwV 2 hts gQ_X2_meets rfl rfl rfl hd_X2_meets ⟨Nat.le_of_ble_eq_true rfl, Nat.le_of_ble_eq_true rfl⟩) hK hP hD hS hA (zb_lM) (q0 := 0) rfl rfl rfl hl.1 rfl (Nat.le_of_ble_eq_true rfl) dL_law_682 ⟨Nat.le_refl _, Nat.le_refl _⟩ (fun H locs hP hD hS => ?_)
  have hP : va_P D zb_cl (zb_G cI ad g_now w_g_mind g_taken g_isTaken g_letters g_letterCount g_told g_toldCount w_g_refusals g_costs g_gains g_seed ++ zb_M cI bd m_s y_m_m m_image m_was m_hasImage m_letters m_row y_m_refused m_letterMany m_rowMany m_place m_numbers m_cost m_seed) H := hP
  have hD : va_D A (zb_G cI ad g_now w_g_mind g_taken g_isTaken g_letters g_letterCount g_told g_toldCount w_g_refusals g_costs g_gains g_seed ++ zb_M cI bd m_s y_m_m m_image m_was m_hasImage m_letters m_row y_m_refused m_letterMany m_rowMany m_place m_numbers m_cost m_seed) := hD
  have hLS : zLS D cI ad bd A s H locs := ⟨g_now, w_g_mind, g_taken, g_isTaken, g_letters, g_letterCount, g_told, g_toldCount, w_g_refusals, g_costs, g_gains, g_seed, m_s, y_m_m, m_image, m_was, m_hasImage, m_letters, m_row, y_m_refused, m_letterMany, m_rowMany, m_place, m_numbers, m_cost, m_seed, ⟨hRN, hRT, hRE, hRO, sRR⟩, hP, hD, hS⟩
  refine lv_icmp_eq (tgt := 1292) hx hb dL_law_685 (by decide) (fun _ => kk H locs hLS) (fun c9 => absurd e0 c9)
set_option maxHeartbeats 4000000 in
set_option maxRecDepth 100000 in
theorem lc_round (hx : p.tables.exec = Jvm.exec) (hb : c.code = cL_law) (hml : c.maxLocals = 4) (hown : s.vm.findClass RL = some m.cls) (hts : ∀ w ∈ lw_tbl, w.before #[Value.ref b] s = true) (hX : va_X b Ln xs s s.heap) (hbl : b < s.heap.size) (hbA : ¬ A b) (hK : zb_K D cI s) (hE : zb_E aK aV A s s.heap) (hA : ∀ q, s.heap.size ≤ q → A q) {H : Heap} {locs : List Loc} {ls : Array Slot} {i : Nat} (hi : i + 6 ≤ Ln) (hLn : Ln ≤ 3072) (hl : lv_has ls 4 [(0, .ref b), (1, .ref (ad 0)), (2, .ref (bd 0)), (3, .int (nI i))]) (h : zLS D cI ad bd A s H locs) (kk : ∀ (H : Heap) (locs : List Loc), zLS D cI ad bd A s H locs → W p l e room_1 s m #[Value.ref b] below meth c H locs 37 1084 (lw_Z below #[Value.ref b] s) (F0 m 1292 ls [])) : W p l e room_1 s m #[Value.ref b] below meth c H locs 37 1084 (lw_Z below #[Value.ref b] s) (F0 m 690 ls []) := by
  obtain ⟨g_now, g_mind, g_taken, g_isTaken, g_letters, g_letterCount, g_told, g_toldCount, g_refusals, g_costs, g_gains, g_seed, m_s, m_m, m_image, m_was, m_hasImage, m_letters, m_row, m_refused, m_letterMany, m_rowMany, m_place, m_numbers, m_cost, m_seed, ⟨hRN, hRT, hRE, hRO, hRR⟩, hP, hD, hS⟩ := h
  have in1 : vp_in (nI i + (1 : Int32)) Ln := by rw [show (1 : Int32) = nI 1 from rfl, nI_add]; exact nI_in (by omega) (by omega)
  have SIM : Ok (fun a b => a.1 = b.1 ∧ RR a.2.2 b.2.2) (zf_X1_round g_now g_mind g_refusals (xs (nI i + 1).toNatClampNeg)) (zf_X2_round m_s m_m m_refused (xs (nI i + 1).toNatClampNeg)) := sim_round hRN hRR (xs (nI i + 1).toNatClampNeg)
  obtain ⟨⟨r0, w_g_mind, w_g_refusals⟩, ⟨q0, y_m_m, y_m_refused⟩, f1, f2, e0, sRR⟩ := SIM
  try dsimp only at e0 sRR
  refine lv_aload_n hx hb dL_law_690 rfl (lv_at hl 1 rfl) ?_
  refine lv_aload_n hx hb dL_law_691 rfl (lv_at hl 0 rfl) ?_
  refine lv_iload_n hx hb dL_law_692 rfl (lv_at hl 3 rfl) ?_
  refine lv_iconst (v := (1 : Int32)) hx hb dL_law_693 (by decide) ?_
  refine lv_iadd hx hb dL_law_694 ?_
  refine va_sld hx hb hX hbl hbA hS (in1) dL_law_695 ?_
  refine zb_callV (As := [.int (xs (nI i + 1).toNatClampNeg)]) (rest := []) ⟨hx, hb, hml, hown, hts⟩ (zc_X1_round l D cI ad g_now g_mind g_taken g_isTaken g_letters g_letterCount g_told g_toldCount g_refusals g_costs g_gains g_seed (xs (nI i + 1).toNatClampNeg) r0 w_g_mind w_g_refusals f1) (cwV 1 hts gQ_X1_round rfl rfl rfl hd_X1_round ⟨Nat.le_of_ble_eq_true rfl, Nat.le_of_ble_eq_true rfl⟩) hK hP hD hS hA (zb_lG) (q0 := 0) rfl rfl rfl hl.1 rfl (Nat.le_of_ble_eq_true rfl) dL_law_696 ⟨Nat.le_refl _, Nat.le_refl _⟩ (fun H locs hP hD hS => ?_)
  have hP : va_P D zb_cl (zb_G cI ad g_now w_g_mind g_taken g_isTaken g_letters g_letterCount g_told g_toldCount w_g_refusals g_costs g_gains g_seed ++ zb_M cI bd m_s m_m m_image m_was m_hasImage m_letters m_row m_refused m_letterMany m_rowMany m_place m_numbers m_cost m_seed) H := hP
  have hD : va_D A (zb_G cI ad g_now w_g_mind g_taken g_isTaken g_letters g_letterCount g_told g_toldCount w_g_refusals g_costs g_gains g_seed ++ zb_M cI bd m_s m_m m_image m_was m_hasImage m_letters m_row m_refused m_letterMany m_rowMany m_place m_numbers m_cost m_seed) := hD
  refine lv_aload_n hx hb dL_law_699 rfl (lv_at hl 2 rfl) ?_
  refine lv_aload_n hx hb dL_law_700 rfl (lv_at hl 0 rfl) ?_
  refine lv_iload_n hx hb dL_law_701 rfl (lv_at hl 3 rfl) ?_
  refine lv_iconst (v := (1 : Int32)) hx hb dL_law_702 (by decide) ?_
  refine lv_iadd hx hb dL_law_703 ?_
  refine va_sld hx hb hX hbl hbA hS (in1) dL_law_704 ?_
  refine zb_callV (As := [.int (xs (nI i + 1).toNatClampNeg)]) (rest := [.int r0]) ⟨hx, hb, hml, hown, hts⟩ (zc_X2_round l D cI bd m_s m_m m_image m_was m_hasImage m_letters m_row m_refused m_letterMany m_rowMany m_place m_numbers m_cost m_seed (xs (nI i + 1).toNatClampNeg) q0 y_m_m y_m_refused f2) (cwV 1 hts gQ_X2_round rfl rfl rfl hd_X2_round ⟨Nat.le_of_ble_eq_true rfl, Nat.le_of_ble_eq_true rfl⟩) hK hP hD hS hA (zb_lM) (q0 := 0) rfl rfl rfl hl.1 rfl (Nat.le_of_ble_eq_true rfl) dL_law_705 ⟨Nat.le_refl _, Nat.le_refl _⟩ (fun H locs hP hD hS => ?_)
  have hP : va_P D zb_cl (zb_G cI ad g_now w_g_mind g_taken g_isTaken g_letters g_letterCount g_told g_toldCount w_g_refusals g_costs g_gains g_seed ++ zb_M cI bd m_s y_m_m m_image m_was m_hasImage m_letters m_row y_m_refused m_letterMany m_rowMany m_place m_numbers m_cost m_seed) H := hP
  have hD : va_D A (zb_G cI ad g_now w_g_mind g_taken g_isTaken g_letters g_letterCount g_told g_toldCount w_g_refusals g_costs g_gains g_seed ++ zb_M cI bd m_s y_m_m m_image m_was m_hasImage m_letters m_row y_m_refused m_letterMany m_rowMany m_place m_numbers m_cost m_seed) := hD
  have hLS : zLS D cI ad bd A s H locs := ⟨g_now, w_g_mind, g_taken, g_isTaken, g_letters, g_letterCount, g_told, g_toldCount, w_g_refusals, g_costs, g_gains, g_seed, m_s, y_m_m, m_image, m_was, m_hasImage, m_letters, m_row, y_m_refused, m_letterMany, m_rowMany, m_place, m_numbers, m_cost, m_seed, ⟨hRN, hRT, hRE, hRO, sRR⟩, hP, hD, hS⟩
  refine lv_icmp_eq (tgt := 1292) hx hb dL_law_708 (by decide) (fun _ => kk H locs hLS) (fun c9 => absurd e0 c9)
set_option maxHeartbeats 4000000 in
set_option maxRecDepth 100000 in
theorem lc_way (hx : p.tables.exec = Jvm.exec) (hb : c.code = cL_law) (hml : c.maxLocals = 4) (hown : s.vm.findClass RL = some m.cls) (hts : ∀ w ∈ lw_tbl, w.before #[Value.ref b] s = true) (hX : va_X b Ln xs s s.heap) (hbl : b < s.heap.size) (hbA : ¬ A b) (hK : zb_K D cI s) (hE : zb_E aK aV A s s.heap) (hA : ∀ q, s.heap.size ≤ q → A q) {H : Heap} {locs : List Loc} {ls : Array Slot} {i : Nat} (hi : i + 6 ≤ Ln) (hLn : Ln ≤ 3072) (hl : lv_has ls 4 [(0, .ref b), (1, .ref (ad 0)), (2, .ref (bd 0)), (3, .int (nI i))]) (h : zLS D cI ad bd A s H locs) (kk : ∀ (H : Heap) (locs : List Loc), zLS D cI ad bd A s H locs → W p l e room_1 s m #[Value.ref b] below meth c H locs 37 1084 (lw_Z below #[Value.ref b] s) (F0 m 1292 ls [])) : W p l e room_1 s m #[Value.ref b] below meth c H locs 37 1084 (lw_Z below #[Value.ref b] s) (F0 m 713 ls []) := by
  obtain ⟨g_now, g_mind, g_taken, g_isTaken, g_letters, g_letterCount, g_told, g_toldCount, g_refusals, g_costs, g_gains, g_seed, m_s, m_m, m_image, m_was, m_hasImage, m_letters, m_row, m_refused, m_letterMany, m_rowMany, m_place, m_numbers, m_cost, m_seed, ⟨hRN, hRT, hRE, hRO, hRR⟩, hP, hD, hS⟩ := h
  have in1 : vp_in (nI i + (1 : Int32)) Ln := by rw [show (1 : Int32) = nI 1 from rfl, nI_add]; exact nI_in (by omega) (by omega)
  have in2 : vp_in (nI i + (2 : Int32)) Ln := by rw [show (2 : Int32) = nI 2 from rfl, nI_add]; exact nI_in (by omega) (by omega)
  have in3 : vp_in (nI i + (3 : Int32)) Ln := by rw [show (3 : Int32) = nI 3 from rfl, nI_add]; exact nI_in (by omega) (by omega)
  have SIM : Ok (fun x y => x.1 = y.1 ∧ RR x.2.1 y.2.1) (zf_X1_way g_now g_refusals g_costs (xs (nI i + 1).toNatClampNeg) (xs (nI i + 2).toNatClampNeg) (xs (nI i + 3).toNatClampNeg)) (zf_X2_way m_s m_refused m_cost (xs (nI i + 1).toNatClampNeg) (xs (nI i + 2).toNatClampNeg) (xs (nI i + 3).toNatClampNeg)) := sim_way hRN hRR (xs (nI i + 1).toNatClampNeg) (xs (nI i + 2).toNatClampNeg) (xs (nI i + 3).toNatClampNeg)
  obtain ⟨⟨r0, w_g_refusals, w_g_costs⟩, ⟨q0, y_m_refused, y_m_cost⟩, f1, f2, e0, sRR⟩ := SIM
  try dsimp only at e0 sRR
  refine lv_aload_n hx hb dL_law_713 rfl (lv_at hl 1 rfl) ?_
  refine lv_aload_n hx hb dL_law_714 rfl (lv_at hl 0 rfl) ?_
  refine lv_iload_n hx hb dL_law_715 rfl (lv_at hl 3 rfl) ?_
  refine lv_iconst (v := (1 : Int32)) hx hb dL_law_716 (by decide) ?_
  refine lv_iadd hx hb dL_law_717 ?_
  refine va_sld hx hb hX hbl hbA hS (in1) dL_law_718 ?_
  refine lv_aload_n hx hb dL_law_719 rfl (lv_at hl 0 rfl) ?_
  refine lv_iload_n hx hb dL_law_720 rfl (lv_at hl 3 rfl) ?_
  refine lv_iconst (v := (2 : Int32)) hx hb dL_law_721 (by decide) ?_
  refine lv_iadd hx hb dL_law_722 ?_
  refine va_sld hx hb hX hbl hbA hS (in2) dL_law_723 ?_
  refine lv_aload_n hx hb dL_law_724 rfl (lv_at hl 0 rfl) ?_
  refine lv_iload_n hx hb dL_law_725 rfl (lv_at hl 3 rfl) ?_
  refine lv_iconst (v := (3 : Int32)) hx hb dL_law_726 (by decide) ?_
  refine lv_iadd hx hb dL_law_727 ?_
  refine va_sld hx hb hX hbl hbA hS (in3) dL_law_728 ?_
  refine zb_callV (As := [.int (xs (nI i + 1).toNatClampNeg), .int (xs (nI i + 2).toNatClampNeg), .int (xs (nI i + 3).toNatClampNeg)]) (rest := []) ⟨hx, hb, hml, hown, hts⟩ (zc_X1_way l D cI ad g_now g_mind g_taken g_isTaken g_letters g_letterCount g_told g_toldCount g_refusals g_costs g_gains g_seed (xs (nI i + 1).toNatClampNeg) (xs (nI i + 2).toNatClampNeg) (xs (nI i + 3).toNatClampNeg) r0 w_g_refusals w_g_costs f1) (cwV 3 hts gQ_X1_way rfl rfl rfl hd_X1_way ⟨Nat.le_of_ble_eq_true rfl, Nat.le_of_ble_eq_true rfl⟩) hK hP hD hS hA (zb_lG) (q0 := 0) rfl rfl rfl hl.1 rfl (Nat.le_of_ble_eq_true rfl) dL_law_729 ⟨Nat.le_refl _, Nat.le_refl _⟩ (fun H locs hP hD hS => ?_)
  have hP : va_P D zb_cl (zb_G cI ad g_now g_mind g_taken g_isTaken g_letters g_letterCount g_told g_toldCount w_g_refusals w_g_costs g_gains g_seed ++ zb_M cI bd m_s m_m m_image m_was m_hasImage m_letters m_row m_refused m_letterMany m_rowMany m_place m_numbers m_cost m_seed) H := hP
  have hD : va_D A (zb_G cI ad g_now g_mind g_taken g_isTaken g_letters g_letterCount g_told g_toldCount w_g_refusals w_g_costs g_gains g_seed ++ zb_M cI bd m_s m_m m_image m_was m_hasImage m_letters m_row m_refused m_letterMany m_rowMany m_place m_numbers m_cost m_seed) := hD
  refine lv_aload_n hx hb dL_law_732 rfl (lv_at hl 2 rfl) ?_
  refine lv_aload_n hx hb dL_law_733 rfl (lv_at hl 0 rfl) ?_
  refine lv_iload_n hx hb dL_law_734 rfl (lv_at hl 3 rfl) ?_
  refine lv_iconst (v := (1 : Int32)) hx hb dL_law_735 (by decide) ?_
  refine lv_iadd hx hb dL_law_736 ?_
  refine va_sld hx hb hX hbl hbA hS (in1) dL_law_737 ?_
  refine lv_aload_n hx hb dL_law_738 rfl (lv_at hl 0 rfl) ?_
  refine lv_iload_n hx hb dL_law_739 rfl (lv_at hl 3 rfl) ?_
  refine lv_iconst (v := (2 : Int32)) hx hb dL_law_740 (by decide) ?_
  refine lv_iadd hx hb dL_law_741 ?_
  refine va_sld hx hb hX hbl hbA hS (in2) dL_law_742 ?_
  refine lv_aload_n hx hb dL_law_743 rfl (lv_at hl 0 rfl) ?_
  refine lv_iload_n hx hb dL_law_744 rfl (lv_at hl 3 rfl) ?_
  refine lv_iconst (v := (3 : Int32)) hx hb dL_law_745 (by decide) ?_
  refine lv_iadd hx hb dL_law_746 ?_
  refine va_sld hx hb hX hbl hbA hS (in3) dL_law_747 ?_
  refine zb_callV (As := [.int (xs (nI i + 1).toNatClampNeg), .int (xs (nI i + 2).toNatClampNeg), .int (xs (nI i + 3).toNatClampNeg)]) (rest := [.int r0]) ⟨hx, hb, hml, hown, hts⟩ (zc_X2_way l D cI bd m_s m_m m_image m_was m_hasImage m_letters m_row m_refused m_letterMany m_rowMany m_place m_numbers m_cost m_seed (xs (nI i + 1).toNatClampNeg) (xs (nI i + 2).toNatClampNeg) (xs (nI i + 3).toNatClampNeg) q0 y_m_refused y_m_cost f2) (cwV 3 hts gQ_X2_way rfl rfl rfl hd_X2_way ⟨Nat.le_of_ble_eq_true rfl, Nat.le_of_ble_eq_true rfl⟩) hK hP hD hS hA (zb_lM) (q0 := 0) rfl rfl rfl hl.1 rfl (Nat.le_of_ble_eq_true rfl) dL_law_748 ⟨Nat.le_refl _, Nat.le_refl _⟩ (fun H locs hP hD hS => ?_)
  have hP : va_P D zb_cl (zb_G cI ad g_now g_mind g_taken g_isTaken g_letters g_letterCount g_told g_toldCount w_g_refusals w_g_costs g_gains g_seed ++ zb_M cI bd m_s m_m m_image m_was m_hasImage m_letters m_row y_m_refused m_letterMany m_rowMany m_place m_numbers y_m_cost m_seed) H := hP
  have hD : va_D A (zb_G cI ad g_now g_mind g_taken g_isTaken g_letters g_letterCount g_told g_toldCount w_g_refusals w_g_costs g_gains g_seed ++ zb_M cI bd m_s m_m m_image m_was m_hasImage m_letters m_row y_m_refused m_letterMany m_rowMany m_place m_numbers y_m_cost m_seed) := hD
  have hLS : zLS D cI ad bd A s H locs := ⟨g_now, g_mind, g_taken, g_isTaken, g_letters, g_letterCount, g_told, g_toldCount, w_g_refusals, w_g_costs, g_gains, g_seed, m_s, m_m, m_image, m_was, m_hasImage, m_letters, m_row, y_m_refused, m_letterMany, m_rowMany, m_place, m_numbers, y_m_cost, m_seed, ⟨hRN, hRT, hRE, hRO, sRR⟩, hP, hD, hS⟩
  refine lv_icmp_eq (tgt := 1292) hx hb dL_law_751 (by decide) (fun _ => kk H locs hLS) (fun c9 => absurd e0 c9)
set_option maxHeartbeats 4000000 in
set_option maxRecDepth 100000 in
theorem lc_begin (hx : p.tables.exec = Jvm.exec) (hb : c.code = cL_law) (hml : c.maxLocals = 4) (hown : s.vm.findClass RL = some m.cls) (hts : ∀ w ∈ lw_tbl, w.before #[Value.ref b] s = true) (hX : va_X b Ln xs s s.heap) (hbl : b < s.heap.size) (hbA : ¬ A b) (hK : zb_K D cI s) (hE : zb_E aK aV A s s.heap) (hA : ∀ q, s.heap.size ≤ q → A q) {H : Heap} {locs : List Loc} {ls : Array Slot} {i : Nat} (hi : i + 6 ≤ Ln) (hLn : Ln ≤ 3072) (hl : lv_has ls 4 [(0, .ref b), (1, .ref (ad 0)), (2, .ref (bd 0)), (3, .int (nI i))]) (h : zLS D cI ad bd A s H locs) (kk : ∀ (H : Heap) (locs : List Loc), zLS D cI ad bd A s H locs → W p l e room_1 s m #[Value.ref b] below meth c H locs 37 1084 (lw_Z below #[Value.ref b] s) (F0 m 1292 ls [])) : W p l e room_1 s m #[Value.ref b] below meth c H locs 37 1084 (lw_Z below #[Value.ref b] s) (F0 m 756 ls []) := by
  obtain ⟨g_now, g_mind, g_taken, g_isTaken, g_letters, g_letterCount, g_told, g_toldCount, g_refusals, g_costs, g_gains, g_seed, m_s, m_m, m_image, m_was, m_hasImage, m_letters, m_row, m_refused, m_letterMany, m_rowMany, m_place, m_numbers, m_cost, m_seed, ⟨hRN, hRT, hRE, hRO, hRR⟩, hP, hD, hS⟩ := h
  have in1 : vp_in (nI i + (1 : Int32)) Ln := by rw [show (1 : Int32) = nI 1 from rfl, nI_add]; exact nI_in (by omega) (by omega)
  have in2 : vp_in (nI i + (2 : Int32)) Ln := by rw [show (2 : Int32) = nI 2 from rfl, nI_add]; exact nI_in (by omega) (by omega)
  have in3 : vp_in (nI i + (3 : Int32)) Ln := by rw [show (3 : Int32) = nI 3 from rfl, nI_add]; exact nI_in (by omega) (by omega)
  have SIM : Ok (fun a b => a.1 = b.1 ∧ RR a.2.2 b.2.2) (zf_X1_begin g_now g_mind g_refusals (xs (nI i + 1).toNatClampNeg) (xs (nI i + 2).toNatClampNeg) (xs (nI i + 3).toNatClampNeg)) (zf_X2_begin m_s m_m m_refused (xs (nI i + 1).toNatClampNeg) (xs (nI i + 2).toNatClampNeg) (xs (nI i + 3).toNatClampNeg)) := sim_begin hRN hRR (xs (nI i + 1).toNatClampNeg) (xs (nI i + 2).toNatClampNeg) (xs (nI i + 3).toNatClampNeg)
  obtain ⟨⟨r0, w_g_mind, w_g_refusals⟩, ⟨q0, y_m_m, y_m_refused⟩, f1, f2, e0, sRR⟩ := SIM
  try dsimp only at e0 sRR
  refine lv_aload_n hx hb dL_law_756 rfl (lv_at hl 1 rfl) ?_
  refine lv_aload_n hx hb dL_law_757 rfl (lv_at hl 0 rfl) ?_
  refine lv_iload_n hx hb dL_law_758 rfl (lv_at hl 3 rfl) ?_
  refine lv_iconst (v := (1 : Int32)) hx hb dL_law_759 (by decide) ?_
  refine lv_iadd hx hb dL_law_760 ?_
  refine va_sld hx hb hX hbl hbA hS (in1) dL_law_761 ?_
  refine lv_aload_n hx hb dL_law_762 rfl (lv_at hl 0 rfl) ?_
  refine lv_iload_n hx hb dL_law_763 rfl (lv_at hl 3 rfl) ?_
  refine lv_iconst (v := (2 : Int32)) hx hb dL_law_764 (by decide) ?_
  refine lv_iadd hx hb dL_law_765 ?_
  refine va_sld hx hb hX hbl hbA hS (in2) dL_law_766 ?_
  refine lv_aload_n hx hb dL_law_767 rfl (lv_at hl 0 rfl) ?_
  refine lv_iload_n hx hb dL_law_768 rfl (lv_at hl 3 rfl) ?_
  refine lv_iconst (v := (3 : Int32)) hx hb dL_law_769 (by decide) ?_
  refine lv_iadd hx hb dL_law_770 ?_
  refine va_sld hx hb hX hbl hbA hS (in3) dL_law_771 ?_
  refine zb_callV (As := [.int (xs (nI i + 1).toNatClampNeg), .int (xs (nI i + 2).toNatClampNeg), .int (xs (nI i + 3).toNatClampNeg)]) (rest := []) ⟨hx, hb, hml, hown, hts⟩ (zc_X1_begin l D cI ad g_now g_mind g_taken g_isTaken g_letters g_letterCount g_told g_toldCount g_refusals g_costs g_gains g_seed (xs (nI i + 1).toNatClampNeg) (xs (nI i + 2).toNatClampNeg) (xs (nI i + 3).toNatClampNeg) r0 w_g_mind w_g_refusals f1) (cwV 3 hts gQ_X1_begin rfl rfl rfl hd_X1_begin ⟨Nat.le_of_ble_eq_true rfl, Nat.le_of_ble_eq_true rfl⟩) hK hP hD hS hA (zb_lG) (q0 := 0) rfl rfl rfl hl.1 rfl (Nat.le_of_ble_eq_true rfl) dL_law_772 ⟨Nat.le_refl _, Nat.le_refl _⟩ (fun H locs hP hD hS => ?_)
  have hP : va_P D zb_cl (zb_G cI ad g_now w_g_mind g_taken g_isTaken g_letters g_letterCount g_told g_toldCount w_g_refusals g_costs g_gains g_seed ++ zb_M cI bd m_s m_m m_image m_was m_hasImage m_letters m_row m_refused m_letterMany m_rowMany m_place m_numbers m_cost m_seed) H := hP
  have hD : va_D A (zb_G cI ad g_now w_g_mind g_taken g_isTaken g_letters g_letterCount g_told g_toldCount w_g_refusals g_costs g_gains g_seed ++ zb_M cI bd m_s m_m m_image m_was m_hasImage m_letters m_row m_refused m_letterMany m_rowMany m_place m_numbers m_cost m_seed) := hD
  refine lv_aload_n hx hb dL_law_775 rfl (lv_at hl 2 rfl) ?_
  refine lv_aload_n hx hb dL_law_776 rfl (lv_at hl 0 rfl) ?_
  refine lv_iload_n hx hb dL_law_777 rfl (lv_at hl 3 rfl) ?_
  refine lv_iconst (v := (1 : Int32)) hx hb dL_law_778 (by decide) ?_
  refine lv_iadd hx hb dL_law_779 ?_
  refine va_sld hx hb hX hbl hbA hS (in1) dL_law_780 ?_
  refine lv_aload_n hx hb dL_law_781 rfl (lv_at hl 0 rfl) ?_
  refine lv_iload_n hx hb dL_law_782 rfl (lv_at hl 3 rfl) ?_
  refine lv_iconst (v := (2 : Int32)) hx hb dL_law_783 (by decide) ?_
  refine lv_iadd hx hb dL_law_784 ?_
  refine va_sld hx hb hX hbl hbA hS (in2) dL_law_785 ?_
  refine lv_aload_n hx hb dL_law_786 rfl (lv_at hl 0 rfl) ?_
  refine lv_iload_n hx hb dL_law_787 rfl (lv_at hl 3 rfl) ?_
  refine lv_iconst (v := (3 : Int32)) hx hb dL_law_788 (by decide) ?_
  refine lv_iadd hx hb dL_law_789 ?_
  refine va_sld hx hb hX hbl hbA hS (in3) dL_law_790 ?_
  refine zb_callV (As := [.int (xs (nI i + 1).toNatClampNeg), .int (xs (nI i + 2).toNatClampNeg), .int (xs (nI i + 3).toNatClampNeg)]) (rest := [.int r0]) ⟨hx, hb, hml, hown, hts⟩ (zc_X2_begin l D cI bd m_s m_m m_image m_was m_hasImage m_letters m_row m_refused m_letterMany m_rowMany m_place m_numbers m_cost m_seed (xs (nI i + 1).toNatClampNeg) (xs (nI i + 2).toNatClampNeg) (xs (nI i + 3).toNatClampNeg) q0 y_m_m y_m_refused f2) (cwV 3 hts gQ_X2_begin rfl rfl rfl hd_X2_begin ⟨Nat.le_of_ble_eq_true rfl, Nat.le_of_ble_eq_true rfl⟩) hK hP hD hS hA (zb_lM) (q0 := 0) rfl rfl rfl hl.1 rfl (Nat.le_of_ble_eq_true rfl) dL_law_791 ⟨Nat.le_refl _, Nat.le_refl _⟩ (fun H locs hP hD hS => ?_)
  have hP : va_P D zb_cl (zb_G cI ad g_now w_g_mind g_taken g_isTaken g_letters g_letterCount g_told g_toldCount w_g_refusals g_costs g_gains g_seed ++ zb_M cI bd m_s y_m_m m_image m_was m_hasImage m_letters m_row y_m_refused m_letterMany m_rowMany m_place m_numbers m_cost m_seed) H := hP
  have hD : va_D A (zb_G cI ad g_now w_g_mind g_taken g_isTaken g_letters g_letterCount g_told g_toldCount w_g_refusals g_costs g_gains g_seed ++ zb_M cI bd m_s y_m_m m_image m_was m_hasImage m_letters m_row y_m_refused m_letterMany m_rowMany m_place m_numbers m_cost m_seed) := hD
  have hLS : zLS D cI ad bd A s H locs := ⟨g_now, w_g_mind, g_taken, g_isTaken, g_letters, g_letterCount, g_told, g_toldCount, w_g_refusals, g_costs, g_gains, g_seed, m_s, y_m_m, m_image, m_was, m_hasImage, m_letters, m_row, y_m_refused, m_letterMany, m_rowMany, m_place, m_numbers, m_cost, m_seed, ⟨hRN, hRT, hRE, hRO, sRR⟩, hP, hD, hS⟩
  refine lv_icmp_eq (tgt := 1292) hx hb dL_law_794 (by decide) (fun _ => kk H locs hLS) (fun c9 => absurd e0 c9)
set_option maxHeartbeats 4000000 in
set_option maxRecDepth 100000 in
theorem lc_head (hx : p.tables.exec = Jvm.exec) (hb : c.code = cL_law) (hml : c.maxLocals = 4) (hown : s.vm.findClass RL = some m.cls) (hts : ∀ w ∈ lw_tbl, w.before #[Value.ref b] s = true) (hX : va_X b Ln xs s s.heap) (hbl : b < s.heap.size) (hbA : ¬ A b) (hK : zb_K D cI s) (hE : zb_E aK aV A s s.heap) (hA : ∀ q, s.heap.size ≤ q → A q) {H : Heap} {locs : List Loc} {ls : Array Slot} {i : Nat} (hi : i + 6 ≤ Ln) (hLn : Ln ≤ 3072) (hl : lv_has ls 4 [(0, .ref b), (1, .ref (ad 0)), (2, .ref (bd 0)), (3, .int (nI i))]) (h : zLS D cI ad bd A s H locs) (kk : ∀ (H : Heap) (locs : List Loc), zLS D cI ad bd A s H locs → W p l e room_1 s m #[Value.ref b] below meth c H locs 37 1084 (lw_Z below #[Value.ref b] s) (F0 m 1292 ls [])) : W p l e room_1 s m #[Value.ref b] below meth c H locs 37 1084 (lw_Z below #[Value.ref b] s) (F0 m 799 ls []) := by
  obtain ⟨g_now, g_mind, g_taken, g_isTaken, g_letters, g_letterCount, g_told, g_toldCount, g_refusals, g_costs, g_gains, g_seed, m_s, m_m, m_image, m_was, m_hasImage, m_letters, m_row, m_refused, m_letterMany, m_rowMany, m_place, m_numbers, m_cost, m_seed, ⟨hRN, hRT, hRE, hRO, hRR⟩, hP, hD, hS⟩ := h
  have in1 : vp_in (nI i + (1 : Int32)) Ln := by rw [show (1 : Int32) = nI 1 from rfl, nI_add]; exact nI_in (by omega) (by omega)
  have in2 : vp_in (nI i + (2 : Int32)) Ln := by rw [show (2 : Int32) = nI 2 from rfl, nI_add]; exact nI_in (by omega) (by omega)
  have SIM : Ok (fun a b => a.1 = b.1 ∧ RR a.2.2 b.2.2) (zf_X1_head g_now g_mind g_refusals (xs (nI i + 1).toNatClampNeg) (xs (nI i + 2).toNatClampNeg)) (zf_X2_head m_s m_m m_refused (xs (nI i + 1).toNatClampNeg) (xs (nI i + 2).toNatClampNeg)) := sim_head hRN hRR (xs (nI i + 1).toNatClampNeg) (xs (nI i + 2).toNatClampNeg)
  obtain ⟨⟨r0, w_g_mind, w_g_refusals⟩, ⟨q0, y_m_m, y_m_refused⟩, f1, f2, e0, sRR⟩ := SIM
  try dsimp only at e0 sRR
  refine lv_aload_n hx hb dL_law_799 rfl (lv_at hl 1 rfl) ?_
  refine lv_aload_n hx hb dL_law_800 rfl (lv_at hl 0 rfl) ?_
  refine lv_iload_n hx hb dL_law_801 rfl (lv_at hl 3 rfl) ?_
  refine lv_iconst (v := (1 : Int32)) hx hb dL_law_802 (by decide) ?_
  refine lv_iadd hx hb dL_law_803 ?_
  refine va_sld hx hb hX hbl hbA hS (in1) dL_law_804 ?_
  refine lv_aload_n hx hb dL_law_805 rfl (lv_at hl 0 rfl) ?_
  refine lv_iload_n hx hb dL_law_806 rfl (lv_at hl 3 rfl) ?_
  refine lv_iconst (v := (2 : Int32)) hx hb dL_law_807 (by decide) ?_
  refine lv_iadd hx hb dL_law_808 ?_
  refine va_sld hx hb hX hbl hbA hS (in2) dL_law_809 ?_
  refine zb_callV (As := [.int (xs (nI i + 1).toNatClampNeg), .int (xs (nI i + 2).toNatClampNeg)]) (rest := []) ⟨hx, hb, hml, hown, hts⟩ (zc_X1_head l D cI ad g_now g_mind g_taken g_isTaken g_letters g_letterCount g_told g_toldCount g_refusals g_costs g_gains g_seed (xs (nI i + 1).toNatClampNeg) (xs (nI i + 2).toNatClampNeg) r0 w_g_mind w_g_refusals f1) (cwV 2 hts gQ_X1_head rfl rfl rfl hd_X1_head ⟨Nat.le_of_ble_eq_true rfl, Nat.le_of_ble_eq_true rfl⟩) hK hP hD hS hA (zb_lG) (q0 := 0) rfl rfl rfl hl.1 rfl (Nat.le_of_ble_eq_true rfl) dL_law_810 ⟨Nat.le_refl _, Nat.le_refl _⟩ (fun H locs hP hD hS => ?_)
  have hP : va_P D zb_cl (zb_G cI ad g_now w_g_mind g_taken g_isTaken g_letters g_letterCount g_told g_toldCount w_g_refusals g_costs g_gains g_seed ++ zb_M cI bd m_s m_m m_image m_was m_hasImage m_letters m_row m_refused m_letterMany m_rowMany m_place m_numbers m_cost m_seed) H := hP
  have hD : va_D A (zb_G cI ad g_now w_g_mind g_taken g_isTaken g_letters g_letterCount g_told g_toldCount w_g_refusals g_costs g_gains g_seed ++ zb_M cI bd m_s m_m m_image m_was m_hasImage m_letters m_row m_refused m_letterMany m_rowMany m_place m_numbers m_cost m_seed) := hD
  refine lv_aload_n hx hb dL_law_813 rfl (lv_at hl 2 rfl) ?_
  refine lv_aload_n hx hb dL_law_814 rfl (lv_at hl 0 rfl) ?_
  refine lv_iload_n hx hb dL_law_815 rfl (lv_at hl 3 rfl) ?_
  refine lv_iconst (v := (1 : Int32)) hx hb dL_law_816 (by decide) ?_
  refine lv_iadd hx hb dL_law_817 ?_
  refine va_sld hx hb hX hbl hbA hS (in1) dL_law_818 ?_
  refine lv_aload_n hx hb dL_law_819 rfl (lv_at hl 0 rfl) ?_
  refine lv_iload_n hx hb dL_law_820 rfl (lv_at hl 3 rfl) ?_
  refine lv_iconst (v := (2 : Int32)) hx hb dL_law_821 (by decide) ?_
  refine lv_iadd hx hb dL_law_822 ?_
  refine va_sld hx hb hX hbl hbA hS (in2) dL_law_823 ?_
  refine zb_callV (As := [.int (xs (nI i + 1).toNatClampNeg), .int (xs (nI i + 2).toNatClampNeg)]) (rest := [.int r0]) ⟨hx, hb, hml, hown, hts⟩ (zc_X2_head l D cI bd m_s m_m m_image m_was m_hasImage m_letters m_row m_refused m_letterMany m_rowMany m_place m_numbers m_cost m_seed (xs (nI i + 1).toNatClampNeg) (xs (nI i + 2).toNatClampNeg) q0 y_m_m y_m_refused f2) (cwV 2 hts gQ_X2_head rfl rfl rfl hd_X2_head ⟨Nat.le_of_ble_eq_true rfl, Nat.le_of_ble_eq_true rfl⟩) hK hP hD hS hA (zb_lM) (q0 := 0) rfl rfl rfl hl.1 rfl (Nat.le_of_ble_eq_true rfl) dL_law_824 ⟨Nat.le_refl _, Nat.le_refl _⟩ (fun H locs hP hD hS => ?_)
  have hP : va_P D zb_cl (zb_G cI ad g_now w_g_mind g_taken g_isTaken g_letters g_letterCount g_told g_toldCount w_g_refusals g_costs g_gains g_seed ++ zb_M cI bd m_s y_m_m m_image m_was m_hasImage m_letters m_row y_m_refused m_letterMany m_rowMany m_place m_numbers m_cost m_seed) H := hP
  have hD : va_D A (zb_G cI ad g_now w_g_mind g_taken g_isTaken g_letters g_letterCount g_told g_toldCount w_g_refusals g_costs g_gains g_seed ++ zb_M cI bd m_s y_m_m m_image m_was m_hasImage m_letters m_row y_m_refused m_letterMany m_rowMany m_place m_numbers m_cost m_seed) := hD
  have hLS : zLS D cI ad bd A s H locs := ⟨g_now, w_g_mind, g_taken, g_isTaken, g_letters, g_letterCount, g_told, g_toldCount, w_g_refusals, g_costs, g_gains, g_seed, m_s, y_m_m, m_image, m_was, m_hasImage, m_letters, m_row, y_m_refused, m_letterMany, m_rowMany, m_place, m_numbers, m_cost, m_seed, ⟨hRN, hRT, hRE, hRO, sRR⟩, hP, hD, hS⟩
  refine lv_icmp_eq (tgt := 1292) hx hb dL_law_827 (by decide) (fun _ => kk H locs hLS) (fun c9 => absurd e0 c9)
set_option maxHeartbeats 4000000 in
set_option maxRecDepth 100000 in
theorem lc_damp (hx : p.tables.exec = Jvm.exec) (hb : c.code = cL_law) (hml : c.maxLocals = 4) (hown : s.vm.findClass RL = some m.cls) (hts : ∀ w ∈ lw_tbl, w.before #[Value.ref b] s = true) (hX : va_X b Ln xs s s.heap) (hbl : b < s.heap.size) (hbA : ¬ A b) (hK : zb_K D cI s) (hE : zb_E aK aV A s s.heap) (hA : ∀ q, s.heap.size ≤ q → A q) {H : Heap} {locs : List Loc} {ls : Array Slot} {i : Nat} (hi : i + 6 ≤ Ln) (hLn : Ln ≤ 3072) (hl : lv_has ls 4 [(0, .ref b), (1, .ref (ad 0)), (2, .ref (bd 0)), (3, .int (nI i))]) (h : zLS D cI ad bd A s H locs) (kk : ∀ (H : Heap) (locs : List Loc), zLS D cI ad bd A s H locs → W p l e room_1 s m #[Value.ref b] below meth c H locs 37 1084 (lw_Z below #[Value.ref b] s) (F0 m 1292 ls [])) : W p l e room_1 s m #[Value.ref b] below meth c H locs 37 1084 (lw_Z below #[Value.ref b] s) (F0 m 832 ls []) := by
  obtain ⟨g_now, g_mind, g_taken, g_isTaken, g_letters, g_letterCount, g_told, g_toldCount, g_refusals, g_costs, g_gains, g_seed, m_s, m_m, m_image, m_was, m_hasImage, m_letters, m_row, m_refused, m_letterMany, m_rowMany, m_place, m_numbers, m_cost, m_seed, ⟨hRN, hRT, hRE, hRO, hRR⟩, hP, hD, hS⟩ := h
  have in1 : vp_in (nI i + (1 : Int32)) Ln := by rw [show (1 : Int32) = nI 1 from rfl, nI_add]; exact nI_in (by omega) (by omega)
  have in2 : vp_in (nI i + (2 : Int32)) Ln := by rw [show (2 : Int32) = nI 2 from rfl, nI_add]; exact nI_in (by omega) (by omega)
  have SIM : Ok (fun a b => a.1 = b.1 ∧ RR a.2.2 b.2.2) (zf_X1_damp g_now g_mind g_refusals (xs (nI i + 1).toNatClampNeg) (xs (nI i + 2).toNatClampNeg)) (zf_X2_damp m_s m_m m_refused (xs (nI i + 1).toNatClampNeg) (xs (nI i + 2).toNatClampNeg)) := sim_damp hRN hRR (xs (nI i + 1).toNatClampNeg) (xs (nI i + 2).toNatClampNeg)
  obtain ⟨⟨r0, w_g_mind, w_g_refusals⟩, ⟨q0, y_m_m, y_m_refused⟩, f1, f2, e0, sRR⟩ := SIM
  try dsimp only at e0 sRR
  refine lv_aload_n hx hb dL_law_832 rfl (lv_at hl 1 rfl) ?_
  refine lv_aload_n hx hb dL_law_833 rfl (lv_at hl 0 rfl) ?_
  refine lv_iload_n hx hb dL_law_834 rfl (lv_at hl 3 rfl) ?_
  refine lv_iconst (v := (1 : Int32)) hx hb dL_law_835 (by decide) ?_
  refine lv_iadd hx hb dL_law_836 ?_
  refine va_sld hx hb hX hbl hbA hS (in1) dL_law_837 ?_
  refine lv_aload_n hx hb dL_law_838 rfl (lv_at hl 0 rfl) ?_
  refine lv_iload_n hx hb dL_law_839 rfl (lv_at hl 3 rfl) ?_
  refine lv_iconst (v := (2 : Int32)) hx hb dL_law_840 (by decide) ?_
  refine lv_iadd hx hb dL_law_841 ?_
  refine va_sld hx hb hX hbl hbA hS (in2) dL_law_842 ?_
  refine zb_callV (As := [.int (xs (nI i + 1).toNatClampNeg), .int (xs (nI i + 2).toNatClampNeg)]) (rest := []) ⟨hx, hb, hml, hown, hts⟩ (zc_X1_damp l D cI ad g_now g_mind g_taken g_isTaken g_letters g_letterCount g_told g_toldCount g_refusals g_costs g_gains g_seed (xs (nI i + 1).toNatClampNeg) (xs (nI i + 2).toNatClampNeg) r0 w_g_mind w_g_refusals f1) (cwV 2 hts gQ_X1_damp rfl rfl rfl hd_X1_damp ⟨Nat.le_of_ble_eq_true rfl, Nat.le_of_ble_eq_true rfl⟩) hK hP hD hS hA (zb_lG) (q0 := 0) rfl rfl rfl hl.1 rfl (Nat.le_of_ble_eq_true rfl) dL_law_843 ⟨Nat.le_refl _, Nat.le_refl _⟩ (fun H locs hP hD hS => ?_)
  have hP : va_P D zb_cl (zb_G cI ad g_now w_g_mind g_taken g_isTaken g_letters g_letterCount g_told g_toldCount w_g_refusals g_costs g_gains g_seed ++ zb_M cI bd m_s m_m m_image m_was m_hasImage m_letters m_row m_refused m_letterMany m_rowMany m_place m_numbers m_cost m_seed) H := hP
  have hD : va_D A (zb_G cI ad g_now w_g_mind g_taken g_isTaken g_letters g_letterCount g_told g_toldCount w_g_refusals g_costs g_gains g_seed ++ zb_M cI bd m_s m_m m_image m_was m_hasImage m_letters m_row m_refused m_letterMany m_rowMany m_place m_numbers m_cost m_seed) := hD
  refine lv_aload_n hx hb dL_law_846 rfl (lv_at hl 2 rfl) ?_
  refine lv_aload_n hx hb dL_law_847 rfl (lv_at hl 0 rfl) ?_
  refine lv_iload_n hx hb dL_law_848 rfl (lv_at hl 3 rfl) ?_
  refine lv_iconst (v := (1 : Int32)) hx hb dL_law_849 (by decide) ?_
  refine lv_iadd hx hb dL_law_850 ?_
  refine va_sld hx hb hX hbl hbA hS (in1) dL_law_851 ?_
  refine lv_aload_n hx hb dL_law_852 rfl (lv_at hl 0 rfl) ?_
  refine lv_iload_n hx hb dL_law_853 rfl (lv_at hl 3 rfl) ?_
  refine lv_iconst (v := (2 : Int32)) hx hb dL_law_854 (by decide) ?_
  refine lv_iadd hx hb dL_law_855 ?_
  refine va_sld hx hb hX hbl hbA hS (in2) dL_law_856 ?_
  refine zb_callV (As := [.int (xs (nI i + 1).toNatClampNeg), .int (xs (nI i + 2).toNatClampNeg)]) (rest := [.int r0]) ⟨hx, hb, hml, hown, hts⟩ (zc_X2_damp l D cI bd m_s m_m m_image m_was m_hasImage m_letters m_row m_refused m_letterMany m_rowMany m_place m_numbers m_cost m_seed (xs (nI i + 1).toNatClampNeg) (xs (nI i + 2).toNatClampNeg) q0 y_m_m y_m_refused f2) (cwV 2 hts gQ_X2_damp rfl rfl rfl hd_X2_damp ⟨Nat.le_of_ble_eq_true rfl, Nat.le_of_ble_eq_true rfl⟩) hK hP hD hS hA (zb_lM) (q0 := 0) rfl rfl rfl hl.1 rfl (Nat.le_of_ble_eq_true rfl) dL_law_857 ⟨Nat.le_refl _, Nat.le_refl _⟩ (fun H locs hP hD hS => ?_)
  have hP : va_P D zb_cl (zb_G cI ad g_now w_g_mind g_taken g_isTaken g_letters g_letterCount g_told g_toldCount w_g_refusals g_costs g_gains g_seed ++ zb_M cI bd m_s y_m_m m_image m_was m_hasImage m_letters m_row y_m_refused m_letterMany m_rowMany m_place m_numbers m_cost m_seed) H := hP
  have hD : va_D A (zb_G cI ad g_now w_g_mind g_taken g_isTaken g_letters g_letterCount g_told g_toldCount w_g_refusals g_costs g_gains g_seed ++ zb_M cI bd m_s y_m_m m_image m_was m_hasImage m_letters m_row y_m_refused m_letterMany m_rowMany m_place m_numbers m_cost m_seed) := hD
  have hLS : zLS D cI ad bd A s H locs := ⟨g_now, w_g_mind, g_taken, g_isTaken, g_letters, g_letterCount, g_told, g_toldCount, w_g_refusals, g_costs, g_gains, g_seed, m_s, y_m_m, m_image, m_was, m_hasImage, m_letters, m_row, y_m_refused, m_letterMany, m_rowMany, m_place, m_numbers, m_cost, m_seed, ⟨hRN, hRT, hRE, hRO, sRR⟩, hP, hD, hS⟩
  refine lv_icmp_eq (tgt := 1292) hx hb dL_law_860 (by decide) (fun _ => kk H locs hLS) (fun c9 => absurd e0 c9)
set_option maxHeartbeats 4000000 in
set_option maxRecDepth 100000 in
theorem lc_bestKind (hx : p.tables.exec = Jvm.exec) (hb : c.code = cL_law) (hml : c.maxLocals = 4) (hown : s.vm.findClass RL = some m.cls) (hts : ∀ w ∈ lw_tbl, w.before #[Value.ref b] s = true) (hX : va_X b Ln xs s s.heap) (hbl : b < s.heap.size) (hbA : ¬ A b) (hK : zb_K D cI s) (hE : zb_E aK aV A s s.heap) (hA : ∀ q, s.heap.size ≤ q → A q) {H : Heap} {locs : List Loc} {ls : Array Slot} {i : Nat} (hi : i + 6 ≤ Ln) (hLn : Ln ≤ 3072) (hl : lv_has ls 4 [(0, .ref b), (1, .ref (ad 0)), (2, .ref (bd 0)), (3, .int (nI i))]) (h : zLS D cI ad bd A s H locs) (kk : ∀ (H : Heap) (locs : List Loc), zLS D cI ad bd A s H locs → W p l e room_1 s m #[Value.ref b] below meth c H locs 37 1084 (lw_Z below #[Value.ref b] s) (F0 m 1292 ls [])) : W p l e room_1 s m #[Value.ref b] below meth c H locs 37 1084 (lw_Z below #[Value.ref b] s) (F0 m 865 ls []) := by
  obtain ⟨g_now, g_mind, g_taken, g_isTaken, g_letters, g_letterCount, g_told, g_toldCount, g_refusals, g_costs, g_gains, g_seed, m_s, m_m, m_image, m_was, m_hasImage, m_letters, m_row, m_refused, m_letterMany, m_rowMany, m_place, m_numbers, m_cost, m_seed, ⟨hRN, hRT, hRE, hRO, hRR⟩, hP, hD, hS⟩ := h
  have in1 : vp_in (nI i + (1 : Int32)) Ln := by rw [show (1 : Int32) = nI 1 from rfl, nI_add]; exact nI_in (by omega) (by omega)
  have in2 : vp_in (nI i + (2 : Int32)) Ln := by rw [show (2 : Int32) = nI 2 from rfl, nI_add]; exact nI_in (by omega) (by omega)
  have in3 : vp_in (nI i + (3 : Int32)) Ln := by rw [show (3 : Int32) = nI 3 from rfl, nI_add]; exact nI_in (by omega) (by omega)
  have SIM : Ok (fun a b => a.1 = b.1 ∧ RR a.2.2 b.2.2) (zf_X1_bestKind g_now g_mind g_refusals (xs (nI i + 1).toNatClampNeg) (xs (nI i + 2).toNatClampNeg) (xs (nI i + 3).toNatClampNeg)) (zf_X2_bestKind m_s m_m m_refused (xs (nI i + 1).toNatClampNeg) (xs (nI i + 2).toNatClampNeg) (xs (nI i + 3).toNatClampNeg)) := sim_bestKind hRN hRR (xs (nI i + 1).toNatClampNeg) (xs (nI i + 2).toNatClampNeg) (xs (nI i + 3).toNatClampNeg)
  obtain ⟨⟨r0, w_g_mind, w_g_refusals⟩, ⟨q0, y_m_m, y_m_refused⟩, f1, f2, e0, sRR⟩ := SIM
  try dsimp only at e0 sRR
  refine lv_aload_n hx hb dL_law_865 rfl (lv_at hl 1 rfl) ?_
  refine lv_aload_n hx hb dL_law_866 rfl (lv_at hl 0 rfl) ?_
  refine lv_iload_n hx hb dL_law_867 rfl (lv_at hl 3 rfl) ?_
  refine lv_iconst (v := (1 : Int32)) hx hb dL_law_868 (by decide) ?_
  refine lv_iadd hx hb dL_law_869 ?_
  refine va_sld hx hb hX hbl hbA hS (in1) dL_law_870 ?_
  refine lv_aload_n hx hb dL_law_871 rfl (lv_at hl 0 rfl) ?_
  refine lv_iload_n hx hb dL_law_872 rfl (lv_at hl 3 rfl) ?_
  refine lv_iconst (v := (2 : Int32)) hx hb dL_law_873 (by decide) ?_
  refine lv_iadd hx hb dL_law_874 ?_
  refine va_sld hx hb hX hbl hbA hS (in2) dL_law_875 ?_
  refine lv_aload_n hx hb dL_law_876 rfl (lv_at hl 0 rfl) ?_
  refine lv_iload_n hx hb dL_law_877 rfl (lv_at hl 3 rfl) ?_
  refine lv_iconst (v := (3 : Int32)) hx hb dL_law_878 (by decide) ?_
  refine lv_iadd hx hb dL_law_879 ?_
  refine va_sld hx hb hX hbl hbA hS (in3) dL_law_880 ?_
  refine zb_callV (As := [.int (xs (nI i + 1).toNatClampNeg), .int (xs (nI i + 2).toNatClampNeg), .int (xs (nI i + 3).toNatClampNeg)]) (rest := []) ⟨hx, hb, hml, hown, hts⟩ (zc_X1_bestKind l D cI ad g_now g_mind g_taken g_isTaken g_letters g_letterCount g_told g_toldCount g_refusals g_costs g_gains g_seed (xs (nI i + 1).toNatClampNeg) (xs (nI i + 2).toNatClampNeg) (xs (nI i + 3).toNatClampNeg) r0 w_g_mind w_g_refusals f1) (cwV 3 hts gQ_X1_bestKind rfl rfl rfl hd_X1_bestKind ⟨Nat.le_of_ble_eq_true rfl, Nat.le_of_ble_eq_true rfl⟩) hK hP hD hS hA (zb_lG) (q0 := 0) rfl rfl rfl hl.1 rfl (Nat.le_of_ble_eq_true rfl) dL_law_881 ⟨Nat.le_refl _, Nat.le_refl _⟩ (fun H locs hP hD hS => ?_)
  have hP : va_P D zb_cl (zb_G cI ad g_now w_g_mind g_taken g_isTaken g_letters g_letterCount g_told g_toldCount w_g_refusals g_costs g_gains g_seed ++ zb_M cI bd m_s m_m m_image m_was m_hasImage m_letters m_row m_refused m_letterMany m_rowMany m_place m_numbers m_cost m_seed) H := hP
  have hD : va_D A (zb_G cI ad g_now w_g_mind g_taken g_isTaken g_letters g_letterCount g_told g_toldCount w_g_refusals g_costs g_gains g_seed ++ zb_M cI bd m_s m_m m_image m_was m_hasImage m_letters m_row m_refused m_letterMany m_rowMany m_place m_numbers m_cost m_seed) := hD
  refine lv_aload_n hx hb dL_law_884 rfl (lv_at hl 2 rfl) ?_
  refine lv_aload_n hx hb dL_law_885 rfl (lv_at hl 0 rfl) ?_
  refine lv_iload_n hx hb dL_law_886 rfl (lv_at hl 3 rfl) ?_
  refine lv_iconst (v := (1 : Int32)) hx hb dL_law_887 (by decide) ?_
  refine lv_iadd hx hb dL_law_888 ?_
  refine va_sld hx hb hX hbl hbA hS (in1) dL_law_889 ?_
  refine lv_aload_n hx hb dL_law_890 rfl (lv_at hl 0 rfl) ?_
  refine lv_iload_n hx hb dL_law_891 rfl (lv_at hl 3 rfl) ?_
  refine lv_iconst (v := (2 : Int32)) hx hb dL_law_892 (by decide) ?_
  refine lv_iadd hx hb dL_law_893 ?_
  refine va_sld hx hb hX hbl hbA hS (in2) dL_law_894 ?_
  refine lv_aload_n hx hb dL_law_895 rfl (lv_at hl 0 rfl) ?_
  refine lv_iload_n hx hb dL_law_896 rfl (lv_at hl 3 rfl) ?_
  refine lv_iconst (v := (3 : Int32)) hx hb dL_law_897 (by decide) ?_
  refine lv_iadd hx hb dL_law_898 ?_
  refine va_sld hx hb hX hbl hbA hS (in3) dL_law_899 ?_
  refine zb_callV (As := [.int (xs (nI i + 1).toNatClampNeg), .int (xs (nI i + 2).toNatClampNeg), .int (xs (nI i + 3).toNatClampNeg)]) (rest := [.int r0]) ⟨hx, hb, hml, hown, hts⟩ (zc_X2_bestKind l D cI bd m_s m_m m_image m_was m_hasImage m_letters m_row m_refused m_letterMany m_rowMany m_place m_numbers m_cost m_seed (xs (nI i + 1).toNatClampNeg) (xs (nI i + 2).toNatClampNeg) (xs (nI i + 3).toNatClampNeg) q0 y_m_m y_m_refused f2) (cwV 3 hts gQ_X2_bestKind rfl rfl rfl hd_X2_bestKind ⟨Nat.le_of_ble_eq_true rfl, Nat.le_of_ble_eq_true rfl⟩) hK hP hD hS hA (zb_lM) (q0 := 0) rfl rfl rfl hl.1 rfl (Nat.le_of_ble_eq_true rfl) dL_law_900 ⟨Nat.le_refl _, Nat.le_refl _⟩ (fun H locs hP hD hS => ?_)
  have hP : va_P D zb_cl (zb_G cI ad g_now w_g_mind g_taken g_isTaken g_letters g_letterCount g_told g_toldCount w_g_refusals g_costs g_gains g_seed ++ zb_M cI bd m_s y_m_m m_image m_was m_hasImage m_letters m_row y_m_refused m_letterMany m_rowMany m_place m_numbers m_cost m_seed) H := hP
  have hD : va_D A (zb_G cI ad g_now w_g_mind g_taken g_isTaken g_letters g_letterCount g_told g_toldCount w_g_refusals g_costs g_gains g_seed ++ zb_M cI bd m_s y_m_m m_image m_was m_hasImage m_letters m_row y_m_refused m_letterMany m_rowMany m_place m_numbers m_cost m_seed) := hD
  have hLS : zLS D cI ad bd A s H locs := ⟨g_now, w_g_mind, g_taken, g_isTaken, g_letters, g_letterCount, g_told, g_toldCount, w_g_refusals, g_costs, g_gains, g_seed, m_s, y_m_m, m_image, m_was, m_hasImage, m_letters, m_row, y_m_refused, m_letterMany, m_rowMany, m_place, m_numbers, m_cost, m_seed, ⟨hRN, hRT, hRE, hRO, sRR⟩, hP, hD, hS⟩
  refine lv_icmp_eq (tgt := 1292) hx hb dL_law_903 (by decide) (fun _ => kk H locs hLS) (fun c9 => absurd e0 c9)
set_option maxHeartbeats 4000000 in
set_option maxRecDepth 100000 in
theorem lc_dry (hx : p.tables.exec = Jvm.exec) (hb : c.code = cL_law) (hml : c.maxLocals = 4) (hown : s.vm.findClass RL = some m.cls) (hts : ∀ w ∈ lw_tbl, w.before #[Value.ref b] s = true) (hX : va_X b Ln xs s s.heap) (hbl : b < s.heap.size) (hbA : ¬ A b) (hK : zb_K D cI s) (hE : zb_E aK aV A s s.heap) (hA : ∀ q, s.heap.size ≤ q → A q) {H : Heap} {locs : List Loc} {ls : Array Slot} {i : Nat} (hi : i + 6 ≤ Ln) (hLn : Ln ≤ 3072) (hl : lv_has ls 4 [(0, .ref b), (1, .ref (ad 0)), (2, .ref (bd 0)), (3, .int (nI i))]) (h : zLS D cI ad bd A s H locs) (kk : ∀ (H : Heap) (locs : List Loc), zLS D cI ad bd A s H locs → W p l e room_1 s m #[Value.ref b] below meth c H locs 37 1084 (lw_Z below #[Value.ref b] s) (F0 m 1292 ls [])) : W p l e room_1 s m #[Value.ref b] below meth c H locs 37 1084 (lw_Z below #[Value.ref b] s) (F0 m 908 ls []) := by
  obtain ⟨g_now, g_mind, g_taken, g_isTaken, g_letters, g_letterCount, g_told, g_toldCount, g_refusals, g_costs, g_gains, g_seed, m_s, m_m, m_image, m_was, m_hasImage, m_letters, m_row, m_refused, m_letterMany, m_rowMany, m_place, m_numbers, m_cost, m_seed, ⟨hRN, hRT, hRE, hRO, hRR⟩, hP, hD, hS⟩ := h
  have in1 : vp_in (nI i + (1 : Int32)) Ln := by rw [show (1 : Int32) = nI 1 from rfl, nI_add]; exact nI_in (by omega) (by omega)
  have SIM : Ok (fun a b => a.1 = b.1 ∧ RR a.2 b.2) (zf_X1_dry g_now g_refusals (xs (nI i + 1).toNatClampNeg)) (zf_X2_dry m_s m_refused (xs (nI i + 1).toNatClampNeg)) := sim_dry hRN hRR (xs (nI i + 1).toNatClampNeg)
  obtain ⟨⟨r0, w_g_refusals⟩, ⟨q0, y_m_refused⟩, f1, f2, e0, sRR⟩ := SIM
  try dsimp only at e0 sRR
  refine lv_aload_n hx hb dL_law_908 rfl (lv_at hl 1 rfl) ?_
  refine lv_aload_n hx hb dL_law_909 rfl (lv_at hl 0 rfl) ?_
  refine lv_iload_n hx hb dL_law_910 rfl (lv_at hl 3 rfl) ?_
  refine lv_iconst (v := (1 : Int32)) hx hb dL_law_911 (by decide) ?_
  refine lv_iadd hx hb dL_law_912 ?_
  refine va_sld hx hb hX hbl hbA hS (in1) dL_law_913 ?_
  refine zb_callV (As := [.int (xs (nI i + 1).toNatClampNeg)]) (rest := []) ⟨hx, hb, hml, hown, hts⟩ (zc_X1_dry l D cI ad g_now g_mind g_taken g_isTaken g_letters g_letterCount g_told g_toldCount g_refusals g_costs g_gains g_seed (xs (nI i + 1).toNatClampNeg) r0 w_g_refusals f1) (cwV 1 hts gQ_X1_dry rfl rfl rfl hd_X1_dry ⟨Nat.le_of_ble_eq_true rfl, Nat.le_of_ble_eq_true rfl⟩) hK hP hD hS hA (zb_lG) (q0 := 0) rfl rfl rfl hl.1 rfl (Nat.le_of_ble_eq_true rfl) dL_law_914 ⟨Nat.le_refl _, Nat.le_refl _⟩ (fun H locs hP hD hS => ?_)
  have hP : va_P D zb_cl (zb_G cI ad g_now g_mind g_taken g_isTaken g_letters g_letterCount g_told g_toldCount w_g_refusals g_costs g_gains g_seed ++ zb_M cI bd m_s m_m m_image m_was m_hasImage m_letters m_row m_refused m_letterMany m_rowMany m_place m_numbers m_cost m_seed) H := hP
  have hD : va_D A (zb_G cI ad g_now g_mind g_taken g_isTaken g_letters g_letterCount g_told g_toldCount w_g_refusals g_costs g_gains g_seed ++ zb_M cI bd m_s m_m m_image m_was m_hasImage m_letters m_row m_refused m_letterMany m_rowMany m_place m_numbers m_cost m_seed) := hD
  refine lv_aload_n hx hb dL_law_917 rfl (lv_at hl 2 rfl) ?_
  refine lv_aload_n hx hb dL_law_918 rfl (lv_at hl 0 rfl) ?_
  refine lv_iload_n hx hb dL_law_919 rfl (lv_at hl 3 rfl) ?_
  refine lv_iconst (v := (1 : Int32)) hx hb dL_law_920 (by decide) ?_
  refine lv_iadd hx hb dL_law_921 ?_
  refine va_sld hx hb hX hbl hbA hS (in1) dL_law_922 ?_
  refine zb_callV (As := [.int (xs (nI i + 1).toNatClampNeg)]) (rest := [.int r0]) ⟨hx, hb, hml, hown, hts⟩ (zc_X2_dry l D cI bd m_s m_m m_image m_was m_hasImage m_letters m_row m_refused m_letterMany m_rowMany m_place m_numbers m_cost m_seed (xs (nI i + 1).toNatClampNeg) q0 y_m_refused f2) (cwV 1 hts gQ_X2_dry rfl rfl rfl hd_X2_dry ⟨Nat.le_of_ble_eq_true rfl, Nat.le_of_ble_eq_true rfl⟩) hK hP hD hS hA (zb_lM) (q0 := 0) rfl rfl rfl hl.1 rfl (Nat.le_of_ble_eq_true rfl) dL_law_923 ⟨Nat.le_refl _, Nat.le_refl _⟩ (fun H locs hP hD hS => ?_)
  have hP : va_P D zb_cl (zb_G cI ad g_now g_mind g_taken g_isTaken g_letters g_letterCount g_told g_toldCount w_g_refusals g_costs g_gains g_seed ++ zb_M cI bd m_s m_m m_image m_was m_hasImage m_letters m_row y_m_refused m_letterMany m_rowMany m_place m_numbers m_cost m_seed) H := hP
  have hD : va_D A (zb_G cI ad g_now g_mind g_taken g_isTaken g_letters g_letterCount g_told g_toldCount w_g_refusals g_costs g_gains g_seed ++ zb_M cI bd m_s m_m m_image m_was m_hasImage m_letters m_row y_m_refused m_letterMany m_rowMany m_place m_numbers m_cost m_seed) := hD
  have hLS : zLS D cI ad bd A s H locs := ⟨g_now, g_mind, g_taken, g_isTaken, g_letters, g_letterCount, g_told, g_toldCount, w_g_refusals, g_costs, g_gains, g_seed, m_s, m_m, m_image, m_was, m_hasImage, m_letters, m_row, y_m_refused, m_letterMany, m_rowMany, m_place, m_numbers, m_cost, m_seed, ⟨hRN, hRT, hRE, hRO, sRR⟩, hP, hD, hS⟩
  refine lv_icmp_eq (tgt := 1292) hx hb dL_law_926 (by decide) (fun _ => kk H locs hLS) (fun c9 => absurd e0 c9)
set_option maxHeartbeats 4000000 in
set_option maxRecDepth 100000 in
theorem lc_kinds (hx : p.tables.exec = Jvm.exec) (hb : c.code = cL_law) (hml : c.maxLocals = 4) (hown : s.vm.findClass RL = some m.cls) (hts : ∀ w ∈ lw_tbl, w.before #[Value.ref b] s = true) (hX : va_X b Ln xs s s.heap) (hbl : b < s.heap.size) (hbA : ¬ A b) (hK : zb_K D cI s) (hE : zb_E aK aV A s s.heap) (hA : ∀ q, s.heap.size ≤ q → A q) {H : Heap} {locs : List Loc} {ls : Array Slot} {i : Nat} (hi : i + 6 ≤ Ln) (hLn : Ln ≤ 3072) (hl : lv_has ls 4 [(0, .ref b), (1, .ref (ad 0)), (2, .ref (bd 0)), (3, .int (nI i))]) (h : zLS D cI ad bd A s H locs) (kk : ∀ (H : Heap) (locs : List Loc), zLS D cI ad bd A s H locs → W p l e room_1 s m #[Value.ref b] below meth c H locs 37 1084 (lw_Z below #[Value.ref b] s) (F0 m 1292 ls [])) : W p l e room_1 s m #[Value.ref b] below meth c H locs 37 1084 (lw_Z below #[Value.ref b] s) (F0 m 931 ls []) := by
  obtain ⟨g_now, g_mind, g_taken, g_isTaken, g_letters, g_letterCount, g_told, g_toldCount, g_refusals, g_costs, g_gains, g_seed, m_s, m_m, m_image, m_was, m_hasImage, m_letters, m_row, m_refused, m_letterMany, m_rowMany, m_place, m_numbers, m_cost, m_seed, ⟨hRN, hRT, hRE, hRO, hRR⟩, hP, hD, hS⟩ := h
  have in1 : vp_in (nI i + (1 : Int32)) Ln := by rw [show (1 : Int32) = nI 1 from rfl, nI_add]; exact nI_in (by omega) (by omega)
  have SIM : Ok (fun a b => a.1 = b.1 ∧ RR a.2 b.2) (zf_X1_kinds g_now g_refusals (xs (nI i + 1).toNatClampNeg)) (zf_X2_kinds m_s m_refused (xs (nI i + 1).toNatClampNeg)) := sim_kinds hRN hRR (xs (nI i + 1).toNatClampNeg)
  obtain ⟨⟨r0, w_g_refusals⟩, ⟨q0, y_m_refused⟩, f1, f2, e0, sRR⟩ := SIM
  try dsimp only at e0 sRR
  refine lv_aload_n hx hb dL_law_931 rfl (lv_at hl 1 rfl) ?_
  refine lv_aload_n hx hb dL_law_932 rfl (lv_at hl 0 rfl) ?_
  refine lv_iload_n hx hb dL_law_933 rfl (lv_at hl 3 rfl) ?_
  refine lv_iconst (v := (1 : Int32)) hx hb dL_law_934 (by decide) ?_
  refine lv_iadd hx hb dL_law_935 ?_
  refine va_sld hx hb hX hbl hbA hS (in1) dL_law_936 ?_
  refine zb_callV (As := [.int (xs (nI i + 1).toNatClampNeg)]) (rest := []) ⟨hx, hb, hml, hown, hts⟩ (zc_X1_kinds l D cI ad g_now g_mind g_taken g_isTaken g_letters g_letterCount g_told g_toldCount g_refusals g_costs g_gains g_seed (xs (nI i + 1).toNatClampNeg) r0 w_g_refusals f1) (cwV 1 hts gQ_X1_kinds rfl rfl rfl hd_X1_kinds ⟨Nat.le_of_ble_eq_true rfl, Nat.le_of_ble_eq_true rfl⟩) hK hP hD hS hA (zb_lG) (q0 := 0) rfl rfl rfl hl.1 rfl (Nat.le_of_ble_eq_true rfl) dL_law_937 ⟨Nat.le_refl _, Nat.le_refl _⟩ (fun H locs hP hD hS => ?_)
  have hP : va_P D zb_cl (zb_G cI ad g_now g_mind g_taken g_isTaken g_letters g_letterCount g_told g_toldCount w_g_refusals g_costs g_gains g_seed ++ zb_M cI bd m_s m_m m_image m_was m_hasImage m_letters m_row m_refused m_letterMany m_rowMany m_place m_numbers m_cost m_seed) H := hP
  have hD : va_D A (zb_G cI ad g_now g_mind g_taken g_isTaken g_letters g_letterCount g_told g_toldCount w_g_refusals g_costs g_gains g_seed ++ zb_M cI bd m_s m_m m_image m_was m_hasImage m_letters m_row m_refused m_letterMany m_rowMany m_place m_numbers m_cost m_seed) := hD
  refine lv_aload_n hx hb dL_law_940 rfl (lv_at hl 2 rfl) ?_
  refine lv_aload_n hx hb dL_law_941 rfl (lv_at hl 0 rfl) ?_
  refine lv_iload_n hx hb dL_law_942 rfl (lv_at hl 3 rfl) ?_
  refine lv_iconst (v := (1 : Int32)) hx hb dL_law_943 (by decide) ?_
  refine lv_iadd hx hb dL_law_944 ?_
  refine va_sld hx hb hX hbl hbA hS (in1) dL_law_945 ?_
  refine zb_callV (As := [.int (xs (nI i + 1).toNatClampNeg)]) (rest := [.int r0]) ⟨hx, hb, hml, hown, hts⟩ (zc_X2_kinds l D cI bd m_s m_m m_image m_was m_hasImage m_letters m_row m_refused m_letterMany m_rowMany m_place m_numbers m_cost m_seed (xs (nI i + 1).toNatClampNeg) q0 y_m_refused f2) (cwV 1 hts gQ_X2_kinds rfl rfl rfl hd_X2_kinds ⟨Nat.le_of_ble_eq_true rfl, Nat.le_of_ble_eq_true rfl⟩) hK hP hD hS hA (zb_lM) (q0 := 0) rfl rfl rfl hl.1 rfl (Nat.le_of_ble_eq_true rfl) dL_law_946 ⟨Nat.le_refl _, Nat.le_refl _⟩ (fun H locs hP hD hS => ?_)
  have hP : va_P D zb_cl (zb_G cI ad g_now g_mind g_taken g_isTaken g_letters g_letterCount g_told g_toldCount w_g_refusals g_costs g_gains g_seed ++ zb_M cI bd m_s m_m m_image m_was m_hasImage m_letters m_row y_m_refused m_letterMany m_rowMany m_place m_numbers m_cost m_seed) H := hP
  have hD : va_D A (zb_G cI ad g_now g_mind g_taken g_isTaken g_letters g_letterCount g_told g_toldCount w_g_refusals g_costs g_gains g_seed ++ zb_M cI bd m_s m_m m_image m_was m_hasImage m_letters m_row y_m_refused m_letterMany m_rowMany m_place m_numbers m_cost m_seed) := hD
  have hLS : zLS D cI ad bd A s H locs := ⟨g_now, g_mind, g_taken, g_isTaken, g_letters, g_letterCount, g_told, g_toldCount, w_g_refusals, g_costs, g_gains, g_seed, m_s, m_m, m_image, m_was, m_hasImage, m_letters, m_row, y_m_refused, m_letterMany, m_rowMany, m_place, m_numbers, m_cost, m_seed, ⟨hRN, hRT, hRE, hRO, sRR⟩, hP, hD, hS⟩
  refine lv_icmp_eq (tgt := 1292) hx hb dL_law_949 (by decide) (fun _ => kk H locs hLS) (fun c9 => absurd e0 c9)
set_option maxHeartbeats 4000000 in
set_option maxRecDepth 100000 in
theorem lc_near (hx : p.tables.exec = Jvm.exec) (hb : c.code = cL_law) (hml : c.maxLocals = 4) (hown : s.vm.findClass RL = some m.cls) (hts : ∀ w ∈ lw_tbl, w.before #[Value.ref b] s = true) (hX : va_X b Ln xs s s.heap) (hbl : b < s.heap.size) (hbA : ¬ A b) (hK : zb_K D cI s) (hE : zb_E aK aV A s s.heap) (hA : ∀ q, s.heap.size ≤ q → A q) {H : Heap} {locs : List Loc} {ls : Array Slot} {i : Nat} (hi : i + 6 ≤ Ln) (hLn : Ln ≤ 3072) (hl : lv_has ls 4 [(0, .ref b), (1, .ref (ad 0)), (2, .ref (bd 0)), (3, .int (nI i))]) (h : zLS D cI ad bd A s H locs) (kk : ∀ (H : Heap) (locs : List Loc), zLS D cI ad bd A s H locs → W p l e room_1 s m #[Value.ref b] below meth c H locs 37 1084 (lw_Z below #[Value.ref b] s) (F0 m 1292 ls [])) : W p l e room_1 s m #[Value.ref b] below meth c H locs 37 1084 (lw_Z below #[Value.ref b] s) (F0 m 954 ls []) := by
  obtain ⟨g_now, g_mind, g_taken, g_isTaken, g_letters, g_letterCount, g_told, g_toldCount, g_refusals, g_costs, g_gains, g_seed, m_s, m_m, m_image, m_was, m_hasImage, m_letters, m_row, m_refused, m_letterMany, m_rowMany, m_place, m_numbers, m_cost, m_seed, ⟨hRN, hRT, hRE, hRO, hRR⟩, hP, hD, hS⟩ := h
  have in1 : vp_in (nI i + (1 : Int32)) Ln := by rw [show (1 : Int32) = nI 1 from rfl, nI_add]; exact nI_in (by omega) (by omega)
  have SIM : Ok (fun a b => a.1 = b.1 ∧ RR a.2 b.2) (zf_X1_near g_now g_refusals (xs (nI i + 1).toNatClampNeg)) (zf_X2_near m_s m_refused (xs (nI i + 1).toNatClampNeg)) := sim_near hRN hRR (xs (nI i + 1).toNatClampNeg)
  obtain ⟨⟨r0, w_g_refusals⟩, ⟨q0, y_m_refused⟩, f1, f2, e0, sRR⟩ := SIM
  try dsimp only at e0 sRR
  refine lv_aload_n hx hb dL_law_954 rfl (lv_at hl 1 rfl) ?_
  refine lv_aload_n hx hb dL_law_955 rfl (lv_at hl 0 rfl) ?_
  refine lv_iload_n hx hb dL_law_956 rfl (lv_at hl 3 rfl) ?_
  refine lv_iconst (v := (1 : Int32)) hx hb dL_law_957 (by decide) ?_
  refine lv_iadd hx hb dL_law_958 ?_
  refine va_sld hx hb hX hbl hbA hS (in1) dL_law_959 ?_
  refine zb_callV (As := [.int (xs (nI i + 1).toNatClampNeg)]) (rest := []) ⟨hx, hb, hml, hown, hts⟩ (zc_X1_near l D cI ad g_now g_mind g_taken g_isTaken g_letters g_letterCount g_told g_toldCount g_refusals g_costs g_gains g_seed (xs (nI i + 1).toNatClampNeg) r0 w_g_refusals f1) (cwV 1 hts gQ_X1_near rfl rfl rfl hd_X1_near ⟨Nat.le_of_ble_eq_true rfl, Nat.le_of_ble_eq_true rfl⟩) hK hP hD hS hA (zb_lG) (q0 := 0) rfl rfl rfl hl.1 rfl (Nat.le_of_ble_eq_true rfl) dL_law_960 ⟨Nat.le_refl _, Nat.le_refl _⟩ (fun H locs hP hD hS => ?_)
  have hP : va_P D zb_cl (zb_G cI ad g_now g_mind g_taken g_isTaken g_letters g_letterCount g_told g_toldCount w_g_refusals g_costs g_gains g_seed ++ zb_M cI bd m_s m_m m_image m_was m_hasImage m_letters m_row m_refused m_letterMany m_rowMany m_place m_numbers m_cost m_seed) H := hP
  have hD : va_D A (zb_G cI ad g_now g_mind g_taken g_isTaken g_letters g_letterCount g_told g_toldCount w_g_refusals g_costs g_gains g_seed ++ zb_M cI bd m_s m_m m_image m_was m_hasImage m_letters m_row m_refused m_letterMany m_rowMany m_place m_numbers m_cost m_seed) := hD
  refine lv_aload_n hx hb dL_law_963 rfl (lv_at hl 2 rfl) ?_
  refine lv_aload_n hx hb dL_law_964 rfl (lv_at hl 0 rfl) ?_
  refine lv_iload_n hx hb dL_law_965 rfl (lv_at hl 3 rfl) ?_
  refine lv_iconst (v := (1 : Int32)) hx hb dL_law_966 (by decide) ?_
  refine lv_iadd hx hb dL_law_967 ?_
  refine va_sld hx hb hX hbl hbA hS (in1) dL_law_968 ?_
  refine zb_callV (As := [.int (xs (nI i + 1).toNatClampNeg)]) (rest := [.int r0]) ⟨hx, hb, hml, hown, hts⟩ (zc_X2_near l D cI bd m_s m_m m_image m_was m_hasImage m_letters m_row m_refused m_letterMany m_rowMany m_place m_numbers m_cost m_seed (xs (nI i + 1).toNatClampNeg) q0 y_m_refused f2) (cwV 1 hts gQ_X2_near rfl rfl rfl hd_X2_near ⟨Nat.le_of_ble_eq_true rfl, Nat.le_of_ble_eq_true rfl⟩) hK hP hD hS hA (zb_lM) (q0 := 0) rfl rfl rfl hl.1 rfl (Nat.le_of_ble_eq_true rfl) dL_law_969 ⟨Nat.le_refl _, Nat.le_refl _⟩ (fun H locs hP hD hS => ?_)
  have hP : va_P D zb_cl (zb_G cI ad g_now g_mind g_taken g_isTaken g_letters g_letterCount g_told g_toldCount w_g_refusals g_costs g_gains g_seed ++ zb_M cI bd m_s m_m m_image m_was m_hasImage m_letters m_row y_m_refused m_letterMany m_rowMany m_place m_numbers m_cost m_seed) H := hP
  have hD : va_D A (zb_G cI ad g_now g_mind g_taken g_isTaken g_letters g_letterCount g_told g_toldCount w_g_refusals g_costs g_gains g_seed ++ zb_M cI bd m_s m_m m_image m_was m_hasImage m_letters m_row y_m_refused m_letterMany m_rowMany m_place m_numbers m_cost m_seed) := hD
  have hLS : zLS D cI ad bd A s H locs := ⟨g_now, g_mind, g_taken, g_isTaken, g_letters, g_letterCount, g_told, g_toldCount, w_g_refusals, g_costs, g_gains, g_seed, m_s, m_m, m_image, m_was, m_hasImage, m_letters, m_row, y_m_refused, m_letterMany, m_rowMany, m_place, m_numbers, m_cost, m_seed, ⟨hRN, hRT, hRE, hRO, sRR⟩, hP, hD, hS⟩
  refine lv_icmp_eq (tgt := 1292) hx hb dL_law_972 (by decide) (fun _ => kk H locs hLS) (fun c9 => absurd e0 c9)
set_option maxHeartbeats 4000000 in
set_option maxRecDepth 100000 in
theorem lc_two (hx : p.tables.exec = Jvm.exec) (hb : c.code = cL_law) (hml : c.maxLocals = 4) (hown : s.vm.findClass RL = some m.cls) (hts : ∀ w ∈ lw_tbl, w.before #[Value.ref b] s = true) (hX : va_X b Ln xs s s.heap) (hbl : b < s.heap.size) (hbA : ¬ A b) (hK : zb_K D cI s) (hE : zb_E aK aV A s s.heap) (hA : ∀ q, s.heap.size ≤ q → A q) {H : Heap} {locs : List Loc} {ls : Array Slot} {i : Nat} (hi : i + 6 ≤ Ln) (hLn : Ln ≤ 3072) (hl : lv_has ls 4 [(0, .ref b), (1, .ref (ad 0)), (2, .ref (bd 0)), (3, .int (nI i))]) (h : zLS D cI ad bd A s H locs) (kk : ∀ (H : Heap) (locs : List Loc), zLS D cI ad bd A s H locs → W p l e room_1 s m #[Value.ref b] below meth c H locs 37 1084 (lw_Z below #[Value.ref b] s) (F0 m 1292 ls [])) : W p l e room_1 s m #[Value.ref b] below meth c H locs 37 1084 (lw_Z below #[Value.ref b] s) (F0 m 977 ls []) := by
  obtain ⟨g_now, g_mind, g_taken, g_isTaken, g_letters, g_letterCount, g_told, g_toldCount, g_refusals, g_costs, g_gains, g_seed, m_s, m_m, m_image, m_was, m_hasImage, m_letters, m_row, m_refused, m_letterMany, m_rowMany, m_place, m_numbers, m_cost, m_seed, ⟨hRN, hRT, hRE, hRO, hRR⟩, hP, hD, hS⟩ := h
  have in1 : vp_in (nI i + (1 : Int32)) Ln := by rw [show (1 : Int32) = nI 1 from rfl, nI_add]; exact nI_in (by omega) (by omega)
  have in2 : vp_in (nI i + (2 : Int32)) Ln := by rw [show (2 : Int32) = nI 2 from rfl, nI_add]; exact nI_in (by omega) (by omega)
  have in3 : vp_in (nI i + (3 : Int32)) Ln := by rw [show (3 : Int32) = nI 3 from rfl, nI_add]; exact nI_in (by omega) (by omega)
  have SIM : Ok (fun x y => x.1 = y.1 ∧ RR x.2.2.1 y.2.2) (zf_X1_two g_now g_mind g_refusals g_gains (xs (nI i + 1).toNatClampNeg) (xs (nI i + 2).toNatClampNeg) (xs (nI i + 3).toNatClampNeg)) (zf_X2_two m_s m_m m_refused (xs (nI i + 1).toNatClampNeg) (xs (nI i + 2).toNatClampNeg) (xs (nI i + 3).toNatClampNeg)) := sim_two hRN hRR (xs (nI i + 1).toNatClampNeg) (xs (nI i + 2).toNatClampNeg) (xs (nI i + 3).toNatClampNeg)
  obtain ⟨⟨r0, w_g_mind, w_g_refusals, w_g_gains⟩, ⟨q0, y_m_m, y_m_refused⟩, f1, f2, e0, sRR⟩ := SIM
  try dsimp only at e0 sRR
  refine lv_aload_n hx hb dL_law_977 rfl (lv_at hl 1 rfl) ?_
  refine lv_aload_n hx hb dL_law_978 rfl (lv_at hl 0 rfl) ?_
  refine lv_iload_n hx hb dL_law_979 rfl (lv_at hl 3 rfl) ?_
  refine lv_iconst (v := (1 : Int32)) hx hb dL_law_980 (by decide) ?_
  refine lv_iadd hx hb dL_law_981 ?_
  refine va_sld hx hb hX hbl hbA hS (in1) dL_law_982 ?_
  refine lv_aload_n hx hb dL_law_983 rfl (lv_at hl 0 rfl) ?_
  refine lv_iload_n hx hb dL_law_984 rfl (lv_at hl 3 rfl) ?_
  refine lv_iconst (v := (2 : Int32)) hx hb dL_law_985 (by decide) ?_
  refine lv_iadd hx hb dL_law_986 ?_
  refine va_sld hx hb hX hbl hbA hS (in2) dL_law_987 ?_
  refine lv_aload_n hx hb dL_law_988 rfl (lv_at hl 0 rfl) ?_
  refine lv_iload_n hx hb dL_law_989 rfl (lv_at hl 3 rfl) ?_
  refine lv_iconst (v := (3 : Int32)) hx hb dL_law_990 (by decide) ?_
  refine lv_iadd hx hb dL_law_991 ?_
  refine va_sld hx hb hX hbl hbA hS (in3) dL_law_992 ?_
  refine zb_callV (As := [.int (xs (nI i + 1).toNatClampNeg), .int (xs (nI i + 2).toNatClampNeg), .int (xs (nI i + 3).toNatClampNeg)]) (rest := []) ⟨hx, hb, hml, hown, hts⟩ (zc_X1_two l D cI ad g_now g_mind g_taken g_isTaken g_letters g_letterCount g_told g_toldCount g_refusals g_costs g_gains g_seed (xs (nI i + 1).toNatClampNeg) (xs (nI i + 2).toNatClampNeg) (xs (nI i + 3).toNatClampNeg) r0 w_g_mind w_g_refusals w_g_gains f1) (cwV 3 hts gQ_X1_two rfl rfl rfl hd_X1_two ⟨Nat.le_of_ble_eq_true rfl, Nat.le_of_ble_eq_true rfl⟩) hK hP hD hS hA (zb_lG) (q0 := 0) rfl rfl rfl hl.1 rfl (Nat.le_of_ble_eq_true rfl) dL_law_993 ⟨Nat.le_refl _, Nat.le_refl _⟩ (fun H locs hP hD hS => ?_)
  have hP : va_P D zb_cl (zb_G cI ad g_now w_g_mind g_taken g_isTaken g_letters g_letterCount g_told g_toldCount w_g_refusals g_costs w_g_gains g_seed ++ zb_M cI bd m_s m_m m_image m_was m_hasImage m_letters m_row m_refused m_letterMany m_rowMany m_place m_numbers m_cost m_seed) H := hP
  have hD : va_D A (zb_G cI ad g_now w_g_mind g_taken g_isTaken g_letters g_letterCount g_told g_toldCount w_g_refusals g_costs w_g_gains g_seed ++ zb_M cI bd m_s m_m m_image m_was m_hasImage m_letters m_row m_refused m_letterMany m_rowMany m_place m_numbers m_cost m_seed) := hD
  refine lv_aload_n hx hb dL_law_996 rfl (lv_at hl 2 rfl) ?_
  refine lv_aload_n hx hb dL_law_997 rfl (lv_at hl 0 rfl) ?_
  refine lv_iload_n hx hb dL_law_998 rfl (lv_at hl 3 rfl) ?_
  refine lv_iconst (v := (1 : Int32)) hx hb dL_law_999 (by decide) ?_
  refine lv_iadd hx hb dL_law_1000 ?_
  refine va_sld hx hb hX hbl hbA hS (in1) dL_law_1001 ?_
  refine lv_aload_n hx hb dL_law_1002 rfl (lv_at hl 0 rfl) ?_
  refine lv_iload_n hx hb dL_law_1003 rfl (lv_at hl 3 rfl) ?_
  refine lv_iconst (v := (2 : Int32)) hx hb dL_law_1004 (by decide) ?_
  refine lv_iadd hx hb dL_law_1005 ?_
  refine va_sld hx hb hX hbl hbA hS (in2) dL_law_1006 ?_
  refine lv_aload_n hx hb dL_law_1007 rfl (lv_at hl 0 rfl) ?_
  refine lv_iload_n hx hb dL_law_1008 rfl (lv_at hl 3 rfl) ?_
  refine lv_iconst (v := (3 : Int32)) hx hb dL_law_1009 (by decide) ?_
  refine lv_iadd hx hb dL_law_1010 ?_
  refine va_sld hx hb hX hbl hbA hS (in3) dL_law_1011 ?_
  refine zb_callV (As := [.int (xs (nI i + 1).toNatClampNeg), .int (xs (nI i + 2).toNatClampNeg), .int (xs (nI i + 3).toNatClampNeg)]) (rest := [.int r0]) ⟨hx, hb, hml, hown, hts⟩ (zc_X2_two l D cI bd m_s m_m m_image m_was m_hasImage m_letters m_row m_refused m_letterMany m_rowMany m_place m_numbers m_cost m_seed (xs (nI i + 1).toNatClampNeg) (xs (nI i + 2).toNatClampNeg) (xs (nI i + 3).toNatClampNeg) q0 y_m_m y_m_refused f2) (cwV 3 hts gQ_X2_two rfl rfl rfl hd_X2_two ⟨Nat.le_of_ble_eq_true rfl, Nat.le_of_ble_eq_true rfl⟩) hK hP hD hS hA (zb_lM) (q0 := 0) rfl rfl rfl hl.1 rfl (Nat.le_of_ble_eq_true rfl) dL_law_1012 ⟨Nat.le_refl _, Nat.le_refl _⟩ (fun H locs hP hD hS => ?_)
  have hP : va_P D zb_cl (zb_G cI ad g_now w_g_mind g_taken g_isTaken g_letters g_letterCount g_told g_toldCount w_g_refusals g_costs w_g_gains g_seed ++ zb_M cI bd m_s y_m_m m_image m_was m_hasImage m_letters m_row y_m_refused m_letterMany m_rowMany m_place m_numbers m_cost m_seed) H := hP
  have hD : va_D A (zb_G cI ad g_now w_g_mind g_taken g_isTaken g_letters g_letterCount g_told g_toldCount w_g_refusals g_costs w_g_gains g_seed ++ zb_M cI bd m_s y_m_m m_image m_was m_hasImage m_letters m_row y_m_refused m_letterMany m_rowMany m_place m_numbers m_cost m_seed) := hD
  have hLS : zLS D cI ad bd A s H locs := ⟨g_now, w_g_mind, g_taken, g_isTaken, g_letters, g_letterCount, g_told, g_toldCount, w_g_refusals, g_costs, w_g_gains, g_seed, m_s, y_m_m, m_image, m_was, m_hasImage, m_letters, m_row, y_m_refused, m_letterMany, m_rowMany, m_place, m_numbers, m_cost, m_seed, ⟨hRN, hRT, hRE, hRO, sRR⟩, hP, hD, hS⟩
  refine lv_icmp_eq (tgt := 1292) hx hb dL_law_1015 (by decide) (fun _ => kk H locs hLS) (fun c9 => absurd e0 c9)
set_option maxHeartbeats 4000000 in
set_option maxRecDepth 100000 in
theorem lc_steam (hx : p.tables.exec = Jvm.exec) (hb : c.code = cL_law) (hml : c.maxLocals = 4) (hown : s.vm.findClass RL = some m.cls) (hts : ∀ w ∈ lw_tbl, w.before #[Value.ref b] s = true) (hX : va_X b Ln xs s s.heap) (hbl : b < s.heap.size) (hbA : ¬ A b) (hK : zb_K D cI s) (hE : zb_E aK aV A s s.heap) (hA : ∀ q, s.heap.size ≤ q → A q) {H : Heap} {locs : List Loc} {ls : Array Slot} {i : Nat} (hi : i + 6 ≤ Ln) (hLn : Ln ≤ 3072) (hl : lv_has ls 4 [(0, .ref b), (1, .ref (ad 0)), (2, .ref (bd 0)), (3, .int (nI i))]) (h : zLS D cI ad bd A s H locs) (kk : ∀ (H : Heap) (locs : List Loc), zLS D cI ad bd A s H locs → W p l e room_1 s m #[Value.ref b] below meth c H locs 37 1084 (lw_Z below #[Value.ref b] s) (F0 m 1292 ls [])) : W p l e room_1 s m #[Value.ref b] below meth c H locs 37 1084 (lw_Z below #[Value.ref b] s) (F0 m 1020 ls []) := by
  obtain ⟨g_now, g_mind, g_taken, g_isTaken, g_letters, g_letterCount, g_told, g_toldCount, g_refusals, g_costs, g_gains, g_seed, m_s, m_m, m_image, m_was, m_hasImage, m_letters, m_row, m_refused, m_letterMany, m_rowMany, m_place, m_numbers, m_cost, m_seed, ⟨hRN, hRT, hRE, hRO, hRR⟩, hP, hD, hS⟩ := h
  have in1 : vp_in (nI i + (1 : Int32)) Ln := by rw [show (1 : Int32) = nI 1 from rfl, nI_add]; exact nI_in (by omega) (by omega)
  have in2 : vp_in (nI i + (2 : Int32)) Ln := by rw [show (2 : Int32) = nI 2 from rfl, nI_add]; exact nI_in (by omega) (by omega)
  have in3 : vp_in (nI i + (3 : Int32)) Ln := by rw [show (3 : Int32) = nI 3 from rfl, nI_add]; exact nI_in (by omega) (by omega)
  have in4 : vp_in (nI i + (4 : Int32)) Ln := by rw [show (4 : Int32) = nI 4 from rfl, nI_add]; exact nI_in (by omega) (by omega)
  have in5 : vp_in (nI i + (5 : Int32)) Ln := by rw [show (5 : Int32) = nI 5 from rfl, nI_add]; exact nI_in (by omega) (by omega)
  have SIM : Ok (fun a b => a.1 = b.1 ∧ RR a.2.2 b.2.2) (zf_X1_steam g_now g_mind g_refusals (xs (nI i + 1).toNatClampNeg) (xs (nI i + 2).toNatClampNeg) (xs (nI i + 3).toNatClampNeg) (xs (nI i + 4).toNatClampNeg) (xs (nI i + 5).toNatClampNeg)) (zf_X2_steam m_s m_m m_refused (xs (nI i + 1).toNatClampNeg) (xs (nI i + 2).toNatClampNeg) (xs (nI i + 3).toNatClampNeg) (xs (nI i + 4).toNatClampNeg) (xs (nI i + 5).toNatClampNeg)) := sim_steam hRN hRR (xs (nI i + 1).toNatClampNeg) (xs (nI i + 2).toNatClampNeg) (xs (nI i + 3).toNatClampNeg) (xs (nI i + 4).toNatClampNeg) (xs (nI i + 5).toNatClampNeg)
  obtain ⟨⟨r0, w_g_mind, w_g_refusals⟩, ⟨q0, y_m_m, y_m_refused⟩, f1, f2, e0, sRR⟩ := SIM
  try dsimp only at e0 sRR
  refine lv_aload_n hx hb dL_law_1020 rfl (lv_at hl 1 rfl) ?_
  refine lv_aload_n hx hb dL_law_1021 rfl (lv_at hl 0 rfl) ?_
  refine lv_iload_n hx hb dL_law_1022 rfl (lv_at hl 3 rfl) ?_
  refine lv_iconst (v := (1 : Int32)) hx hb dL_law_1023 (by decide) ?_
  refine lv_iadd hx hb dL_law_1024 ?_
  refine va_sld hx hb hX hbl hbA hS (in1) dL_law_1025 ?_
  refine lv_aload_n hx hb dL_law_1026 rfl (lv_at hl 0 rfl) ?_
  refine lv_iload_n hx hb dL_law_1027 rfl (lv_at hl 3 rfl) ?_
  refine lv_iconst (v := (2 : Int32)) hx hb dL_law_1028 (by decide) ?_
  refine lv_iadd hx hb dL_law_1029 ?_
  refine va_sld hx hb hX hbl hbA hS (in2) dL_law_1030 ?_
  refine lv_aload_n hx hb dL_law_1031 rfl (lv_at hl 0 rfl) ?_
  refine lv_iload_n hx hb dL_law_1032 rfl (lv_at hl 3 rfl) ?_
  refine lv_iconst (v := (3 : Int32)) hx hb dL_law_1033 (by decide) ?_
  refine lv_iadd hx hb dL_law_1034 ?_
  refine va_sld hx hb hX hbl hbA hS (in3) dL_law_1035 ?_
  refine lv_aload_n hx hb dL_law_1036 rfl (lv_at hl 0 rfl) ?_
  refine lv_iload_n hx hb dL_law_1037 rfl (lv_at hl 3 rfl) ?_
  refine lv_iconst (v := (4 : Int32)) hx hb dL_law_1038 (by decide) ?_
  refine lv_iadd hx hb dL_law_1039 ?_
  refine va_sld hx hb hX hbl hbA hS (in4) dL_law_1040 ?_
  refine lv_aload_n hx hb dL_law_1041 rfl (lv_at hl 0 rfl) ?_
  refine lv_iload_n hx hb dL_law_1042 rfl (lv_at hl 3 rfl) ?_
  refine lv_iconst (v := (5 : Int32)) hx hb dL_law_1043 (by decide) ?_
  refine lv_iadd hx hb dL_law_1044 ?_
  refine va_sld hx hb hX hbl hbA hS (in5) dL_law_1045 ?_
  refine zb_callV (As := [.int (xs (nI i + 1).toNatClampNeg), .int (xs (nI i + 2).toNatClampNeg), .int (xs (nI i + 3).toNatClampNeg), .int (xs (nI i + 4).toNatClampNeg), .int (xs (nI i + 5).toNatClampNeg)]) (rest := []) ⟨hx, hb, hml, hown, hts⟩ (zc_X1_steam l D cI ad g_now g_mind g_taken g_isTaken g_letters g_letterCount g_told g_toldCount g_refusals g_costs g_gains g_seed (xs (nI i + 1).toNatClampNeg) (xs (nI i + 2).toNatClampNeg) (xs (nI i + 3).toNatClampNeg) (xs (nI i + 4).toNatClampNeg) (xs (nI i + 5).toNatClampNeg) r0 w_g_mind w_g_refusals f1) (cwV 5 hts gQ_X1_steam rfl rfl rfl hd_X1_steam ⟨Nat.le_of_ble_eq_true rfl, Nat.le_of_ble_eq_true rfl⟩) hK hP hD hS hA (zb_lG) (q0 := 0) rfl rfl rfl hl.1 rfl (Nat.le_of_ble_eq_true rfl) dL_law_1046 ⟨Nat.le_refl _, Nat.le_refl _⟩ (fun H locs hP hD hS => ?_)
  have hP : va_P D zb_cl (zb_G cI ad g_now w_g_mind g_taken g_isTaken g_letters g_letterCount g_told g_toldCount w_g_refusals g_costs g_gains g_seed ++ zb_M cI bd m_s m_m m_image m_was m_hasImage m_letters m_row m_refused m_letterMany m_rowMany m_place m_numbers m_cost m_seed) H := hP
  have hD : va_D A (zb_G cI ad g_now w_g_mind g_taken g_isTaken g_letters g_letterCount g_told g_toldCount w_g_refusals g_costs g_gains g_seed ++ zb_M cI bd m_s m_m m_image m_was m_hasImage m_letters m_row m_refused m_letterMany m_rowMany m_place m_numbers m_cost m_seed) := hD
  refine lv_aload_n hx hb dL_law_1049 rfl (lv_at hl 2 rfl) ?_
  refine lv_aload_n hx hb dL_law_1050 rfl (lv_at hl 0 rfl) ?_
  refine lv_iload_n hx hb dL_law_1051 rfl (lv_at hl 3 rfl) ?_
  refine lv_iconst (v := (1 : Int32)) hx hb dL_law_1052 (by decide) ?_
  refine lv_iadd hx hb dL_law_1053 ?_
  refine va_sld hx hb hX hbl hbA hS (in1) dL_law_1054 ?_
  refine lv_aload_n hx hb dL_law_1055 rfl (lv_at hl 0 rfl) ?_
  refine lv_iload_n hx hb dL_law_1056 rfl (lv_at hl 3 rfl) ?_
  refine lv_iconst (v := (2 : Int32)) hx hb dL_law_1057 (by decide) ?_
  refine lv_iadd hx hb dL_law_1058 ?_
  refine va_sld hx hb hX hbl hbA hS (in2) dL_law_1059 ?_
  refine lv_aload_n hx hb dL_law_1060 rfl (lv_at hl 0 rfl) ?_
  refine lv_iload_n hx hb dL_law_1061 rfl (lv_at hl 3 rfl) ?_
  refine lv_iconst (v := (3 : Int32)) hx hb dL_law_1062 (by decide) ?_
  refine lv_iadd hx hb dL_law_1063 ?_
  refine va_sld hx hb hX hbl hbA hS (in3) dL_law_1064 ?_
  refine lv_aload_n hx hb dL_law_1065 rfl (lv_at hl 0 rfl) ?_
  refine lv_iload_n hx hb dL_law_1066 rfl (lv_at hl 3 rfl) ?_
  refine lv_iconst (v := (4 : Int32)) hx hb dL_law_1067 (by decide) ?_
  refine lv_iadd hx hb dL_law_1068 ?_
  refine va_sld hx hb hX hbl hbA hS (in4) dL_law_1069 ?_
  refine lv_aload_n hx hb dL_law_1070 rfl (lv_at hl 0 rfl) ?_
  refine lv_iload_n hx hb dL_law_1071 rfl (lv_at hl 3 rfl) ?_
  refine lv_iconst (v := (5 : Int32)) hx hb dL_law_1072 (by decide) ?_
  refine lv_iadd hx hb dL_law_1073 ?_
  refine va_sld hx hb hX hbl hbA hS (in5) dL_law_1074 ?_
  refine zb_callV (As := [.int (xs (nI i + 1).toNatClampNeg), .int (xs (nI i + 2).toNatClampNeg), .int (xs (nI i + 3).toNatClampNeg), .int (xs (nI i + 4).toNatClampNeg), .int (xs (nI i + 5).toNatClampNeg)]) (rest := [.long r0]) ⟨hx, hb, hml, hown, hts⟩ (zc_X2_steam l D cI bd m_s m_m m_image m_was m_hasImage m_letters m_row m_refused m_letterMany m_rowMany m_place m_numbers m_cost m_seed (xs (nI i + 1).toNatClampNeg) (xs (nI i + 2).toNatClampNeg) (xs (nI i + 3).toNatClampNeg) (xs (nI i + 4).toNatClampNeg) (xs (nI i + 5).toNatClampNeg) q0 y_m_m y_m_refused f2) (cwV 5 hts gQ_X2_steam rfl rfl rfl hd_X2_steam ⟨Nat.le_of_ble_eq_true rfl, Nat.le_of_ble_eq_true rfl⟩) hK hP hD hS hA (zb_lM) (q0 := 0) rfl rfl rfl hl.1 rfl (Nat.le_of_ble_eq_true rfl) dL_law_1075 ⟨Nat.le_refl _, Nat.le_refl _⟩ (fun H locs hP hD hS => ?_)
  have hP : va_P D zb_cl (zb_G cI ad g_now w_g_mind g_taken g_isTaken g_letters g_letterCount g_told g_toldCount w_g_refusals g_costs g_gains g_seed ++ zb_M cI bd m_s y_m_m m_image m_was m_hasImage m_letters m_row y_m_refused m_letterMany m_rowMany m_place m_numbers m_cost m_seed) H := hP
  have hD : va_D A (zb_G cI ad g_now w_g_mind g_taken g_isTaken g_letters g_letterCount g_told g_toldCount w_g_refusals g_costs g_gains g_seed ++ zb_M cI bd m_s y_m_m m_image m_was m_hasImage m_letters m_row y_m_refused m_letterMany m_rowMany m_place m_numbers m_cost m_seed) := hD
  have hLS : zLS D cI ad bd A s H locs := ⟨g_now, w_g_mind, g_taken, g_isTaken, g_letters, g_letterCount, g_told, g_toldCount, w_g_refusals, g_costs, g_gains, g_seed, m_s, y_m_m, m_image, m_was, m_hasImage, m_letters, m_row, y_m_refused, m_letterMany, m_rowMany, m_place, m_numbers, m_cost, m_seed, ⟨hRN, hRT, hRE, hRO, sRR⟩, hP, hD, hS⟩
  refine W.lcmp hx hb dL_law_1078 ?_
  refine lv_if_eq (tgt := 1292) hx hb dL_law_1079 (by decide) (fun _ => kk H locs hLS) (fun c9 => absurd ((lg_cmp_eq _ _).mpr e0) c9)
set_option maxHeartbeats 4000000 in
set_option maxRecDepth 100000 in
theorem lc_mean (hx : p.tables.exec = Jvm.exec) (hb : c.code = cL_law) (hml : c.maxLocals = 4) (hown : s.vm.findClass RL = some m.cls) (hts : ∀ w ∈ lw_tbl, w.before #[Value.ref b] s = true) (hX : va_X b Ln xs s s.heap) (hbl : b < s.heap.size) (hbA : ¬ A b) (hK : zb_K D cI s) (hE : zb_E aK aV A s s.heap) (hA : ∀ q, s.heap.size ≤ q → A q) {H : Heap} {locs : List Loc} {ls : Array Slot} {i : Nat} (hi : i + 6 ≤ Ln) (hLn : Ln ≤ 3072) (hl : lv_has ls 4 [(0, .ref b), (1, .ref (ad 0)), (2, .ref (bd 0)), (3, .int (nI i))]) (h : zLS D cI ad bd A s H locs) (kk : ∀ (H : Heap) (locs : List Loc), zLS D cI ad bd A s H locs → W p l e room_1 s m #[Value.ref b] below meth c H locs 37 1084 (lw_Z below #[Value.ref b] s) (F0 m 1292 ls [])) : W p l e room_1 s m #[Value.ref b] below meth c H locs 37 1084 (lw_Z below #[Value.ref b] s) (F0 m 1084 ls []) := by
  obtain ⟨g_now, g_mind, g_taken, g_isTaken, g_letters, g_letterCount, g_told, g_toldCount, g_refusals, g_costs, g_gains, g_seed, m_s, m_m, m_image, m_was, m_hasImage, m_letters, m_row, m_refused, m_letterMany, m_rowMany, m_place, m_numbers, m_cost, m_seed, ⟨hRN, hRT, hRE, hRO, hRR⟩, hP, hD, hS⟩ := h
  have in1 : vp_in (nI i + (1 : Int32)) Ln := by rw [show (1 : Int32) = nI 1 from rfl, nI_add]; exact nI_in (by omega) (by omega)
  have SIM : Ok (fun a b => a.1 = b.1 ∧ RR a.2 b.2) (zf_X1_mean g_now g_refusals (xs (nI i + 1).toNatClampNeg)) (zf_X2_mean m_s m_refused (xs (nI i + 1).toNatClampNeg)) := sim_mean hRN hRR (xs (nI i + 1).toNatClampNeg)
  obtain ⟨⟨r0, w_g_refusals⟩, ⟨q0, y_m_refused⟩, f1, f2, e0, sRR⟩ := SIM
  try dsimp only at e0 sRR
  refine lv_aload_n hx hb dL_law_1084 rfl (lv_at hl 1 rfl) ?_
  refine lv_aload_n hx hb dL_law_1085 rfl (lv_at hl 0 rfl) ?_
  refine lv_iload_n hx hb dL_law_1086 rfl (lv_at hl 3 rfl) ?_
  refine lv_iconst (v := (1 : Int32)) hx hb dL_law_1087 (by decide) ?_
  refine lv_iadd hx hb dL_law_1088 ?_
  refine va_sld hx hb hX hbl hbA hS (in1) dL_law_1089 ?_
  refine zb_callV (As := [.int (xs (nI i + 1).toNatClampNeg)]) (rest := []) ⟨hx, hb, hml, hown, hts⟩ (zc_X1_mean l D cI ad g_now g_mind g_taken g_isTaken g_letters g_letterCount g_told g_toldCount g_refusals g_costs g_gains g_seed (xs (nI i + 1).toNatClampNeg) r0 w_g_refusals f1) (cwV 1 hts gQ_X1_mean rfl rfl rfl hd_X1_mean ⟨Nat.le_of_ble_eq_true rfl, Nat.le_of_ble_eq_true rfl⟩) hK hP hD hS hA (zb_lG) (q0 := 0) rfl rfl rfl hl.1 rfl (Nat.le_of_ble_eq_true rfl) dL_law_1090 ⟨Nat.le_refl _, Nat.le_refl _⟩ (fun H locs hP hD hS => ?_)
  have hP : va_P D zb_cl (zb_G cI ad g_now g_mind g_taken g_isTaken g_letters g_letterCount g_told g_toldCount w_g_refusals g_costs g_gains g_seed ++ zb_M cI bd m_s m_m m_image m_was m_hasImage m_letters m_row m_refused m_letterMany m_rowMany m_place m_numbers m_cost m_seed) H := hP
  have hD : va_D A (zb_G cI ad g_now g_mind g_taken g_isTaken g_letters g_letterCount g_told g_toldCount w_g_refusals g_costs g_gains g_seed ++ zb_M cI bd m_s m_m m_image m_was m_hasImage m_letters m_row m_refused m_letterMany m_rowMany m_place m_numbers m_cost m_seed) := hD
  refine lv_aload_n hx hb dL_law_1093 rfl (lv_at hl 2 rfl) ?_
  refine lv_aload_n hx hb dL_law_1094 rfl (lv_at hl 0 rfl) ?_
  refine lv_iload_n hx hb dL_law_1095 rfl (lv_at hl 3 rfl) ?_
  refine lv_iconst (v := (1 : Int32)) hx hb dL_law_1096 (by decide) ?_
  refine lv_iadd hx hb dL_law_1097 ?_
  refine va_sld hx hb hX hbl hbA hS (in1) dL_law_1098 ?_
  refine zb_callV (As := [.int (xs (nI i + 1).toNatClampNeg)]) (rest := [.long r0]) ⟨hx, hb, hml, hown, hts⟩ (zc_X2_mean l D cI bd m_s m_m m_image m_was m_hasImage m_letters m_row m_refused m_letterMany m_rowMany m_place m_numbers m_cost m_seed (xs (nI i + 1).toNatClampNeg) q0 y_m_refused f2) (cwV 1 hts gQ_X2_mean rfl rfl rfl hd_X2_mean ⟨Nat.le_of_ble_eq_true rfl, Nat.le_of_ble_eq_true rfl⟩) hK hP hD hS hA (zb_lM) (q0 := 0) rfl rfl rfl hl.1 rfl (Nat.le_of_ble_eq_true rfl) dL_law_1099 ⟨Nat.le_refl _, Nat.le_refl _⟩ (fun H locs hP hD hS => ?_)
  have hP : va_P D zb_cl (zb_G cI ad g_now g_mind g_taken g_isTaken g_letters g_letterCount g_told g_toldCount w_g_refusals g_costs g_gains g_seed ++ zb_M cI bd m_s m_m m_image m_was m_hasImage m_letters m_row y_m_refused m_letterMany m_rowMany m_place m_numbers m_cost m_seed) H := hP
  have hD : va_D A (zb_G cI ad g_now g_mind g_taken g_isTaken g_letters g_letterCount g_told g_toldCount w_g_refusals g_costs g_gains g_seed ++ zb_M cI bd m_s m_m m_image m_was m_hasImage m_letters m_row y_m_refused m_letterMany m_rowMany m_place m_numbers m_cost m_seed) := hD
  have hLS : zLS D cI ad bd A s H locs := ⟨g_now, g_mind, g_taken, g_isTaken, g_letters, g_letterCount, g_told, g_toldCount, w_g_refusals, g_costs, g_gains, g_seed, m_s, m_m, m_image, m_was, m_hasImage, m_letters, m_row, y_m_refused, m_letterMany, m_rowMany, m_place, m_numbers, m_cost, m_seed, ⟨hRN, hRT, hRE, hRO, sRR⟩, hP, hD, hS⟩
  refine W.lcmp hx hb dL_law_1102 ?_
  refine lv_if_eq (tgt := 1292) hx hb dL_law_1103 (by decide) (fun _ => kk H locs hLS) (fun c9 => absurd ((lg_cmp_eq _ _).mpr e0) c9)
set_option maxHeartbeats 4000000 in
set_option maxRecDepth 100000 in
theorem lc_whatIs (hx : p.tables.exec = Jvm.exec) (hb : c.code = cL_law) (hml : c.maxLocals = 4) (hown : s.vm.findClass RL = some m.cls) (hts : ∀ w ∈ lw_tbl, w.before #[Value.ref b] s = true) (hX : va_X b Ln xs s s.heap) (hbl : b < s.heap.size) (hbA : ¬ A b) (hK : zb_K D cI s) (hE : zb_E aK aV A s s.heap) (hA : ∀ q, s.heap.size ≤ q → A q) {H : Heap} {locs : List Loc} {ls : Array Slot} {i : Nat} (hi : i + 6 ≤ Ln) (hLn : Ln ≤ 3072) (hl : lv_has ls 4 [(0, .ref b), (1, .ref (ad 0)), (2, .ref (bd 0)), (3, .int (nI i))]) (h : zLS D cI ad bd A s H locs) (kk : ∀ (H : Heap) (locs : List Loc), zLS D cI ad bd A s H locs → W p l e room_1 s m #[Value.ref b] below meth c H locs 37 1084 (lw_Z below #[Value.ref b] s) (F0 m 1292 ls [])) : W p l e room_1 s m #[Value.ref b] below meth c H locs 37 1084 (lw_Z below #[Value.ref b] s) (F0 m 1108 ls []) := by
  obtain ⟨g_now, g_mind, g_taken, g_isTaken, g_letters, g_letterCount, g_told, g_toldCount, g_refusals, g_costs, g_gains, g_seed, m_s, m_m, m_image, m_was, m_hasImage, m_letters, m_row, m_refused, m_letterMany, m_rowMany, m_place, m_numbers, m_cost, m_seed, ⟨hRN, hRT, hRE, hRO, hRR⟩, hP, hD, hS⟩ := h
  have in1 : vp_in (nI i + (1 : Int32)) Ln := by rw [show (1 : Int32) = nI 1 from rfl, nI_add]; exact nI_in (by omega) (by omega)
  have in2 : vp_in (nI i + (2 : Int32)) Ln := by rw [show (2 : Int32) = nI 2 from rfl, nI_add]; exact nI_in (by omega) (by omega)
  have in3 : vp_in (nI i + (3 : Int32)) Ln := by rw [show (3 : Int32) = nI 3 from rfl, nI_add]; exact nI_in (by omega) (by omega)
  have SIM : Ok (fun a b => a.1 = b.1 ∧ RR a.2.2 b.2.2) (zf_X1_whatIs g_now g_mind g_told g_toldCount g_refusals (xs (nI i + 1).toNatClampNeg) (xs (nI i + 2).toNatClampNeg) (xs (nI i + 3).toNatClampNeg)) (zf_X2_whatIs m_s m_m m_row m_refused m_rowMany (xs (nI i + 1).toNatClampNeg) (xs (nI i + 2).toNatClampNeg) (xs (nI i + 3).toNatClampNeg)) := sim_whatIs hRN hRO hRR (xs (nI i + 1).toNatClampNeg) (xs (nI i + 2).toNatClampNeg) (xs (nI i + 3).toNatClampNeg)
  obtain ⟨⟨r0, w_g_mind, w_g_refusals⟩, ⟨q0, y_m_m, y_m_refused⟩, f1, f2, e0, sRR⟩ := SIM
  try dsimp only at e0 sRR
  refine lv_aload_n hx hb dL_law_1108 rfl (lv_at hl 1 rfl) ?_
  refine lv_aload_n hx hb dL_law_1109 rfl (lv_at hl 0 rfl) ?_
  refine lv_iload_n hx hb dL_law_1110 rfl (lv_at hl 3 rfl) ?_
  refine lv_iconst (v := (1 : Int32)) hx hb dL_law_1111 (by decide) ?_
  refine lv_iadd hx hb dL_law_1112 ?_
  refine va_sld hx hb hX hbl hbA hS (in1) dL_law_1113 ?_
  refine lv_aload_n hx hb dL_law_1114 rfl (lv_at hl 0 rfl) ?_
  refine lv_iload_n hx hb dL_law_1115 rfl (lv_at hl 3 rfl) ?_
  refine lv_iconst (v := (2 : Int32)) hx hb dL_law_1116 (by decide) ?_
  refine lv_iadd hx hb dL_law_1117 ?_
  refine va_sld hx hb hX hbl hbA hS (in2) dL_law_1118 ?_
  refine lv_aload_n hx hb dL_law_1119 rfl (lv_at hl 0 rfl) ?_
  refine lv_iload_n hx hb dL_law_1120 rfl (lv_at hl 3 rfl) ?_
  refine lv_iconst (v := (3 : Int32)) hx hb dL_law_1121 (by decide) ?_
  refine lv_iadd hx hb dL_law_1122 ?_
  refine va_sld hx hb hX hbl hbA hS (in3) dL_law_1123 ?_
  refine zb_callV (As := [.int (xs (nI i + 1).toNatClampNeg), .int (xs (nI i + 2).toNatClampNeg), .int (xs (nI i + 3).toNatClampNeg)]) (rest := []) ⟨hx, hb, hml, hown, hts⟩ (zc_X1_whatIs l D cI ad g_now g_mind g_taken g_isTaken g_letters g_letterCount g_told g_toldCount g_refusals g_costs g_gains g_seed (xs (nI i + 1).toNatClampNeg) (xs (nI i + 2).toNatClampNeg) (xs (nI i + 3).toNatClampNeg) r0 w_g_mind w_g_refusals f1) (cwV 3 hts gQ_X1_whatIs rfl rfl rfl hd_X1_whatIs ⟨Nat.le_of_ble_eq_true rfl, Nat.le_of_ble_eq_true rfl⟩) hK hP hD hS hA (zb_lG) (q0 := 0) rfl rfl rfl hl.1 rfl (Nat.le_of_ble_eq_true rfl) dL_law_1124 ⟨Nat.le_refl _, Nat.le_refl _⟩ (fun H locs hP hD hS => ?_)
  have hP : va_P D zb_cl (zb_G cI ad g_now w_g_mind g_taken g_isTaken g_letters g_letterCount g_told g_toldCount w_g_refusals g_costs g_gains g_seed ++ zb_M cI bd m_s m_m m_image m_was m_hasImage m_letters m_row m_refused m_letterMany m_rowMany m_place m_numbers m_cost m_seed) H := hP
  have hD : va_D A (zb_G cI ad g_now w_g_mind g_taken g_isTaken g_letters g_letterCount g_told g_toldCount w_g_refusals g_costs g_gains g_seed ++ zb_M cI bd m_s m_m m_image m_was m_hasImage m_letters m_row m_refused m_letterMany m_rowMany m_place m_numbers m_cost m_seed) := hD
  refine lv_aload_n hx hb dL_law_1127 rfl (lv_at hl 2 rfl) ?_
  refine lv_aload_n hx hb dL_law_1128 rfl (lv_at hl 0 rfl) ?_
  refine lv_iload_n hx hb dL_law_1129 rfl (lv_at hl 3 rfl) ?_
  refine lv_iconst (v := (1 : Int32)) hx hb dL_law_1130 (by decide) ?_
  refine lv_iadd hx hb dL_law_1131 ?_
  refine va_sld hx hb hX hbl hbA hS (in1) dL_law_1132 ?_
  refine lv_aload_n hx hb dL_law_1133 rfl (lv_at hl 0 rfl) ?_
  refine lv_iload_n hx hb dL_law_1134 rfl (lv_at hl 3 rfl) ?_
  refine lv_iconst (v := (2 : Int32)) hx hb dL_law_1135 (by decide) ?_
  refine lv_iadd hx hb dL_law_1136 ?_
  refine va_sld hx hb hX hbl hbA hS (in2) dL_law_1137 ?_
  refine lv_aload_n hx hb dL_law_1138 rfl (lv_at hl 0 rfl) ?_
  refine lv_iload_n hx hb dL_law_1139 rfl (lv_at hl 3 rfl) ?_
  refine lv_iconst (v := (3 : Int32)) hx hb dL_law_1140 (by decide) ?_
  refine lv_iadd hx hb dL_law_1141 ?_
  refine va_sld hx hb hX hbl hbA hS (in3) dL_law_1142 ?_
  refine zb_callV (As := [.int (xs (nI i + 1).toNatClampNeg), .int (xs (nI i + 2).toNatClampNeg), .int (xs (nI i + 3).toNatClampNeg)]) (rest := [.int r0]) ⟨hx, hb, hml, hown, hts⟩ (zc_X2_whatIs l D cI bd m_s m_m m_image m_was m_hasImage m_letters m_row m_refused m_letterMany m_rowMany m_place m_numbers m_cost m_seed (xs (nI i + 1).toNatClampNeg) (xs (nI i + 2).toNatClampNeg) (xs (nI i + 3).toNatClampNeg) q0 y_m_m y_m_refused f2) (cwV 3 hts gQ_X2_whatIs rfl rfl rfl hd_X2_whatIs ⟨Nat.le_of_ble_eq_true rfl, Nat.le_of_ble_eq_true rfl⟩) hK hP hD hS hA (zb_lM) (q0 := 0) rfl rfl rfl hl.1 rfl (Nat.le_of_ble_eq_true rfl) dL_law_1143 ⟨Nat.le_refl _, Nat.le_refl _⟩ (fun H locs hP hD hS => ?_)
  have hP : va_P D zb_cl (zb_G cI ad g_now w_g_mind g_taken g_isTaken g_letters g_letterCount g_told g_toldCount w_g_refusals g_costs g_gains g_seed ++ zb_M cI bd m_s y_m_m m_image m_was m_hasImage m_letters m_row y_m_refused m_letterMany m_rowMany m_place m_numbers m_cost m_seed) H := hP
  have hD : va_D A (zb_G cI ad g_now w_g_mind g_taken g_isTaken g_letters g_letterCount g_told g_toldCount w_g_refusals g_costs g_gains g_seed ++ zb_M cI bd m_s y_m_m m_image m_was m_hasImage m_letters m_row y_m_refused m_letterMany m_rowMany m_place m_numbers m_cost m_seed) := hD
  have hLS : zLS D cI ad bd A s H locs := ⟨g_now, w_g_mind, g_taken, g_isTaken, g_letters, g_letterCount, g_told, g_toldCount, w_g_refusals, g_costs, g_gains, g_seed, m_s, y_m_m, m_image, m_was, m_hasImage, m_letters, m_row, y_m_refused, m_letterMany, m_rowMany, m_place, m_numbers, m_cost, m_seed, ⟨hRN, hRT, hRE, hRO, sRR⟩, hP, hD, hS⟩
  refine lv_icmp_eq (tgt := 1292) hx hb dL_law_1146 (by decide) (fun _ => kk H locs hLS) (fun c9 => absurd e0 c9)
set_option maxHeartbeats 4000000 in
set_option maxRecDepth 100000 in
theorem lc_row (hx : p.tables.exec = Jvm.exec) (hb : c.code = cL_law) (hml : c.maxLocals = 4) (hown : s.vm.findClass RL = some m.cls) (hts : ∀ w ∈ lw_tbl, w.before #[Value.ref b] s = true) (hX : va_X b Ln xs s s.heap) (hbl : b < s.heap.size) (hbA : ¬ A b) (hK : zb_K D cI s) (hE : zb_E aK aV A s s.heap) (hA : ∀ q, s.heap.size ≤ q → A q) {H : Heap} {locs : List Loc} {ls : Array Slot} {i : Nat} (hi : i + 6 ≤ Ln) (hLn : Ln ≤ 3072) (hl : lv_has ls 4 [(0, .ref b), (1, .ref (ad 0)), (2, .ref (bd 0)), (3, .int (nI i))]) (h : zLS D cI ad bd A s H locs) (kk : ∀ (H : Heap) (locs : List Loc), zLS D cI ad bd A s H locs → W p l e room_1 s m #[Value.ref b] below meth c H locs 37 1084 (lw_Z below #[Value.ref b] s) (F0 m 1292 ls [])) : W p l e room_1 s m #[Value.ref b] below meth c H locs 37 1084 (lw_Z below #[Value.ref b] s) (F0 m 1151 ls []) := by
  obtain ⟨g_now, g_mind, g_taken, g_isTaken, g_letters, g_letterCount, g_told, g_toldCount, g_refusals, g_costs, g_gains, g_seed, m_s, m_m, m_image, m_was, m_hasImage, m_letters, m_row, m_refused, m_letterMany, m_rowMany, m_place, m_numbers, m_cost, m_seed, ⟨hRN, hRT, hRE, hRO, hRR⟩, hP, hD, hS⟩ := h
  have in1 : vp_in (nI i + (1 : Int32)) Ln := by rw [show (1 : Int32) = nI 1 from rfl, nI_add]; exact nI_in (by omega) (by omega)
  have SIM : Ok (fun a b => a.1 = b.1 ∧ RO a.2.1 a.2.2.1 b.2.1 b.2.2.2 ∧ RR a.2.2.2 b.2.2.1) (zf_X1_row g_told g_toldCount g_refusals (xs (nI i + 1).toNatClampNeg)) (zf_X2_row m_row m_refused m_rowMany (xs (nI i + 1).toNatClampNeg)) := sim_row hRO hRR (xs (nI i + 1).toNatClampNeg)
  obtain ⟨⟨r0, w_g_told, w_g_toldCount, w_g_refusals⟩, ⟨q0, y_m_row, y_m_refused, y_m_rowMany⟩, f1, f2, e0, sRO, sRR⟩ := SIM
  try dsimp only at e0 sRO sRR
  refine lv_aload_n hx hb dL_law_1151 rfl (lv_at hl 1 rfl) ?_
  refine lv_aload_n hx hb dL_law_1152 rfl (lv_at hl 0 rfl) ?_
  refine lv_iload_n hx hb dL_law_1153 rfl (lv_at hl 3 rfl) ?_
  refine lv_iconst (v := (1 : Int32)) hx hb dL_law_1154 (by decide) ?_
  refine lv_iadd hx hb dL_law_1155 ?_
  refine va_sld hx hb hX hbl hbA hS (in1) dL_law_1156 ?_
  refine zb_callV (As := [.int (xs (nI i + 1).toNatClampNeg)]) (rest := []) ⟨hx, hb, hml, hown, hts⟩ (zc_X1_row l D cI ad g_now g_mind g_taken g_isTaken g_letters g_letterCount g_told g_toldCount g_refusals g_costs g_gains g_seed (xs (nI i + 1).toNatClampNeg) r0 w_g_told w_g_toldCount w_g_refusals f1) (cwV 1 hts gQ_X1_row rfl rfl rfl hd_X1_row ⟨Nat.le_of_ble_eq_true rfl, Nat.le_of_ble_eq_true rfl⟩) hK hP hD hS hA (zb_lG) (q0 := 0) rfl rfl rfl hl.1 rfl (Nat.le_of_ble_eq_true rfl) dL_law_1157 ⟨Nat.le_refl _, Nat.le_refl _⟩ (fun H locs hP hD hS => ?_)
  have hP : va_P D zb_cl (zb_G cI ad g_now g_mind g_taken g_isTaken g_letters g_letterCount w_g_told w_g_toldCount w_g_refusals g_costs g_gains g_seed ++ zb_M cI bd m_s m_m m_image m_was m_hasImage m_letters m_row m_refused m_letterMany m_rowMany m_place m_numbers m_cost m_seed) H := hP
  have hD : va_D A (zb_G cI ad g_now g_mind g_taken g_isTaken g_letters g_letterCount w_g_told w_g_toldCount w_g_refusals g_costs g_gains g_seed ++ zb_M cI bd m_s m_m m_image m_was m_hasImage m_letters m_row m_refused m_letterMany m_rowMany m_place m_numbers m_cost m_seed) := hD
  refine lv_aload_n hx hb dL_law_1160 rfl (lv_at hl 2 rfl) ?_
  refine lv_aload_n hx hb dL_law_1161 rfl (lv_at hl 0 rfl) ?_
  refine lv_iload_n hx hb dL_law_1162 rfl (lv_at hl 3 rfl) ?_
  refine lv_iconst (v := (1 : Int32)) hx hb dL_law_1163 (by decide) ?_
  refine lv_iadd hx hb dL_law_1164 ?_
  refine va_sld hx hb hX hbl hbA hS (in1) dL_law_1165 ?_
  refine zb_callV (As := [.int (xs (nI i + 1).toNatClampNeg)]) (rest := [.int r0]) ⟨hx, hb, hml, hown, hts⟩ (zc_X2_row l D cI bd m_s m_m m_image m_was m_hasImage m_letters m_row m_refused m_letterMany m_rowMany m_place m_numbers m_cost m_seed (xs (nI i + 1).toNatClampNeg) q0 y_m_row y_m_refused y_m_rowMany f2) (cwV 1 hts gQ_X2_row rfl rfl rfl hd_X2_row ⟨Nat.le_of_ble_eq_true rfl, Nat.le_of_ble_eq_true rfl⟩) hK hP hD hS hA (zb_lM) (q0 := 0) rfl rfl rfl hl.1 rfl (Nat.le_of_ble_eq_true rfl) dL_law_1166 ⟨Nat.le_refl _, Nat.le_refl _⟩ (fun H locs hP hD hS => ?_)
  have hP : va_P D zb_cl (zb_G cI ad g_now g_mind g_taken g_isTaken g_letters g_letterCount w_g_told w_g_toldCount w_g_refusals g_costs g_gains g_seed ++ zb_M cI bd m_s m_m m_image m_was m_hasImage m_letters y_m_row y_m_refused m_letterMany y_m_rowMany m_place m_numbers m_cost m_seed) H := hP
  have hD : va_D A (zb_G cI ad g_now g_mind g_taken g_isTaken g_letters g_letterCount w_g_told w_g_toldCount w_g_refusals g_costs g_gains g_seed ++ zb_M cI bd m_s m_m m_image m_was m_hasImage m_letters y_m_row y_m_refused m_letterMany y_m_rowMany m_place m_numbers m_cost m_seed) := hD
  have hLS : zLS D cI ad bd A s H locs := ⟨g_now, g_mind, g_taken, g_isTaken, g_letters, g_letterCount, w_g_told, w_g_toldCount, w_g_refusals, g_costs, g_gains, g_seed, m_s, m_m, m_image, m_was, m_hasImage, m_letters, y_m_row, y_m_refused, m_letterMany, y_m_rowMany, m_place, m_numbers, m_cost, m_seed, ⟨hRN, hRT, hRE, sRO, sRR⟩, hP, hD, hS⟩
  refine lv_icmp_eq (tgt := 1292) hx hb dL_law_1169 (by decide) (fun _ => kk H locs hLS) (fun c9 => absurd e0 c9)
set_option maxHeartbeats 4000000 in
set_option maxRecDepth 100000 in
theorem lc_judge (hx : p.tables.exec = Jvm.exec) (hb : c.code = cL_law) (hml : c.maxLocals = 4) (hown : s.vm.findClass RL = some m.cls) (hts : ∀ w ∈ lw_tbl, w.before #[Value.ref b] s = true) (hX : va_X b Ln xs s s.heap) (hbl : b < s.heap.size) (hbA : ¬ A b) (hK : zb_K D cI s) (hE : zb_E aK aV A s s.heap) (hA : ∀ q, s.heap.size ≤ q → A q) {H : Heap} {locs : List Loc} {ls : Array Slot} {i : Nat} (hi : i + 6 ≤ Ln) (hLn : Ln ≤ 3072) (hl : lv_has ls 4 [(0, .ref b), (1, .ref (ad 0)), (2, .ref (bd 0)), (3, .int (nI i))]) (h : zLS D cI ad bd A s H locs) (kk : ∀ (H : Heap) (locs : List Loc), zLS D cI ad bd A s H locs → W p l e room_1 s m #[Value.ref b] below meth c H locs 37 1084 (lw_Z below #[Value.ref b] s) (F0 m 1292 ls [])) : W p l e room_1 s m #[Value.ref b] below meth c H locs 37 1084 (lw_Z below #[Value.ref b] s) (F0 m 1174 ls []) := by
  obtain ⟨g_now, g_mind, g_taken, g_isTaken, g_letters, g_letterCount, g_told, g_toldCount, g_refusals, g_costs, g_gains, g_seed, m_s, m_m, m_image, m_was, m_hasImage, m_letters, m_row, m_refused, m_letterMany, m_rowMany, m_place, m_numbers, m_cost, m_seed, ⟨hRN, hRT, hRE, hRO, hRR⟩, hP, hD, hS⟩ := h
  have SIM : Ok (fun a b => a.1 = b.1 ∧ RO g_told a.2 m_row b.2) (zf_X1_judge g_now g_told g_toldCount) (zf_X2_judge m_s m_row m_rowMany) := sim_judge hRN hRO 
  obtain ⟨⟨r0, w_g_toldCount⟩, ⟨q0, y_m_rowMany⟩, f1, f2, e0, sRO⟩ := SIM
  try dsimp only at e0 sRO
  refine lv_aload_n hx hb dL_law_1174 rfl (lv_at hl 1 rfl) ?_
  refine zb_callV (As := []) (rest := []) ⟨hx, hb, hml, hown, hts⟩ (zc_X1_judge l D cI ad g_now g_mind g_taken g_isTaken g_letters g_letterCount g_told g_toldCount g_refusals g_costs g_gains g_seed r0 w_g_toldCount f1) (cwV 0 hts gQ_X1_judge rfl rfl rfl hd_X1_judge ⟨Nat.le_of_ble_eq_true rfl, Nat.le_of_ble_eq_true rfl⟩) hK hP hD hS hA (zb_lG) (q0 := 0) rfl rfl rfl hl.1 rfl (Nat.le_of_ble_eq_true rfl) dL_law_1175 ⟨Nat.le_refl _, Nat.le_refl _⟩ (fun H locs hP hD hS => ?_)
  have hP : va_P D zb_cl (zb_G cI ad g_now g_mind g_taken g_isTaken g_letters g_letterCount g_told w_g_toldCount g_refusals g_costs g_gains g_seed ++ zb_M cI bd m_s m_m m_image m_was m_hasImage m_letters m_row m_refused m_letterMany m_rowMany m_place m_numbers m_cost m_seed) H := hP
  have hD : va_D A (zb_G cI ad g_now g_mind g_taken g_isTaken g_letters g_letterCount g_told w_g_toldCount g_refusals g_costs g_gains g_seed ++ zb_M cI bd m_s m_m m_image m_was m_hasImage m_letters m_row m_refused m_letterMany m_rowMany m_place m_numbers m_cost m_seed) := hD
  refine lv_aload_n hx hb dL_law_1178 rfl (lv_at hl 2 rfl) ?_
  refine zb_callV (As := []) (rest := [.int r0]) ⟨hx, hb, hml, hown, hts⟩ (zc_X2_judge l D cI bd m_s m_m m_image m_was m_hasImage m_letters m_row m_refused m_letterMany m_rowMany m_place m_numbers m_cost m_seed q0 y_m_rowMany f2) (cwV 0 hts gQ_X2_judge rfl rfl rfl hd_X2_judge ⟨Nat.le_of_ble_eq_true rfl, Nat.le_of_ble_eq_true rfl⟩) hK hP hD hS hA (zb_lM) (q0 := 0) rfl rfl rfl hl.1 rfl (Nat.le_of_ble_eq_true rfl) dL_law_1179 ⟨Nat.le_refl _, Nat.le_refl _⟩ (fun H locs hP hD hS => ?_)
  have hP : va_P D zb_cl (zb_G cI ad g_now g_mind g_taken g_isTaken g_letters g_letterCount g_told w_g_toldCount g_refusals g_costs g_gains g_seed ++ zb_M cI bd m_s m_m m_image m_was m_hasImage m_letters m_row m_refused m_letterMany y_m_rowMany m_place m_numbers m_cost m_seed) H := hP
  have hD : va_D A (zb_G cI ad g_now g_mind g_taken g_isTaken g_letters g_letterCount g_told w_g_toldCount g_refusals g_costs g_gains g_seed ++ zb_M cI bd m_s m_m m_image m_was m_hasImage m_letters m_row m_refused m_letterMany y_m_rowMany m_place m_numbers m_cost m_seed) := hD
  have hLS : zLS D cI ad bd A s H locs := ⟨g_now, g_mind, g_taken, g_isTaken, g_letters, g_letterCount, g_told, w_g_toldCount, g_refusals, g_costs, g_gains, g_seed, m_s, m_m, m_image, m_was, m_hasImage, m_letters, m_row, m_refused, m_letterMany, y_m_rowMany, m_place, m_numbers, m_cost, m_seed, ⟨hRN, hRT, hRE, sRO, hRR⟩, hP, hD, hS⟩
  refine lv_icmp_eq (tgt := 1292) hx hb dL_law_1182 (by decide) (fun _ => kk H locs hLS) (fun c9 => absurd e0 c9)
set_option maxHeartbeats 4000000 in
set_option maxRecDepth 100000 in
theorem lc_clear (hx : p.tables.exec = Jvm.exec) (hb : c.code = cL_law) (hml : c.maxLocals = 4) (hown : s.vm.findClass RL = some m.cls) (hts : ∀ w ∈ lw_tbl, w.before #[Value.ref b] s = true) (hX : va_X b Ln xs s s.heap) (hbl : b < s.heap.size) (hbA : ¬ A b) (hK : zb_K D cI s) (hE : zb_E aK aV A s s.heap) (hA : ∀ q, s.heap.size ≤ q → A q) {H : Heap} {locs : List Loc} {ls : Array Slot} {i : Nat} (hi : i + 6 ≤ Ln) (hLn : Ln ≤ 3072) (hl : lv_has ls 4 [(0, .ref b), (1, .ref (ad 0)), (2, .ref (bd 0)), (3, .int (nI i))]) (h : zLS D cI ad bd A s H locs) (kk : ∀ (H : Heap) (locs : List Loc), zLS D cI ad bd A s H locs → W p l e room_1 s m #[Value.ref b] below meth c H locs 37 1084 (lw_Z below #[Value.ref b] s) (F0 m 1292 ls [])) : W p l e room_1 s m #[Value.ref b] below meth c H locs 37 1084 (lw_Z below #[Value.ref b] s) (F0 m 1187 ls []) := by
  obtain ⟨g_now, g_mind, g_taken, g_isTaken, g_letters, g_letterCount, g_told, g_toldCount, g_refusals, g_costs, g_gains, g_seed, m_s, m_m, m_image, m_was, m_hasImage, m_letters, m_row, m_refused, m_letterMany, m_rowMany, m_place, m_numbers, m_cost, m_seed, ⟨hRN, hRT, hRE, hRO, hRR⟩, hP, hD, hS⟩ := h
  have SIM : Ok (fun a b => a.1 = b.1 ∧ RO g_told a.2 m_row b.2) (zf_X1_clear g_toldCount) (zf_X2_clear m_rowMany) := sim_clear hRO 
  obtain ⟨⟨r0, w_g_toldCount⟩, ⟨q0, y_m_rowMany⟩, f1, f2, e0, sRO⟩ := SIM
  try dsimp only at e0 sRO
  refine lv_aload_n hx hb dL_law_1187 rfl (lv_at hl 1 rfl) ?_
  refine zb_callV (As := []) (rest := []) ⟨hx, hb, hml, hown, hts⟩ (zc_X1_clear l D cI ad g_now g_mind g_taken g_isTaken g_letters g_letterCount g_told g_toldCount g_refusals g_costs g_gains g_seed r0 w_g_toldCount f1) (cwV 0 hts gQ_X1_clear rfl rfl rfl hd_X1_clear ⟨Nat.le_of_ble_eq_true rfl, Nat.le_of_ble_eq_true rfl⟩) hK hP hD hS hA (zb_lG) (q0 := 0) rfl rfl rfl hl.1 rfl (Nat.le_of_ble_eq_true rfl) dL_law_1188 ⟨Nat.le_refl _, Nat.le_refl _⟩ (fun H locs hP hD hS => ?_)
  have hP : va_P D zb_cl (zb_G cI ad g_now g_mind g_taken g_isTaken g_letters g_letterCount g_told w_g_toldCount g_refusals g_costs g_gains g_seed ++ zb_M cI bd m_s m_m m_image m_was m_hasImage m_letters m_row m_refused m_letterMany m_rowMany m_place m_numbers m_cost m_seed) H := hP
  have hD : va_D A (zb_G cI ad g_now g_mind g_taken g_isTaken g_letters g_letterCount g_told w_g_toldCount g_refusals g_costs g_gains g_seed ++ zb_M cI bd m_s m_m m_image m_was m_hasImage m_letters m_row m_refused m_letterMany m_rowMany m_place m_numbers m_cost m_seed) := hD
  refine lv_aload_n hx hb dL_law_1191 rfl (lv_at hl 2 rfl) ?_
  refine zb_callV (As := []) (rest := [.int r0]) ⟨hx, hb, hml, hown, hts⟩ (zc_X2_clear l D cI bd m_s m_m m_image m_was m_hasImage m_letters m_row m_refused m_letterMany m_rowMany m_place m_numbers m_cost m_seed q0 y_m_rowMany f2) (cwV 0 hts gQ_X2_clear rfl rfl rfl hd_X2_clear ⟨Nat.le_of_ble_eq_true rfl, Nat.le_of_ble_eq_true rfl⟩) hK hP hD hS hA (zb_lM) (q0 := 0) rfl rfl rfl hl.1 rfl (Nat.le_of_ble_eq_true rfl) dL_law_1192 ⟨Nat.le_refl _, Nat.le_refl _⟩ (fun H locs hP hD hS => ?_)
  have hP : va_P D zb_cl (zb_G cI ad g_now g_mind g_taken g_isTaken g_letters g_letterCount g_told w_g_toldCount g_refusals g_costs g_gains g_seed ++ zb_M cI bd m_s m_m m_image m_was m_hasImage m_letters m_row m_refused m_letterMany y_m_rowMany m_place m_numbers m_cost m_seed) H := hP
  have hD : va_D A (zb_G cI ad g_now g_mind g_taken g_isTaken g_letters g_letterCount g_told w_g_toldCount g_refusals g_costs g_gains g_seed ++ zb_M cI bd m_s m_m m_image m_was m_hasImage m_letters m_row m_refused m_letterMany y_m_rowMany m_place m_numbers m_cost m_seed) := hD
  have hLS : zLS D cI ad bd A s H locs := ⟨g_now, g_mind, g_taken, g_isTaken, g_letters, g_letterCount, g_told, w_g_toldCount, g_refusals, g_costs, g_gains, g_seed, m_s, m_m, m_image, m_was, m_hasImage, m_letters, m_row, m_refused, m_letterMany, y_m_rowMany, m_place, m_numbers, m_cost, m_seed, ⟨hRN, hRT, hRE, sRO, hRR⟩, hP, hD, hS⟩
  refine lv_icmp_eq (tgt := 1292) hx hb dL_law_1195 (by decide) (fun _ => kk H locs hLS) (fun c9 => absurd e0 c9)
set_option maxHeartbeats 4000000 in
set_option maxRecDepth 100000 in
theorem lc_lots (hx : p.tables.exec = Jvm.exec) (hb : c.code = cL_law) (hml : c.maxLocals = 4) (hown : s.vm.findClass RL = some m.cls) (hts : ∀ w ∈ lw_tbl, w.before #[Value.ref b] s = true) (hX : va_X b Ln xs s s.heap) (hbl : b < s.heap.size) (hbA : ¬ A b) (hK : zb_K D cI s) (hE : zb_E aK aV A s s.heap) (hA : ∀ q, s.heap.size ≤ q → A q) {H : Heap} {locs : List Loc} {ls : Array Slot} {i : Nat} (hi : i + 6 ≤ Ln) (hLn : Ln ≤ 3072) (hl : lv_has ls 4 [(0, .ref b), (1, .ref (ad 0)), (2, .ref (bd 0)), (3, .int (nI i))]) (h : zLS D cI ad bd A s H locs) (kk : ∀ (H : Heap) (locs : List Loc), zLS D cI ad bd A s H locs → W p l e room_1 s m #[Value.ref b] below meth c H locs 37 1084 (lw_Z below #[Value.ref b] s) (F0 m 1292 ls [])) : W p l e room_1 s m #[Value.ref b] below meth c H locs 37 1084 (lw_Z below #[Value.ref b] s) (F0 m 1200 ls []) := by
  obtain ⟨g_now, g_mind, g_taken, g_isTaken, g_letters, g_letterCount, g_told, g_toldCount, g_refusals, g_costs, g_gains, g_seed, m_s, m_m, m_image, m_was, m_hasImage, m_letters, m_row, m_refused, m_letterMany, m_rowMany, m_place, m_numbers, m_cost, m_seed, ⟨hRN, hRT, hRE, hRO, hRR⟩, hP, hD, hS⟩ := h
  have in1 : vp_in (nI i + (1 : Int32)) Ln := by rw [show (1 : Int32) = nI 1 from rfl, nI_add]; exact nI_in (by omega) (by omega)
  have in2 : vp_in (nI i + (2 : Int32)) Ln := by rw [show (2 : Int32) = nI 2 from rfl, nI_add]; exact nI_in (by omega) (by omega)
  have in3 : vp_in (nI i + (3 : Int32)) Ln := by rw [show (3 : Int32) = nI 3 from rfl, nI_add]; exact nI_in (by omega) (by omega)
  have SIM : Ok (fun a b => a.1 = b.1 ∧ RR a.2.2.1 b.2.2.1) (zf_X1_lots g_now g_mind g_refusals g_seed (xs (nI i + 1).toNatClampNeg) (xs (nI i + 2).toNatClampNeg) (xs (nI i + 3).toNatClampNeg)) (zf_X2_lots m_s m_m m_refused m_seed (xs (nI i + 1).toNatClampNeg) (xs (nI i + 2).toNatClampNeg) (xs (nI i + 3).toNatClampNeg)) := sim_lots hRN hRR g_seed m_seed (xs (nI i + 1).toNatClampNeg) (xs (nI i + 2).toNatClampNeg) (xs (nI i + 3).toNatClampNeg)
  obtain ⟨⟨r0, w_g_mind, w_g_refusals, w_g_seed⟩, ⟨q0, y_m_m, y_m_refused, y_m_seed⟩, f1, f2, e0, sRR⟩ := SIM
  try dsimp only at e0 sRR
  refine lv_aload_n hx hb dL_law_1200 rfl (lv_at hl 1 rfl) ?_
  refine lv_aload_n hx hb dL_law_1201 rfl (lv_at hl 0 rfl) ?_
  refine lv_iload_n hx hb dL_law_1202 rfl (lv_at hl 3 rfl) ?_
  refine lv_iconst (v := (1 : Int32)) hx hb dL_law_1203 (by decide) ?_
  refine lv_iadd hx hb dL_law_1204 ?_
  refine va_sld hx hb hX hbl hbA hS (in1) dL_law_1205 ?_
  refine lv_aload_n hx hb dL_law_1206 rfl (lv_at hl 0 rfl) ?_
  refine lv_iload_n hx hb dL_law_1207 rfl (lv_at hl 3 rfl) ?_
  refine lv_iconst (v := (2 : Int32)) hx hb dL_law_1208 (by decide) ?_
  refine lv_iadd hx hb dL_law_1209 ?_
  refine va_sld hx hb hX hbl hbA hS (in2) dL_law_1210 ?_
  refine lv_aload_n hx hb dL_law_1211 rfl (lv_at hl 0 rfl) ?_
  refine lv_iload_n hx hb dL_law_1212 rfl (lv_at hl 3 rfl) ?_
  refine lv_iconst (v := (3 : Int32)) hx hb dL_law_1213 (by decide) ?_
  refine lv_iadd hx hb dL_law_1214 ?_
  refine va_sld hx hb hX hbl hbA hS (in3) dL_law_1215 ?_
  refine zb_callV (As := [.int (xs (nI i + 1).toNatClampNeg), .int (xs (nI i + 2).toNatClampNeg), .int (xs (nI i + 3).toNatClampNeg)]) (rest := []) ⟨hx, hb, hml, hown, hts⟩ (zc_X1_lots l D cI ad g_now g_mind g_taken g_isTaken g_letters g_letterCount g_told g_toldCount g_refusals g_costs g_gains g_seed (xs (nI i + 1).toNatClampNeg) (xs (nI i + 2).toNatClampNeg) (xs (nI i + 3).toNatClampNeg) r0 w_g_mind w_g_refusals w_g_seed f1) (cwV 3 hts gQ_X1_lots rfl rfl rfl hd_X1_lots ⟨Nat.le_of_ble_eq_true rfl, Nat.le_of_ble_eq_true rfl⟩) hK hP hD hS hA (zb_lG) (q0 := 0) rfl rfl rfl hl.1 rfl (Nat.le_of_ble_eq_true rfl) dL_law_1216 ⟨Nat.le_refl _, Nat.le_refl _⟩ (fun H locs hP hD hS => ?_)
  have hP : va_P D zb_cl (zb_G cI ad g_now w_g_mind g_taken g_isTaken g_letters g_letterCount g_told g_toldCount w_g_refusals g_costs g_gains w_g_seed ++ zb_M cI bd m_s m_m m_image m_was m_hasImage m_letters m_row m_refused m_letterMany m_rowMany m_place m_numbers m_cost m_seed) H := hP
  have hD : va_D A (zb_G cI ad g_now w_g_mind g_taken g_isTaken g_letters g_letterCount g_told g_toldCount w_g_refusals g_costs g_gains w_g_seed ++ zb_M cI bd m_s m_m m_image m_was m_hasImage m_letters m_row m_refused m_letterMany m_rowMany m_place m_numbers m_cost m_seed) := hD
  refine lv_aload_n hx hb dL_law_1219 rfl (lv_at hl 2 rfl) ?_
  refine lv_aload_n hx hb dL_law_1220 rfl (lv_at hl 0 rfl) ?_
  refine lv_iload_n hx hb dL_law_1221 rfl (lv_at hl 3 rfl) ?_
  refine lv_iconst (v := (1 : Int32)) hx hb dL_law_1222 (by decide) ?_
  refine lv_iadd hx hb dL_law_1223 ?_
  refine va_sld hx hb hX hbl hbA hS (in1) dL_law_1224 ?_
  refine lv_aload_n hx hb dL_law_1225 rfl (lv_at hl 0 rfl) ?_
  refine lv_iload_n hx hb dL_law_1226 rfl (lv_at hl 3 rfl) ?_
  refine lv_iconst (v := (2 : Int32)) hx hb dL_law_1227 (by decide) ?_
  refine lv_iadd hx hb dL_law_1228 ?_
  refine va_sld hx hb hX hbl hbA hS (in2) dL_law_1229 ?_
  refine lv_aload_n hx hb dL_law_1230 rfl (lv_at hl 0 rfl) ?_
  refine lv_iload_n hx hb dL_law_1231 rfl (lv_at hl 3 rfl) ?_
  refine lv_iconst (v := (3 : Int32)) hx hb dL_law_1232 (by decide) ?_
  refine lv_iadd hx hb dL_law_1233 ?_
  refine va_sld hx hb hX hbl hbA hS (in3) dL_law_1234 ?_
  refine zb_callV (As := [.int (xs (nI i + 1).toNatClampNeg), .int (xs (nI i + 2).toNatClampNeg), .int (xs (nI i + 3).toNatClampNeg)]) (rest := [.int r0]) ⟨hx, hb, hml, hown, hts⟩ (zc_X2_lots l D cI bd m_s m_m m_image m_was m_hasImage m_letters m_row m_refused m_letterMany m_rowMany m_place m_numbers m_cost m_seed (xs (nI i + 1).toNatClampNeg) (xs (nI i + 2).toNatClampNeg) (xs (nI i + 3).toNatClampNeg) q0 y_m_m y_m_refused y_m_seed f2) (cwV 3 hts gQ_X2_lots rfl rfl rfl hd_X2_lots ⟨Nat.le_of_ble_eq_true rfl, Nat.le_of_ble_eq_true rfl⟩) hK hP hD hS hA (zb_lM) (q0 := 0) rfl rfl rfl hl.1 rfl (Nat.le_of_ble_eq_true rfl) dL_law_1235 ⟨Nat.le_refl _, Nat.le_refl _⟩ (fun H locs hP hD hS => ?_)
  have hP : va_P D zb_cl (zb_G cI ad g_now w_g_mind g_taken g_isTaken g_letters g_letterCount g_told g_toldCount w_g_refusals g_costs g_gains w_g_seed ++ zb_M cI bd m_s y_m_m m_image m_was m_hasImage m_letters m_row y_m_refused m_letterMany m_rowMany m_place m_numbers m_cost y_m_seed) H := hP
  have hD : va_D A (zb_G cI ad g_now w_g_mind g_taken g_isTaken g_letters g_letterCount g_told g_toldCount w_g_refusals g_costs g_gains w_g_seed ++ zb_M cI bd m_s y_m_m m_image m_was m_hasImage m_letters m_row y_m_refused m_letterMany m_rowMany m_place m_numbers m_cost y_m_seed) := hD
  have hLS : zLS D cI ad bd A s H locs := ⟨g_now, w_g_mind, g_taken, g_isTaken, g_letters, g_letterCount, g_told, g_toldCount, w_g_refusals, g_costs, g_gains, w_g_seed, m_s, y_m_m, m_image, m_was, m_hasImage, m_letters, m_row, y_m_refused, m_letterMany, m_rowMany, m_place, m_numbers, m_cost, y_m_seed, ⟨hRN, hRT, hRE, hRO, sRR⟩, hP, hD, hS⟩
  refine lv_icmp_eq (tgt := 1292) hx hb dL_law_1238 (by decide) (fun _ => kk H locs hLS) (fun c9 => absurd e0 c9)
set_option maxHeartbeats 4000000 in
set_option maxRecDepth 100000 in
theorem lc_image (hx : p.tables.exec = Jvm.exec) (hb : c.code = cL_law) (hml : c.maxLocals = 4) (hown : s.vm.findClass RL = some m.cls) (hts : ∀ w ∈ lw_tbl, w.before #[Value.ref b] s = true) (hX : va_X b Ln xs s s.heap) (hbl : b < s.heap.size) (hbA : ¬ A b) (hK : zb_K D cI s) (hE : zb_E aK aV A s s.heap) (hA : ∀ q, s.heap.size ≤ q → A q) {H : Heap} {locs : List Loc} {ls : Array Slot} {i : Nat} (hi : i + 6 ≤ Ln) (hLn : Ln ≤ 3072) (hl : lv_has ls 4 [(0, .ref b), (1, .ref (ad 0)), (2, .ref (bd 0)), (3, .int (nI i))]) (h : zLS D cI ad bd A s H locs) (kk : ∀ (H : Heap) (locs : List Loc), zLS D cI ad bd A s H locs → W p l e room_1 s m #[Value.ref b] below meth c H locs 37 1084 (lw_Z below #[Value.ref b] s) (F0 m 1292 ls [])) : W p l e room_1 s m #[Value.ref b] below meth c H locs 37 1084 (lw_Z below #[Value.ref b] s) (F0 m 1243 ls []) := by
  obtain ⟨g_now, g_mind, g_taken, g_isTaken, g_letters, g_letterCount, g_told, g_toldCount, g_refusals, g_costs, g_gains, g_seed, m_s, m_m, m_image, m_was, m_hasImage, m_letters, m_row, m_refused, m_letterMany, m_rowMany, m_place, m_numbers, m_cost, m_seed, ⟨hRN, hRT, hRE, hRO, hRR⟩, hP, hD, hS⟩ := h
  have SIM : Ok (fun a b => a.1 = b.1 ∧ RT a.2.1 a.2.2 b.2.1 b.2.2) (zf_X1_image g_now g_taken g_isTaken) (zf_X2_image m_s m_image m_hasImage) := sim_image hRN 
  obtain ⟨⟨r0, w_g_taken, w_g_isTaken⟩, ⟨q0, y_m_image, y_m_hasImage⟩, f1, f2, e0, sRT⟩ := SIM
  try dsimp only at e0 sRT
  refine lv_aload_n hx hb dL_law_1243 rfl (lv_at hl 1 rfl) ?_
  refine zb_callV (As := []) (rest := []) ⟨hx, hb, hml, hown, hts⟩ (zc_X1_image l D cI ad g_now g_mind g_taken g_isTaken g_letters g_letterCount g_told g_toldCount g_refusals g_costs g_gains g_seed r0 w_g_taken w_g_isTaken f1) (cwV 0 hts gQ_X1_image rfl rfl rfl hd_X1_image ⟨Nat.le_of_ble_eq_true rfl, Nat.le_of_ble_eq_true rfl⟩) hK hP hD hS hA (zb_lG) (q0 := 0) rfl rfl rfl hl.1 rfl (Nat.le_of_ble_eq_true rfl) dL_law_1244 ⟨Nat.le_refl _, Nat.le_refl _⟩ (fun H locs hP hD hS => ?_)
  have hP : va_P D zb_cl (zb_G cI ad g_now g_mind w_g_taken w_g_isTaken g_letters g_letterCount g_told g_toldCount g_refusals g_costs g_gains g_seed ++ zb_M cI bd m_s m_m m_image m_was m_hasImage m_letters m_row m_refused m_letterMany m_rowMany m_place m_numbers m_cost m_seed) H := hP
  have hD : va_D A (zb_G cI ad g_now g_mind w_g_taken w_g_isTaken g_letters g_letterCount g_told g_toldCount g_refusals g_costs g_gains g_seed ++ zb_M cI bd m_s m_m m_image m_was m_hasImage m_letters m_row m_refused m_letterMany m_rowMany m_place m_numbers m_cost m_seed) := hD
  refine lv_aload_n hx hb dL_law_1247 rfl (lv_at hl 2 rfl) ?_
  refine zb_callV (As := []) (rest := [.int r0]) ⟨hx, hb, hml, hown, hts⟩ (zc_X2_image l D cI bd m_s m_m m_image m_was m_hasImage m_letters m_row m_refused m_letterMany m_rowMany m_place m_numbers m_cost m_seed q0 y_m_image y_m_hasImage f2) (cwV 0 hts gQ_X2_image rfl rfl rfl hd_X2_image ⟨Nat.le_of_ble_eq_true rfl, Nat.le_of_ble_eq_true rfl⟩) hK hP hD hS hA (zb_lM) (q0 := 0) rfl rfl rfl hl.1 rfl (Nat.le_of_ble_eq_true rfl) dL_law_1248 ⟨Nat.le_refl _, Nat.le_refl _⟩ (fun H locs hP hD hS => ?_)
  have hP : va_P D zb_cl (zb_G cI ad g_now g_mind w_g_taken w_g_isTaken g_letters g_letterCount g_told g_toldCount g_refusals g_costs g_gains g_seed ++ zb_M cI bd m_s m_m y_m_image m_was y_m_hasImage m_letters m_row m_refused m_letterMany m_rowMany m_place m_numbers m_cost m_seed) H := hP
  have hD : va_D A (zb_G cI ad g_now g_mind w_g_taken w_g_isTaken g_letters g_letterCount g_told g_toldCount g_refusals g_costs g_gains g_seed ++ zb_M cI bd m_s m_m y_m_image m_was y_m_hasImage m_letters m_row m_refused m_letterMany m_rowMany m_place m_numbers m_cost m_seed) := hD
  have hLS : zLS D cI ad bd A s H locs := ⟨g_now, g_mind, w_g_taken, w_g_isTaken, g_letters, g_letterCount, g_told, g_toldCount, g_refusals, g_costs, g_gains, g_seed, m_s, m_m, y_m_image, m_was, y_m_hasImage, m_letters, m_row, m_refused, m_letterMany, m_rowMany, m_place, m_numbers, m_cost, m_seed, ⟨hRN, sRT, hRE, hRO, hRR⟩, hP, hD, hS⟩
  refine lv_icmp_eq (tgt := 1292) hx hb dL_law_1251 (by decide) (fun _ => kk H locs hLS) (fun c9 => absurd e0 c9)
set_option maxHeartbeats 4000000 in
set_option maxRecDepth 100000 in
theorem lc_on (hx : p.tables.exec = Jvm.exec) (hb : c.code = cL_law) (hml : c.maxLocals = 4) (hown : s.vm.findClass RL = some m.cls) (hts : ∀ w ∈ lw_tbl, w.before #[Value.ref b] s = true) (hX : va_X b Ln xs s s.heap) (hbl : b < s.heap.size) (hbA : ¬ A b) (hK : zb_K D cI s) (hE : zb_E aK aV A s s.heap) (hA : ∀ q, s.heap.size ≤ q → A q) {H : Heap} {locs : List Loc} {ls : Array Slot} {i : Nat} (hi : i + 6 ≤ Ln) (hLn : Ln ≤ 3072) (hl : lv_has ls 4 [(0, .ref b), (1, .ref (ad 0)), (2, .ref (bd 0)), (3, .int (nI i))]) (h : zLS D cI ad bd A s H locs) (kk : ∀ (H : Heap) (locs : List Loc), zLS D cI ad bd A s H locs → W p l e room_1 s m #[Value.ref b] below meth c H locs 37 1084 (lw_Z below #[Value.ref b] s) (F0 m 1292 ls [])) : W p l e room_1 s m #[Value.ref b] below meth c H locs 37 1084 (lw_Z below #[Value.ref b] s) (F0 m 1256 ls []) := by
  obtain ⟨g_now, g_mind, g_taken, g_isTaken, g_letters, g_letterCount, g_told, g_toldCount, g_refusals, g_costs, g_gains, g_seed, m_s, m_m, m_image, m_was, m_hasImage, m_letters, m_row, m_refused, m_letterMany, m_rowMany, m_place, m_numbers, m_cost, m_seed, ⟨hRN, hRT, hRE, hRO, hRR⟩, hP, hD, hS⟩ := h
  have SIM : Ok (fun a b => a.1 = b.1 ∧ RN a.2.1 b.2.1 ∧ RR a.2.2 b.2.2) (zf_X1_on g_now g_taken g_isTaken g_refusals) (zf_X2_on m_s m_image m_hasImage m_refused) := sim_on hRN hRT hRR 
  obtain ⟨⟨r0, w_g_now, w_g_refusals⟩, ⟨q0, y_m_s, y_m_refused⟩, f1, f2, e0, sRN, sRR⟩ := SIM
  try dsimp only at e0 sRN sRR
  refine lv_aload_n hx hb dL_law_1256 rfl (lv_at hl 1 rfl) ?_
  refine zb_callV (As := []) (rest := []) ⟨hx, hb, hml, hown, hts⟩ (zc_X1_on l D cI ad g_now g_mind g_taken g_isTaken g_letters g_letterCount g_told g_toldCount g_refusals g_costs g_gains g_seed r0 w_g_now w_g_refusals f1) (cwV 0 hts gQ_X1_on rfl rfl rfl hd_X1_on ⟨Nat.le_of_ble_eq_true rfl, Nat.le_of_ble_eq_true rfl⟩) hK hP hD hS hA (zb_lG) (q0 := 0) rfl rfl rfl hl.1 rfl (Nat.le_of_ble_eq_true rfl) dL_law_1257 ⟨Nat.le_refl _, Nat.le_refl _⟩ (fun H locs hP hD hS => ?_)
  have hP : va_P D zb_cl (zb_G cI ad w_g_now g_mind g_taken g_isTaken g_letters g_letterCount g_told g_toldCount w_g_refusals g_costs g_gains g_seed ++ zb_M cI bd m_s m_m m_image m_was m_hasImage m_letters m_row m_refused m_letterMany m_rowMany m_place m_numbers m_cost m_seed) H := hP
  have hD : va_D A (zb_G cI ad w_g_now g_mind g_taken g_isTaken g_letters g_letterCount g_told g_toldCount w_g_refusals g_costs g_gains g_seed ++ zb_M cI bd m_s m_m m_image m_was m_hasImage m_letters m_row m_refused m_letterMany m_rowMany m_place m_numbers m_cost m_seed) := hD
  refine lv_aload_n hx hb dL_law_1260 rfl (lv_at hl 2 rfl) ?_
  refine zb_callV (As := []) (rest := [.int r0]) ⟨hx, hb, hml, hown, hts⟩ (zc_X2_on l D cI bd m_s m_m m_image m_was m_hasImage m_letters m_row m_refused m_letterMany m_rowMany m_place m_numbers m_cost m_seed q0 y_m_s y_m_refused f2) (cwV 0 hts gQ_X2_on rfl rfl rfl hd_X2_on ⟨Nat.le_of_ble_eq_true rfl, Nat.le_of_ble_eq_true rfl⟩) hK hP hD hS hA (zb_lM) (q0 := 0) rfl rfl rfl hl.1 rfl (Nat.le_of_ble_eq_true rfl) dL_law_1261 ⟨Nat.le_refl _, Nat.le_refl _⟩ (fun H locs hP hD hS => ?_)
  have hP : va_P D zb_cl (zb_G cI ad w_g_now g_mind g_taken g_isTaken g_letters g_letterCount g_told g_toldCount w_g_refusals g_costs g_gains g_seed ++ zb_M cI bd y_m_s m_m m_image m_was m_hasImage m_letters m_row y_m_refused m_letterMany m_rowMany m_place m_numbers m_cost m_seed) H := hP
  have hD : va_D A (zb_G cI ad w_g_now g_mind g_taken g_isTaken g_letters g_letterCount g_told g_toldCount w_g_refusals g_costs g_gains g_seed ++ zb_M cI bd y_m_s m_m m_image m_was m_hasImage m_letters m_row y_m_refused m_letterMany m_rowMany m_place m_numbers m_cost m_seed) := hD
  have hLS : zLS D cI ad bd A s H locs := ⟨w_g_now, g_mind, g_taken, g_isTaken, g_letters, g_letterCount, g_told, g_toldCount, w_g_refusals, g_costs, g_gains, g_seed, y_m_s, m_m, m_image, m_was, m_hasImage, m_letters, m_row, y_m_refused, m_letterMany, m_rowMany, m_place, m_numbers, m_cost, m_seed, ⟨sRN, hRT, hRE, hRO, sRR⟩, hP, hD, hS⟩
  refine lv_icmp_eq (tgt := 1292) hx hb dL_law_1264 (by decide) (fun _ => kk H locs hLS) (fun c9 => absurd e0 c9)
set_option maxHeartbeats 4000000 in
set_option maxRecDepth 100000 in
theorem lc_count (hx : p.tables.exec = Jvm.exec) (hb : c.code = cL_law) (hml : c.maxLocals = 4) (hown : s.vm.findClass RL = some m.cls) (hts : ∀ w ∈ lw_tbl, w.before #[Value.ref b] s = true) (hX : va_X b Ln xs s s.heap) (hbl : b < s.heap.size) (hbA : ¬ A b) (hK : zb_K D cI s) (hE : zb_E aK aV A s s.heap) (hA : ∀ q, s.heap.size ≤ q → A q) {H : Heap} {locs : List Loc} {ls : Array Slot} {i : Nat} (hi : i + 6 ≤ Ln) (hLn : Ln ≤ 3072) (hl : lv_has ls 4 [(0, .ref b), (1, .ref (ad 0)), (2, .ref (bd 0)), (3, .int (nI i))]) (h : zLS D cI ad bd A s H locs) (kk : ∀ (H : Heap) (locs : List Loc), zLS D cI ad bd A s H locs → W p l e room_1 s m #[Value.ref b] below meth c H locs 37 1084 (lw_Z below #[Value.ref b] s) (F0 m 1292 ls [])) : W p l e room_1 s m #[Value.ref b] below meth c H locs 37 1084 (lw_Z below #[Value.ref b] s) (F0 m 1269 ls []) := by
  obtain ⟨g_now, g_mind, g_taken, g_isTaken, g_letters, g_letterCount, g_told, g_toldCount, g_refusals, g_costs, g_gains, g_seed, m_s, m_m, m_image, m_was, m_hasImage, m_letters, m_row, m_refused, m_letterMany, m_rowMany, m_place, m_numbers, m_cost, m_seed, ⟨hRN, hRT, hRE, hRO, hRR⟩, hP, hD, hS⟩ := h
  have in1 : vp_in (nI i + (1 : Int32)) Ln := by rw [show (1 : Int32) = nI 1 from rfl, nI_add]; exact nI_in (by omega) (by omega)
  have SIM : Ok (fun a b => a = b) (zf_X1_count g_now g_letterCount g_toldCount g_refusals (xs (nI i + 1).toNatClampNeg)) (zf_X2_count m_s m_refused m_letterMany m_rowMany (xs (nI i + 1).toNatClampNeg)) := sim_count hRN hRR hRE hRO (xs (nI i + 1).toNatClampNeg)
  obtain ⟨r0, q0, f1, f2, e0⟩ := SIM
  try dsimp only at e0
  refine lv_aload_n hx hb dL_law_1269 rfl (lv_at hl 1 rfl) ?_
  refine lv_aload_n hx hb dL_law_1270 rfl (lv_at hl 0 rfl) ?_
  refine lv_iload_n hx hb dL_law_1271 rfl (lv_at hl 3 rfl) ?_
  refine lv_iconst (v := (1 : Int32)) hx hb dL_law_1272 (by decide) ?_
  refine lv_iadd hx hb dL_law_1273 ?_
  refine va_sld hx hb hX hbl hbA hS (in1) dL_law_1274 ?_
  refine zb_callV (As := [.int (xs (nI i + 1).toNatClampNeg)]) (rest := []) ⟨hx, hb, hml, hown, hts⟩ (zc_X1_count l D cI ad g_now g_mind g_taken g_isTaken g_letters g_letterCount g_told g_toldCount g_refusals g_costs g_gains g_seed (xs (nI i + 1).toNatClampNeg) r0 f1) (cwV 1 hts gQ_X1_count rfl rfl rfl hd_X1_count ⟨Nat.le_of_ble_eq_true rfl, Nat.le_of_ble_eq_true rfl⟩) hK hP hD hS hA (zb_lG) (q0 := 0) rfl rfl rfl hl.1 rfl (Nat.le_of_ble_eq_true rfl) dL_law_1275 ⟨Nat.le_refl _, Nat.le_refl _⟩ (fun H locs hP hD hS => ?_)
  have hP : va_P D zb_cl (zb_G cI ad g_now g_mind g_taken g_isTaken g_letters g_letterCount g_told g_toldCount g_refusals g_costs g_gains g_seed ++ zb_M cI bd m_s m_m m_image m_was m_hasImage m_letters m_row m_refused m_letterMany m_rowMany m_place m_numbers m_cost m_seed) H := hP
  have hD : va_D A (zb_G cI ad g_now g_mind g_taken g_isTaken g_letters g_letterCount g_told g_toldCount g_refusals g_costs g_gains g_seed ++ zb_M cI bd m_s m_m m_image m_was m_hasImage m_letters m_row m_refused m_letterMany m_rowMany m_place m_numbers m_cost m_seed) := hD
  refine lv_aload_n hx hb dL_law_1278 rfl (lv_at hl 2 rfl) ?_
  refine lv_aload_n hx hb dL_law_1279 rfl (lv_at hl 0 rfl) ?_
  refine lv_iload_n hx hb dL_law_1280 rfl (lv_at hl 3 rfl) ?_
  refine lv_iconst (v := (1 : Int32)) hx hb dL_law_1281 (by decide) ?_
  refine lv_iadd hx hb dL_law_1282 ?_
  refine va_sld hx hb hX hbl hbA hS (in1) dL_law_1283 ?_
  refine zb_callV (As := [.int (xs (nI i + 1).toNatClampNeg)]) (rest := [.int r0]) ⟨hx, hb, hml, hown, hts⟩ (zc_X2_count l D cI bd m_s m_m m_image m_was m_hasImage m_letters m_row m_refused m_letterMany m_rowMany m_place m_numbers m_cost m_seed (xs (nI i + 1).toNatClampNeg) q0 f2) (cwV 1 hts gQ_X2_count rfl rfl rfl hd_X2_count ⟨Nat.le_of_ble_eq_true rfl, Nat.le_of_ble_eq_true rfl⟩) hK hP hD hS hA (zb_lM) (q0 := 0) rfl rfl rfl hl.1 rfl (Nat.le_of_ble_eq_true rfl) dL_law_1284 ⟨Nat.le_refl _, Nat.le_refl _⟩ (fun H locs hP hD hS => ?_)
  have hP : va_P D zb_cl (zb_G cI ad g_now g_mind g_taken g_isTaken g_letters g_letterCount g_told g_toldCount g_refusals g_costs g_gains g_seed ++ zb_M cI bd m_s m_m m_image m_was m_hasImage m_letters m_row m_refused m_letterMany m_rowMany m_place m_numbers m_cost m_seed) H := hP
  have hD : va_D A (zb_G cI ad g_now g_mind g_taken g_isTaken g_letters g_letterCount g_told g_toldCount g_refusals g_costs g_gains g_seed ++ zb_M cI bd m_s m_m m_image m_was m_hasImage m_letters m_row m_refused m_letterMany m_rowMany m_place m_numbers m_cost m_seed) := hD
  have hLS : zLS D cI ad bd A s H locs := ⟨g_now, g_mind, g_taken, g_isTaken, g_letters, g_letterCount, g_told, g_toldCount, g_refusals, g_costs, g_gains, g_seed, m_s, m_m, m_image, m_was, m_hasImage, m_letters, m_row, m_refused, m_letterMany, m_rowMany, m_place, m_numbers, m_cost, m_seed, ⟨hRN, hRT, hRE, hRO, hRR⟩, hP, hD, hS⟩
  refine lv_icmp_eq (tgt := 1292) hx hb dL_law_1287 (by decide) (fun _ => kk H locs hLS) (fun c9 => absurd e0 c9)
end LAW
