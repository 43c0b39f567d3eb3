/-! the law's loop (laid by wip/gen/lawloop) -/
theorem law_out {Ln i : Nat} (h1 : Ln < i + 6) (h2 : Ln ≤ 3072) (h3 : i ≤ 3072) : Int32.ofNat Ln - (6 : Int32) < nI i := by
  rw [Int32.lt_iff_toInt_lt, show Int32.ofNat Ln - (6 : Int32) = nI Ln - nI 6 from rfl, pk_sub_toInt (by omega) (by omega), nI_toInt (by omega)]
  omega
section LOOP
variable {p : Program} {l : Launch} {e : Env} {s : State} {m : MethodId} {below : List Frame} {meth : Method} {c : Code} {b Ln : Nat} {xs : Nat → Int32} {D : va_G} {cI : ClassId} {aK aV ad bd : Nat → Nat} {A : Nat → Prop}
set_option maxHeartbeats 4000000 in
set_option maxRecDepth 100000 in
theorem law_loop (hx : p.tables.exec = Jvm.exec) (hb : c.code = cL_law) (hml : c.maxLocals = 4) (hown : s.vm.findClass RL = some m.cls) (hts : ∀ w ∈ lw_tbl, w.before #[Value.ref b] s = true) (hX : va_X b Ln xs s s.heap) (hbl : b < s.heap.size) (hbA : ¬ A b) (hK : zb_K D cI s) (hE : zb_E aK aV A s s.heap) (hA : ∀ q, s.heap.size ≤ q → A q) (hLn : Ln ≤ 3072) (hr : meth.sig.returnType = ret) (hlk : meth.locks = false) (hAl : ∀ q, A q → s.heap.size ≤ q) : ∀ (d i : Nat) (H : Heap) (locs : List Loc) (ls : Array Slot), Ln ≤ i + 6 * d → i ≤ Ln → lv_has ls 4 [(0, .ref b), (1, .ref (ad 0)), (2, .ref (bd 0)), (3, .int (nI i))] → zLS D cI ad bd A s H locs → W p l e room_1 s m #[Value.ref b] below meth c H locs 37 1084 (lw_Z below #[Value.ref b] s) (F0 m 18 ls []) := by
  intro d
  induction d with
  | zero =>
    intro i H locs ls hd hi hl hLS
    have hS : va_S A s.heap H locs := by
      obtain ⟨_, _, _, _, _, _, _, _, _, _, _, _, _, _, _, _, _, _, _, _, _, _, _, _, _, _, _, _, _, hS⟩ := hLS
      exact hS
    refine lv_iload_n hx hb dL_law_18 rfl (lv_at hl 3 rfl) ?_
    refine lv_aload_n hx hb dL_law_19 rfl (lv_at hl 0 rfl) ?_
    refine va_slen hx hb hX hbl hbA hS dL_law_20 ?_
    refine lv_bipush (v := (6 : Int32)) hx hb dL_law_21 (by decide) ?_
    refine lv_isub hx hb dL_law_23 ?_
    refine lv_icmp_gt (tgt := 1298) hx hb dL_law_24 (by decide) (fun _ => ?_) (fun c9 => absurd (law_out (by omega) (by omega) (by omega)) c9)
    refine lv_iconst (v := (1 : Int32)) hx hb dL_law_1298 (by decide) ?_
    exact va_forget (fun q hq => hAl _ (hS.2.2 q hq)) (lw_ret hx hb hr hlk dL_law_1299)
  | succ d ih =>
    intro i H locs ls hd hi hl hLS
    have hS : va_S A s.heap H locs := by
      obtain ⟨_, _, _, _, _, _, _, _, _, _, _, _, _, _, _, _, _, _, _, _, _, _, _, _, _, _, _, _, _, hS⟩ := hLS
      exact hS
    refine lv_iload_n hx hb dL_law_18 rfl (lv_at hl 3 rfl) ?_
    refine lv_aload_n hx hb dL_law_19 rfl (lv_at hl 0 rfl) ?_
    refine va_slen hx hb hX hbl hbA hS dL_law_20 ?_
    refine lv_bipush (v := (6 : Int32)) hx hb dL_law_21 (by decide) ?_
    refine lv_isub hx hb dL_law_23 ?_
    refine lv_icmp_gt (tgt := 1298) hx hb dL_law_24 (by decide) (fun _ => ?_) (fun c9 => ?_)
    · refine lv_iconst (v := (1 : Int32)) hx hb dL_law_1298 (by decide) ?_
      exact va_forget (fun q hq => hAl _ (hS.2.2 q hq)) (lw_ret hx hb hr hlk dL_law_1299)
    · have hi6 : i + 6 ≤ Ln := by
        by_cases z : i + 6 ≤ Ln
        · exact z
        · exact absurd (law_out (by omega) (by omega) (by omega)) c9
      have kk : ∀ (H : Heap) (locs : List Loc), zLS D cI ad bd A s H locs → W p l e room_1 s m #[Value.ref b] below meth c H locs 37 1084 (lw_Z below #[Value.ref b] s) (F0 m 1292 ls []) := by
        intro H locs hLS
        refine lv_iinc (v := nI (i + 6)) (lv' := [(3, .int (nI (i + 6))), (0, .ref b), (1, .ref (ad 0)), (2, .ref (bd 0))]) hx hb dL_law_1292 hl (k := 3) rfl (nI_add i 6) (by decide) rfl (fun ls hl => ?_)
        refine lv_goto (tgt := 18) hx hb dL_law_1295 (by decide) ?_
        exact ih (i + 6) H locs ls (by omega) (by omega) (lv_sub hl [1, 2, 3, 0] rfl) hLS
      have in0 : vp_in (nI i) Ln := nI_in (by omega) (by omega)
      refine lv_aload_n hx hb dL_law_27 rfl (lv_at hl 0 rfl) ?_
      refine lv_iload_n hx hb dL_law_28 rfl (lv_at hl 3 rfl) ?_
      refine va_sld hx hb hX hbl hbA hS in0 dL_law_29 ?_
      refine lv_bipush (v := (63 : Int32)) hx hb dL_law_30 (by decide) ?_
      refine lv_iand hx hb dL_law_32 ?_
      obtain ⟨j, hj, ej⟩ := pk_andE (xs (nI i).toNatClampNeg) (m := 63) 6 (by decide)
      rw [ej]
      by_cases hout : 36 ≤ j
      · refine lv_tableOut (tgt := 1292) hx hb dL_law_33 (Or.inr (by rw [nI_toInt (by omega)]; omega)) (by decide) ?_
        exact kk H locs hLS
      by_cases c0 : j = 0
      · subst c0
        refine lv_tableIn (tgt := 192) hx hb dL_law_33 (by decide) (by decide) rfl (by decide) ?_
        exact lc_letter hx hb hml hown hts hX hbl hbA hK hE hA hi6 hLn hl hLS kk
      by_cases c1 : j = 1
      · subst c1
        refine lv_tableIn (tgt := 215) hx hb dL_law_33 (by decide) (by decide) rfl (by decide) ?_
        exact lc_wall hx hb hml hown hts hX hbl hbA hK hE hA hi6 hLn hl hLS kk
      by_cases c2 : j = 2
      · subst c2
        refine lv_tableIn (tgt := 228) hx hb dL_law_33 (by decide) (by decide) rfl (by decide) ?_
        exact lc_node hx hb hml hown hts hX hbl hbA hK hE hA hi6 hLn hl hLS kk
      by_cases c3 : j = 3
      · subst c3
        refine lv_tableIn (tgt := 261) hx hb dL_law_33 (by decide) (by decide) rfl (by decide) ?_
        exact lc_person hx hb hml hown hts hX hbl hbA hK hE hA hi6 hLn hl hLS kk
      by_cases c4 : j = 4
      · subst c4
        refine lv_tableIn (tgt := 294) hx hb dL_law_33 (by decide) (by decide) rfl (by decide) ?_
        exact lc_lays hx hb hml hown hts hX hbl hbA hK hE hA hi6 hLn hl hLS kk
      by_cases c5 : j = 5
      · subst c5
        refine lv_tableIn (tgt := 337) hx hb dL_law_33 (by decide) (by decide) rfl (by decide) ?_
        exact lc_wets hx hb hml hown hts hX hbl hbA hK hE hA hi6 hLn hl hLS kk
      by_cases c6 : j = 6
      · subst c6
        refine lv_tableIn (tgt := 370) hx hb dL_law_33 (by decide) (by decide) rfl (by decide) ?_
        exact lc_comesIn hx hb hml hown hts hX hbl hbA hK hE hA hi6 hLn hl hLS kk
      by_cases c7 : j = 7
      · subst c7
        refine lv_tableIn (tgt := 403) hx hb dL_law_33 (by decide) (by decide) rfl (by decide) ?_
        exact lc_heads hx hb hml hown hts hX hbl hbA hK hE hA hi6 hLn hl hLS kk
      by_cases c8 : j = 8
      · subst c8
        refine lv_tableIn (tgt := 436) hx hb dL_law_33 (by decide) (by decide) rfl (by decide) ?_
        exact lc_stands hx hb hml hown hts hX hbl hbA hK hE hA hi6 hLn hl hLS kk
      by_cases c9 : j = 9
      · subst c9
        refine lv_tableIn (tgt := 469) hx hb dL_law_33 (by decide) (by decide) rfl (by decide) ?_
        exact lc_steps hx hb hml hown hts hX hbl hbA hK hE hA hi6 hLn hl hLS kk
      by_cases c10 : j = 10
      · subst c10
        refine lv_tableIn (tgt := 492) hx hb dL_law_33 (by decide) (by decide) rfl (by decide) ?_
        exact lc_personThen hx hb hml hown hts hX hbl hbA hK hE hA hi6 hLn hl hLS kk
      by_cases c11 : j = 11
      · subst c11
        refine lv_tableIn (tgt := 535) hx hb dL_law_33 (by decide) (by decide) rfl (by decide) ?_
        exact lc_wetThen hx hb hml hown hts hX hbl hbA hK hE hA hi6 hLn hl hLS kk
      by_cases c12 : j = 12
      · subst c12
        refine lv_tableIn (tgt := 568) hx hb dL_law_33 (by decide) (by decide) rfl (by decide) ?_
        exact lc_comes hx hb hml hown hts hX hbl hbA hK hE hA hi6 hLn hl hLS kk
      by_cases c13 : j = 13
      · subst c13
        refine lv_tableIn (tgt := 601) hx hb dL_law_33 (by decide) (by decide) rfl (by decide) ?_
        exact lc_visits hx hb hml hown hts hX hbl hbA hK hE hA hi6 hLn hl hLS kk
      by_cases c14 : j = 14
      · subst c14
        refine lv_tableIn (tgt := 634) hx hb dL_law_33 (by decide) (by decide) rfl (by decide) ?_
        exact lc_stops hx hb hml hown hts hX hbl hbA hK hE hA hi6 hLn hl hLS kk
      by_cases c15 : j = 15
      · subst c15
        refine lv_tableIn (tgt := 657) hx hb dL_law_33 (by decide) (by decide) rfl (by decide) ?_
        exact lc_meets hx hb hml hown hts hX hbl hbA hK hE hA hi6 hLn hl hLS kk
      by_cases c16 : j = 16
      · subst c16
        refine lv_tableIn (tgt := 690) hx hb dL_law_33 (by decide) (by decide) rfl (by decide) ?_
        exact lc_round hx hb hml hown hts hX hbl hbA hK hE hA hi6 hLn hl hLS kk
      by_cases c17 : j = 17
      · subst c17
        refine lv_tableIn (tgt := 713) hx hb dL_law_33 (by decide) (by decide) rfl (by decide) ?_
        exact lc_way hx hb hml hown hts hX hbl hbA hK hE hA hi6 hLn hl hLS kk
      by_cases c18 : j = 18
      · subst c18
        refine lv_tableIn (tgt := 756) hx hb dL_law_33 (by decide) (by decide) rfl (by decide) ?_
        exact lc_begin hx hb hml hown hts hX hbl hbA hK hE hA hi6 hLn hl hLS kk
      by_cases c19 : j = 19
      · subst c19
        refine lv_tableIn (tgt := 799) hx hb dL_law_33 (by decide) (by decide) rfl (by decide) ?_
        exact lc_head hx hb hml hown hts hX hbl hbA hK hE hA hi6 hLn hl hLS kk
      by_cases c20 : j = 20
      · subst c20
        refine lv_tableIn (tgt := 832) hx hb dL_law_33 (by decide) (by decide) rfl (by decide) ?_
        exact lc_damp hx hb hml hown hts hX hbl hbA hK hE hA hi6 hLn hl hLS kk
      by_cases c21 : j = 21
      · subst c21
        refine lv_tableIn (tgt := 865) hx hb dL_law_33 (by decide) (by decide) rfl (by decide) ?_
        exact lc_bestKind hx hb hml hown hts hX hbl hbA hK hE hA hi6 hLn hl hLS kk
      by_cases c22 : j = 22
      · subst c22
        refine lv_tableIn (tgt := 908) hx hb dL_law_33 (by decide) (by decide) rfl (by decide) ?_
        exact lc_dry hx hb hml hown hts hX hbl hbA hK hE hA hi6 hLn hl hLS kk
      by_cases c23 : j = 23
      · subst c23
        refine lv_tableIn (tgt := 931) hx hb dL_law_33 (by decide) (by decide) rfl (by decide) ?_
        exact lc_kinds hx hb hml hown hts hX hbl hbA hK hE hA hi6 hLn hl hLS kk
      by_cases c24 : j = 24
      · subst c24
        refine lv_tableIn (tgt := 954) hx hb dL_law_33 (by decide) (by decide) rfl (by decide) ?_
        exact lc_near hx hb hml hown hts hX hbl hbA hK hE hA hi6 hLn hl hLS kk
      by_cases c25 : j = 25
      · subst c25
        refine lv_tableIn (tgt := 977) hx hb dL_law_33 (by decide) (by decide) rfl (by decide) ?_
        exact lc_two hx hb hml hown hts hX hbl hbA hK hE hA hi6 hLn hl hLS kk
      by_cases c26 : j = 26
      · subst c26
        refine lv_tableIn (tgt := 1020) hx hb dL_law_33 (by decide) (by decide) rfl (by decide) ?_
        exact lc_steam hx hb hml hown hts hX hbl hbA hK hE hA hi6 hLn hl hLS kk
      by_cases c27 : j = 27
      · subst c27
        refine lv_tableIn (tgt := 1084) hx hb dL_law_33 (by decide) (by decide) rfl (by decide) ?_
        exact lc_mean hx hb hml hown hts hX hbl hbA hK hE hA hi6 hLn hl hLS kk
      by_cases c28 : j = 28
      · subst c28
        refine lv_tableIn (tgt := 1108) hx hb dL_law_33 (by decide) (by decide) rfl (by decide) ?_
        exact lc_whatIs hx hb hml hown hts hX hbl hbA hK hE hA hi6 hLn hl hLS kk
      by_cases c29 : j = 29
      · subst c29
        refine lv_tableIn (tgt := 1151) hx hb dL_law_33 (by decide) (by decide) rfl (by decide) ?_
        exact lc_row hx hb hml hown hts hX hbl hbA hK hE hA hi6 hLn hl hLS kk
      by_cases c30 : j = 30
      · subst c30
        refine lv_tableIn (tgt := 1174) hx hb dL_law_33 (by decide) (by decide) rfl (by decide) ?_
        exact lc_judge hx hb hml hown hts hX hbl hbA hK hE hA hi6 hLn hl hLS kk
      by_cases c31 : j = 31
      · subst c31
        refine lv_tableIn (tgt := 1187) hx hb dL_law_33 (by decide) (by decide) rfl (by decide) ?_
        exact lc_clear hx hb hml hown hts hX hbl hbA hK hE hA hi6 hLn hl hLS kk
      by_cases c32 : j = 32
      · subst c32
        refine lv_tableIn (tgt := 1200) hx hb dL_law_33 (by decide) (by decide) rfl (by decide) ?_
        exact lc_lots hx hb hml hown hts hX hbl hbA hK hE hA hi6 hLn hl hLS kk
      by_cases c33 : j = 33
      · subst c33
        refine lv_tableIn (tgt := 1243) hx hb dL_law_33 (by decide) (by decide) rfl (by decide) ?_
        exact lc_image hx hb hml hown hts hX hbl hbA hK hE hA hi6 hLn hl hLS kk
      by_cases c34 : j = 34
      · subst c34
        refine lv_tableIn (tgt := 1256) hx hb dL_law_33 (by decide) (by decide) rfl (by decide) ?_
        exact lc_on hx hb hml hown hts hX hbl hbA hK hE hA hi6 hLn hl hLS kk
      by_cases c35 : j = 35
      · subst c35
        refine lv_tableIn (tgt := 1269) hx hb dL_law_33 (by decide) (by decide) rfl (by decide) ?_
        exact lc_count hx hb hml hown hts hX hbl hbA hK hE hA hi6 hLn hl hLS kk
      omega
end LOOP
