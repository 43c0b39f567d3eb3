/-! the law's entry, 3 -/
set_option maxHeartbeats 4000000 in
set_option maxRecDepth 100000 in
theorem whole_start {p : Program} {e : Env} {s : State} {m : MethodId} {below : List Frame} {meth : Method} {c : Code} (l : Launch) (hflags : l.flags = flags0) {b L : Nat} {xs : Nat → Int32} (hL : L ≤ 3072) (C0 : lw_At p s m meth c b L xs) : W p l e room_1 s m #[Value.ref b] below meth c s.heap [] 0 0 (lw_Z below #[Value.ref b] s) (entryFrame m ([Value.ref b] : List Value).toArray 4) := by
  obtain ⟨hx, hb, hr, hml, hown, hts, hX, hbl, hlocks, hgv⟩ := id C0
  have hA : ∀ q : Nat, s.heap.size ≤ q → (fun q : Nat => s.heap.size ≤ q) q := fun _ h => h
  have hbA : ¬ (fun q : Nat => s.heap.size ≤ q) b := Nat.not_le.mpr hbl
  obtain ⟨D, cI, hK⟩ := law_K hts
  obtain ⟨aK, aV, hE⟩ := law_E hts hgv
  obtain ⟨wb, wm, hwb, hwm, hRN⟩ := start_RN
  have hS : va_S (fun q : Nat => s.heap.size ≤ q) s.heap s.heap [] := va_S.rf
  have hP : va_P D zb_cl [] s.heap := fun k q h => by simp at h
  have hD : va_D (fun q : Nat => s.heap.size ≤ q) [] := ⟨fun i j p q h => by simp at h, fun k q h => by simp at h⟩
  have hl := lv_entry ([.ref b]) (n := 4) (Nat.le_of_ble_eq_true rfl)
  rw [lg_entry_eq]
  generalize (lg_sl ([.ref b]) ++ List.replicate (4 - (lg_sl ([.ref b])).length) Slot.unset).toArray = ls at hl ⊢
  have hl : lv_has ls 4 [(0, .ref b)] := hl
  refine va_new (ci := 1) (fs := [.null, .null, .null, .int 0, .null, .int 0, .null, .int 0, .null, .null, .null, .int 0]) (C := RX1) (T := TX1) (N := 12) hx hb hts zv_X1 tyX1 tyX1_ok hown (hts _ zv_r1_0) (hts _ zv_r1_1) (hts _ zv_r1_2) hK.1 hP hD hS hA rfl (fun j hj => by rcases (show j = 0 ∨ j = 1 ∨ j = 2 ∨ j = 3 ∨ j = 4 ∨ j = 5 ∨ j = 6 ∨ j = 7 ∨ j = 8 ∨ j = 9 ∨ j = 10 ∨ j = 11 by omega) with rfl | rfl | rfl | rfl | rfl | rfl | rfl | rfl | rfl | rfl | rfl | rfl <;> rfl) (Nat.le_of_ble_eq_true rfl) (Nat.le_of_ble_eq_true rfl) dL_law_0 (fun n1 H hP hD hS => ?_)
  have hP : va_P D zb_cl [(n1, .inr (1, [.null, .null, .null, .int 0, .null, .int 0, .null, .int 0, .null, .null, .null, .int 0]))] H := hP
  have hD : va_D (fun q : Nat => s.heap.size ≤ q) [(n1, .inr (1, [.null, .null, .null, .int 0, .null, .int 0, .null, .int 0, .null, .null, .null, .int 0]))] := hD
  refine W.widen (k := 1) (n := 12) (by omega) (by omega) ?_
  refine lv_dup hx hb dL_law_3 rfl ?_
  have hFc := va_free (wc := [(n1, .inr (1, [.null, .null, .null, .int 0, .null, .int 0, .null, .int 0, .null, .null, .null, .int 0]))]) hD hS hA [0] rfl
  have hPc : va_P D zb_cl [(n1, .inr (1, [.null, .null, .null, .int 0, .null, .int 0, .null, .int 0, .null, .null, .null, .int 0]))] H := hP
  have hDc : va_D (fun q : Nat => s.heap.size ≤ q) [(n1, .inr (1, [.null, .null, .null, .int 0, .null, .int 0, .null, .int 0, .null, .null, .null, .int 0]))] := hD
  refine va_callv (va_runI (As := []) (rest := [.ref n1]) ⟨hx, hb, hml, hown, hts⟩ (zc_X1_init l D cI n1 wb hwb H.size) (cwI 0 hts gQ_X1_init rfl rfl rfl (hts _ zv_r1_2) (hts _ zv_r1_6) (hts _ zv_r1_7) rfl (by decide +kernel) ⟨Nat.le_of_ble_eq_true rfl, Nat.le_of_ble_eq_true rfl⟩) ⟨zb_blind, fun U hU hW => ⟨rfl, by rw [hU], by rw [hU]; exact hPc, hK.warm hW, hDc.weaken (fun _ _ _ _ => trivial)⟩⟩ rfl rfl hl.1 rfl (lv_room (Nat.le_of_ble_eq_true rfl)) dL_law_4 ⟨Nat.le_of_ble_eq_true rfl, Nat.le_of_ble_eq_true rfl⟩) hS (fun q _ h => hFc q h) hFc (fun u t H1 locs ht hvm hw hB hz1 hk1 hS => ?_)
  obtain ⟨hP1, hD1⟩ := hB
  rw [ht] at hP1
  generalize u = ad at hP1 hD1
  obtain ⟨hP, hD⟩ := va_join (wr := []) (w1 := zb_G cI (fun k => if k = 0 then n1 else ad k) (zb_B0 wb) (zb_B0 wb) (zb_B0 wb) 0 zb_Z 0 zb_Z 0 zb_Z zb_Z zb_Z 0) hP hD [0] [] rfl rfl (by decide) (by decide) hk1 hFc hP1 hD1
  generalize H1 = H at hP hS ⊢
  have hP : va_P D zb_cl (zb_G cI (fun k => if k = 0 then n1 else ad k) (zb_B0 wb) (zb_B0 wb) (zb_B0 wb) 0 zb_Z 0 zb_Z 0 zb_Z zb_Z zb_Z 0) H := hP
  have hD : va_D (fun q : Nat => s.heap.size ≤ q) (zb_G cI (fun k => if k = 0 then n1 else ad k) (zb_B0 wb) (zb_B0 wb) (zb_B0 wb) 0 zb_Z 0 zb_Z 0 zb_Z zb_Z zb_Z 0) := hD
  refine W.widen (k := 27) (n := 498) (by omega) (by omega) ?_
  refine lv_astore_n (lv' := [(1, .ref n1), (0, .ref b)]) hx hb dL_law_7 rfl hl (by decide) rfl (fun ls hl => ?_)
  refine va_new (ci := 2) (fs := [.null, .null, .null, .null, .int 0, .null, .null, .null, .int 0, .int 0, .int 0, .null, .null, .int 0]) (C := RX2) (T := TX2) (N := 14) hx hb hts zv_X2 tyX2 tyX2_ok hown (hts _ zv_r1_3) (hts _ zv_r1_4) (hts _ zv_r1_5) hK.1 hP hD hS hA rfl (fun j hj => by rcases (show j = 0 ∨ j = 1 ∨ j = 2 ∨ j = 3 ∨ j = 4 ∨ j = 5 ∨ j = 6 ∨ j = 7 ∨ j = 8 ∨ j = 9 ∨ j = 10 ∨ j = 11 ∨ j = 12 ∨ j = 13 by omega) with rfl | rfl | rfl | rfl | rfl | rfl | rfl | rfl | rfl | rfl | rfl | rfl | rfl | rfl <;> rfl) (Nat.le_of_ble_eq_true rfl) (Nat.le_of_ble_eq_true rfl) dL_law_8 (fun n2 H hP hD hS => ?_)
  have hP : va_P D zb_cl (zb_G cI (fun k => if k = 0 then n1 else ad k) (zb_B0 wb) (zb_B0 wb) (zb_B0 wb) 0 zb_Z 0 zb_Z 0 zb_Z zb_Z zb_Z 0 ++ [(n2, .inr (2, [.null, .null, .null, .null, .int 0, .null, .null, .null, .int 0, .int 0, .int 0, .null, .null, .int 0]))]) H := hP
  have hD : va_D (fun q : Nat => s.heap.size ≤ q) (zb_G cI (fun k => if k = 0 then n1 else ad k) (zb_B0 wb) (zb_B0 wb) (zb_B0 wb) 0 zb_Z 0 zb_Z 0 zb_Z zb_Z zb_Z 0 ++ [(n2, .inr (2, [.null, .null, .null, .null, .int 0, .null, .null, .null, .int 0, .int 0, .int 0, .null, .null, .int 0]))]) := hD
  refine W.widen (k := 28) (n := 512) (by omega) (by omega) ?_
  refine lv_dup hx hb dL_law_11 rfl ?_
  have hPc : va_P D zb_cl [(n2, .inr (2, [.null, .null, .null, .null, .int 0, .null, .null, .null, .int 0, .int 0, .int 0, .null, .null, .int 0]))] H := hP.sub [27] rfl
  have hDc : va_D (fun q : Nat => s.heap.size ≤ q) [(n2, .inr (2, [.null, .null, .null, .null, .int 0, .null, .null, .null, .int 0, .int 0, .int 0, .null, .null, .int 0]))] := hD.sub [27] (by decide) rfl
  have hFc := va_free (wc := [(n2, .inr (2, [.null, .null, .null, .null, .int 0, .null, .null, .null, .int 0, .int 0, .int 0, .null, .null, .int 0]))]) hD hS hA [27] rfl
  refine va_callv (va_runI (As := []) (rest := [.ref n2]) ⟨hx, hb, hml, hown, hts⟩ (zc_X2_init l D cI n2 wm hwm H.size) (cwI 0 hts gQ_X2_init rfl rfl rfl (hts _ zv_r1_5) (hts _ zv_r2_14) (hts _ zv_r2_15) rfl (by decide +kernel) ⟨Nat.le_of_ble_eq_true rfl, Nat.le_of_ble_eq_true rfl⟩) ⟨zb_blind, fun U hU hW => ⟨rfl, by rw [hU], by rw [hU]; exact hPc, hK.warm hW, hDc.weaken (fun _ _ _ _ => trivial)⟩⟩ rfl rfl hl.1 rfl (lv_room (Nat.le_of_ble_eq_true rfl)) dL_law_12 ⟨Nat.le_of_ble_eq_true rfl, Nat.le_of_ble_eq_true rfl⟩) hS (fun q _ h => hFc q h) hFc (fun u t H1 locs ht hvm hw hB hz1 hk1 hS => ?_)
  obtain ⟨hP1, hD1⟩ := hB
  rw [ht] at hP1
  generalize u = bd at hP1 hD1
  obtain ⟨hP, hD⟩ := va_join (wr := zb_G cI (fun k => if k = 0 then n1 else ad k) (zb_B0 wb) (zb_B0 wb) (zb_B0 wb) 0 zb_Z 0 zb_Z 0 zb_Z zb_Z zb_Z 0) (w1 := zb_M cI (fun k => if k = 0 then n2 else bd k) wm zb_Z zb_Z zb_Z 0 zb_Z zb_Z zb_Z 0 0 0 zb_Z zb_Z 0) hP hD [27] [0, 1, 2, 3, 4, 5, 6, 7, 8, 9, 10, 11, 12, 13, 14, 15, 16, 17, 18, 19, 20, 21, 22, 23, 24, 25, 26] rfl rfl (by decide) (by decide) hk1 hFc hP1 hD1
  generalize H1 = H at hP hS ⊢
  refine W.widen (k := 37) (n := 1084) (by omega) (by omega) ?_
  refine lv_astore_n (lv' := [(2, .ref n2), (1, .ref n1), (0, .ref b)]) hx hb dL_law_15 rfl hl (by decide) rfl (fun ls hl => ?_)
  refine lv_iconst (v := (0 : Int32)) hx hb dL_law_16 (by decide) ?_
  refine lv_istore_n (lv' := [(3, .int (0 : Int32)), (2, .ref n2), (1, .ref n1), (0, .ref b)]) hx hb dL_law_17 rfl hl (by decide) rfl (fun ls hl => ?_)
  exact law_loop (ad := fun k => if k = 0 then n1 else ad k) (bd := fun k => if k = 0 then n2 else bd k) hx hb hml hown hts hX hbl hbA hK hE hA hL hr hlocks (fun _ h => h) L 0 H _ ls (by omega) (Nat.zero_le L) (lv_sub hl [3, 2, 1, 0] rfl) ⟨zb_B0 wb, zb_B0 wb, zb_B0 wb, 0, zb_Z, 0, zb_Z, 0, zb_Z, zb_Z, zb_Z, 0, wm, zb_Z, zb_Z, zb_Z, 0, zb_Z, zb_Z, zb_Z, 0, 0, 0, zb_Z, zb_Z, 0, start_SR hRN _, hP, hD, hS⟩
