/-! base: pictures of the worlds, contracts, calls -/
abbrev zb_cl : List vw_C := [(RX0, TX0, 8), (RX1, TX1, 12), (RX2, TX2, 14)]
abbrev BT : Type := (Nat → Int32) × (Nat → Int32) × (Nat → Int32) × (Nat → Int32) × (Nat → Int32) × (Nat → Int32) × Int32 × Int32
abbrev bt_kind (B : BT) : Nat → Int32 := B.1
abbrev bt_figure (B : BT) : Nat → Int32 := B.2.1
abbrev bt_wet (B : BT) : Nat → Int32 := B.2.2.1
abbrev bt_place (B : BT) : Nat → Int32 := B.2.2.2.1
abbrev bt_heading (B : BT) : Nat → Int32 := B.2.2.2.2.1
abbrev bt_helped (B : BT) : Nat → Int32 := B.2.2.2.2.2.1
abbrev bt_people (B : BT) : Int32 := B.2.2.2.2.2.2.1
abbrev bt_step (B : BT) : Int32 := B.2.2.2.2.2.2.2
abbrev bs_kind (B : BT) (f : Nat → Int32) : BT := (f, B.2.1, B.2.2.1, B.2.2.2.1, B.2.2.2.2.1, B.2.2.2.2.2.1, B.2.2.2.2.2.2.1, B.2.2.2.2.2.2.2)
abbrev bs_figure (B : BT) (f : Nat → Int32) : BT := (B.1, f, B.2.2.1, B.2.2.2.1, B.2.2.2.2.1, B.2.2.2.2.2.1, B.2.2.2.2.2.2.1, B.2.2.2.2.2.2.2)
abbrev bs_wet (B : BT) (f : Nat → Int32) : BT := (B.1, B.2.1, f, B.2.2.2.1, B.2.2.2.2.1, B.2.2.2.2.2.1, B.2.2.2.2.2.2.1, B.2.2.2.2.2.2.2)
abbrev bs_place (B : BT) (f : Nat → Int32) : BT := (B.1, B.2.1, B.2.2.1, f, B.2.2.2.2.1, B.2.2.2.2.2.1, B.2.2.2.2.2.2.1, B.2.2.2.2.2.2.2)
abbrev bs_heading (B : BT) (f : Nat → Int32) : BT := (B.1, B.2.1, B.2.2.1, B.2.2.2.1, f, B.2.2.2.2.2.1, B.2.2.2.2.2.2.1, B.2.2.2.2.2.2.2)
abbrev bs_helped (B : BT) (f : Nat → Int32) : BT := (B.1, B.2.1, B.2.2.1, B.2.2.2.1, B.2.2.2.2.1, f, B.2.2.2.2.2.2.1, B.2.2.2.2.2.2.2)
abbrev bs_people (B : BT) (v : Int32) : BT := (B.1, B.2.1, B.2.2.1, B.2.2.2.1, B.2.2.2.2.1, B.2.2.2.2.2.1, v, B.2.2.2.2.2.2.2)
abbrev bs_step (B : BT) (v : Int32) : BT := (B.1, B.2.1, B.2.2.1, B.2.2.2.1, B.2.2.2.2.1, B.2.2.2.2.2.1, B.2.2.2.2.2.2.1, v)
/-- the cells of a bath: the object, its six rows -/
abbrev zb_B (cI : ClassId) (b0 b1 b2 b3 b4 b5 b6 : Nat) (B : BT) : va_W := [(b0, .inr (0, [.ref b1, .ref b2, .ref b3, .ref b4, .ref b5, .ref b6, .int (bt_people B), .int (bt_step B)])), (b1, .inl (cI, 30, .inl (bt_kind B))), (b2, .inl (cI, 30, .inl (bt_figure B))), (b3, .inl (cI, 30, .inl (bt_wet B))), (b4, .inl (cI, 4, .inl (bt_place B))), (b5, .inl (cI, 4, .inl (bt_heading B))), (b6, .inl (cI, 4, .inl (bt_helped B)))]
/-- two baths side by side -/
abbrev zb_BB (cI : ClassId) (b0 b1 b2 b3 b4 b5 b6 c0 c1 c2 c3 c4 c5 c6 : Nat) (B C : BT) : va_W := [(b0, .inr (0, [.ref b1, .ref b2, .ref b3, .ref b4, .ref b5, .ref b6, .int (bt_people B), .int (bt_step B)])), (b1, .inl (cI, 30, .inl (bt_kind B))), (b2, .inl (cI, 30, .inl (bt_figure B))), (b3, .inl (cI, 30, .inl (bt_wet B))), (b4, .inl (cI, 4, .inl (bt_place B))), (b5, .inl (cI, 4, .inl (bt_heading B))), (b6, .inl (cI, 4, .inl (bt_helped B))),
  (c0, .inr (0, [.ref c1, .ref c2, .ref c3, .ref c4, .ref c5, .ref c6, .int (bt_people C), .int (bt_step C)])), (c1, .inl (cI, 30, .inl (bt_kind C))), (c2, .inl (cI, 30, .inl (bt_figure C))), (c3, .inl (cI, 30, .inl (bt_wet C))), (c4, .inl (cI, 4, .inl (bt_place C))), (c5, .inl (cI, 4, .inl (bt_heading C))), (c6, .inl (cI, 4, .inl (bt_helped C)))]
/-- the cells of the class -/
abbrev zb_G (cI : ClassId) (ad : Nat → Nat) (now mind taken : BT) (isTaken : Int32) (letters : Nat → Int32) (letterCount : Int32) (told : Nat → Int32) (toldCount : Int32) (refusals costs gains : Nat → Int32) (seed : Int32) : va_W :=
  [(ad 0, .inr (1, [.ref (ad 1), .ref (ad 8), .ref (ad 15), .int isTaken, .ref (ad 22), .int letterCount, .ref (ad 23), .int toldCount, .ref (ad 24), .ref (ad 25), .ref (ad 26), .int seed])),
   (ad 1, .inr (0, [.ref (ad 2), .ref (ad 3), .ref (ad 4), .ref (ad 5), .ref (ad 6), .ref (ad 7), .int (bt_people now), .int (bt_step now)])), (ad 2, .inl (cI, 30, .inl (bt_kind now))), (ad 3, .inl (cI, 30, .inl (bt_figure now))), (ad 4, .inl (cI, 30, .inl (bt_wet now))), (ad 5, .inl (cI, 4, .inl (bt_place now))), (ad 6, .inl (cI, 4, .inl (bt_heading now))), (ad 7, .inl (cI, 4, .inl (bt_helped now))),
   (ad 8, .inr (0, [.ref (ad 9), .ref (ad 10), .ref (ad 11), .ref (ad 12), .ref (ad 13), .ref (ad 14), .int (bt_people mind), .int (bt_step mind)])), (ad 9, .inl (cI, 30, .inl (bt_kind mind))), (ad 10, .inl (cI, 30, .inl (bt_figure mind))), (ad 11, .inl (cI, 30, .inl (bt_wet mind))), (ad 12, .inl (cI, 4, .inl (bt_place mind))), (ad 13, .inl (cI, 4, .inl (bt_heading mind))), (ad 14, .inl (cI, 4, .inl (bt_helped mind))),
   (ad 15, .inr (0, [.ref (ad 16), .ref (ad 17), .ref (ad 18), .ref (ad 19), .ref (ad 20), .ref (ad 21), .int (bt_people taken), .int (bt_step taken)])), (ad 16, .inl (cI, 30, .inl (bt_kind taken))), (ad 17, .inl (cI, 30, .inl (bt_figure taken))), (ad 18, .inl (cI, 30, .inl (bt_wet taken))), (ad 19, .inl (cI, 4, .inl (bt_place taken))), (ad 20, .inl (cI, 4, .inl (bt_heading taken))), (ad 21, .inl (cI, 4, .inl (bt_helped taken))),
   (ad 22, .inl (cI, 96, .inl letters)), (ad 23, .inl (cI, 16, .inl told)), (ad 24, .inl (cI, 6, .inl refusals)), (ad 25, .inl (cI, 30, .inl costs)), (ad 26, .inl (cI, 8, .inl gains))]
/-- the cells of the reference -/
abbrev zb_M (cI : ClassId) (ad : Nat → Nat) (s m image was : Nat → Int32) (hasImage : Int32) (letters row refused : Nat → Int32) (letterMany rowMany place : Int32) (numbers cost : Nat → Int32) (seed : Int32) : va_W :=
  [(ad 0, .inr (2, [.ref (ad 1), .ref (ad 2), .ref (ad 3), .ref (ad 4), .int hasImage, .ref (ad 5), .ref (ad 6), .ref (ad 7), .int letterMany, .int rowMany, .int place, .ref (ad 8), .ref (ad 9), .int seed])),
   (ad 1, .inl (cI, 105, .inl s)), (ad 2, .inl (cI, 105, .inl m)), (ad 3, .inl (cI, 105, .inl image)), (ad 4, .inl (cI, 105, .inl was)), (ad 5, .inl (cI, 96, .inl letters)), (ad 6, .inl (cI, 16, .inl row)), (ad 7, .inl (cI, 7, .inl refused)), (ad 8, .inl (cI, 3, .inl numbers)), (ad 9, .inl (cI, 30, .inl cost))]
abbrev zb_A (cI : ClassId) (a : Nat) (r : Nat → Int32) : va_W := [(a, .inl (cI, 105, .inl r))]
abbrev zb_AA (cI : ClassId) (a b : Nat) (r q : Nat → Int32) : va_W := [(a, .inl (cI, 105, .inl r)), (b, .inl (cI, 105, .inl q))]
/-- the classes, the rows of ints, the two links of nest mates -/
def zb_K (D : va_G) (cI : ClassId) (U : State) : Prop := va_K D zb_cl [(cI, .int)] U ∧ va_Nw (.methodLinkNest RX0 49 yX1_isNode "GroutingIsFollowed") U ∧ va_Nw (.methodLinkNest RX0 83 yX1_nodeThatWay "GroutingIsFollowed") U
theorem zb_K.warm {D : va_G} {cI : ClassId} {s U : State} (hW : s.WarmedH U.vm) (h : zb_K D cI s) : zb_K D cI U := ⟨va_K.moved hW.alike h.1, va_Nw.warmM hW h.2.1, va_Nw.warmM hW h.2.2⟩
theorem zb_K.same {D : va_G} {cI : ClassId} {u U : State} (e : u.vm = U.vm) (h : zb_K D cI u) : zb_K D cI U := ⟨va_K.moved (by rw [e]; exact Vm.Alike.refl U.vm) h.1, va_Nw.same rfl e h.2.1, va_Nw.same rfl e h.2.2⟩
/-- a contract: called with av over the cells wc, the method answers rv and leaves w1, nothing else changed, nothing new -/
def Cn (l : Launch) (D : va_G) (cI : ClassId) (y : MethodName) (ws : List Cond) (rm : Room) (av : List Value) (wc : va_W) (rv : Option Value) (w1 : va_W) : Prop :=
  ∀ sz : Nat, Met l y ws rm (va_Pc av (fun U => U.heap.size = sz ∧ va_P D zb_cl wc U.heap ∧ zb_K D cI U ∧ va_D (fun _ => True) wc)) (fun _ st oc t => (oc = .returned rv ∧ va_P D zb_cl w1 t.heap) ∧ va_F (va_A wc sz) st t) 0 0 (va_A wc sz)
theorem zb_blind {D : va_G} {cI : ClassId} {av : List Value} {wc : va_W} {sz : Nat} : FrameBlind (va_Pc av (fun U => U.heap.size = sz ∧ va_P D zb_cl wc U.heap ∧ zb_K D cI U ∧ va_D (fun _ => True) wc)) := by
  intro a U g mk h
  obtain ⟨q0, q1, qP, qK, qD⟩ := h
  exact ⟨q0, q1, qP, zb_K.same (u := U) (U := U.calling g mk a) rfl qK, qD⟩
/-- the callee's cells wc lie in ws; where they have become w1, ws has become ws2 -/
def zb_Cut (ws wc w1 ws2 : va_W) : Prop := ∃ isC : List Nat, va_nd isC = true ∧ isC.map (fun i => ws[i]?) = wc.map some ∧ ws2.map (fun q => q.1) = ws.map (fun q => q.1) ∧ ∀ (k : Nat) (q : Nat × va_E), ws2[k]? = some q → q ∈ w1 ∨ (k ∉ isC ∧ ws[k]? = some q)
theorem zb_at {is : List Nat} {ws w : va_W} (hs : is.map (fun i => ws[i]?) = w.map some) {k : Nat} {q : Nat × va_E} (hq : w[k]? = some q) : ∃ i, is[k]? = some i ∧ ws[i]? = some q := by
  have h1 : (is.map (fun i => ws[i]?))[k]? = some (some q) := by rw [hs, List.getElem?_map, hq]; rfl
  rw [List.getElem?_map] at h1
  cases hi : is[k]? with
  | none => rw [hi] at h1; cases h1
  | some i => rw [hi] at h1; exact ⟨i, rfl, Option.some.inj h1⟩
theorem zb_dmap {A : Nat → Prop} {ws ws2 : va_W} (h : ws2.map (fun q => q.1) = ws.map (fun q => q.1)) (hD : va_D A ws) : va_D A ws2 := by
  have key : ∀ (k : Nat) (q : Nat × va_E), ws2[k]? = some q → ∃ e, ws[k]? = some (q.1, e) := by
    intro k q hq
    have h1 : (ws2.map (fun q => q.1))[k]? = some q.1 := by rw [List.getElem?_map, hq]; rfl
    rw [h, List.getElem?_map] at h1
    cases hw : ws[k]? with
    | none => rw [hw] at h1; cases h1
    | some p =>
      rw [hw] at h1
      have e : p.1 = q.1 := Option.some.inj h1
      exact ⟨p.2, by rw [← e]⟩
  refine ⟨fun i j p q hp hq e => ?_, fun k q hq => ?_⟩
  · obtain ⟨e1, h1⟩ := key i p hp
    obtain ⟨e2, h2⟩ := key j q hq
    exact hD.1 i j _ _ h1 h2 e
  · obtain ⟨e1, h1⟩ := key k q hq
    exact hD.2 k (q.1, e1) h1
theorem zb_sub {D : va_G} {cl : List vw_C} {ws wc : va_W} {H : Heap} {is : List Nat} (hs : is.map (fun i => ws[i]?) = wc.map some) (hP : va_P D cl ws H) : va_P D cl wc H := by
  intro k q hq
  obtain ⟨i, -, h⟩ := zb_at hs hq
  exact hP i q h
theorem zb_join {A0 : Nat → Prop} {D : va_G} {cl : List vw_C} {ws wc w1 ws2 : va_W} {H H1 : Heap} (cut : zb_Cut ws wc w1 ws2) (hP : va_P D cl ws H) (hD : va_D A0 ws) (hk : ∀ q : Nat, q < H.size → ¬ va_A wc H.size q → H1[q]? = H[q]?) (hP1 : va_P D cl w1 H1) : va_P D cl ws2 H1 ∧ va_D A0 ws2 := by
  obtain ⟨isC, -, hC, hm, hr⟩ := cut
  refine ⟨fun k q hq => ?_, zb_dmap hm hD⟩
  rcases hr k q hq with h | ⟨h1, h2⟩
  · obtain ⟨j, hj⟩ := List.getElem?_of_mem h
    exact hP1 j q hj
  · have ha := hP k q h2
    have hlt := ha.lt
    refine ha.kept (hk q.1 hlt ?_)
    rintro (⟨j, e, hj⟩ | h)
    · obtain ⟨i, hi, hw⟩ := zb_at hC hj
      have : i = k := hD.1 i k _ _ hw h2 rfl
      subst this
      exact h1 (List.mem_of_getElem? hi)
    · exact absurd hlt (Nat.not_lt.mpr h)
theorem zb_all {ws w1 : va_W} (h : w1.map (fun q => q.1) = ws.map (fun q => q.1)) (hn : va_nd (List.range ws.length) = true) : zb_Cut ws ws w1 w1 := by
  refine ⟨List.range ws.length, hn, ?_, h, fun k q hq => Or.inl (List.mem_of_getElem? hq)⟩
  apply List.ext_getElem?
  intro i
  rw [List.getElem?_map, List.getElem?_map]
  by_cases hi : i < ws.length
  · rw [List.getElem?_range hi, List.getElem?_eq_getElem hi]
    simp
  · rw [List.getElem?_eq_none (by simpa using hi), List.getElem?_eq_none (by simpa using hi)]
    rfl
theorem zb_none (ws : va_W) : zb_Cut ws [] [] ws := ⟨[], rfl, rfl, rfl, fun k q hq => Or.inr ⟨by simp, hq⟩⟩
theorem zb_cut {ws wc w1 ws2 : va_W} (isC : List Nat) (pl : List (Option Nat)) (hn : va_nd isC = true) (hC : isC.map (fun i => ws[i]?) = wc.map some) (hm : ws2.map (fun q => q.1) = ws.map (fun q => q.1)) (hp : ws2.map some = pl.zipIdx.map (fun o => match o.1 with | none => ws[o.2]? | some j => w1[j]?)) (hd : ∀ k, k < pl.length → pl[k]? = some none → k ∉ isC) : zb_Cut ws wc w1 ws2 := by
  refine ⟨isC, hn, hC, hm, fun k q hq => ?_⟩
  have h1 : (ws2.map some)[k]? = some (some q) := by rw [List.getElem?_map, hq]; rfl
  rw [hp, List.getElem?_map, List.getElem?_zipIdx] at h1
  cases ho : pl[k]? with
  | none => rw [ho] at h1; cases h1
  | some o =>
    rw [ho] at h1
    have h2 := Option.some.inj h1
    cases o with
    | none =>
      refine Or.inr ⟨hd k (List.getElem?_eq_some_iff.mp ho).1 ho, ?_⟩
      simpa using h2
    | some j => exact Or.inl (List.mem_of_getElem? (by simpa using h2))
abbrev zb_Q (below : List Frame) (D : va_G) (rv : Option Value) (w1 : va_W) (A : Nat → Prop) (args : Array Value) (s : State) : State → Prop := MQ below (fun _ st oc t => (oc = .returned rv ∧ va_P D zb_cl w1 t.heap) ∧ va_F A st t) args s 0 0 A
section ZBW
variable {p : Program} {l : Launch} {e : Env} {R : Room} {s : State} {m : MethodId} {args : Array Value} {below : List Frame} {meth : Method} {c : Code} {H : Heap} {locs : List Loc} {cells slots : Nat} {Q : State → Prop}
variable {D : va_G} {cI : ClassId} {pc : Nat} {ls : Array Slot} {rest st0 : List Value} {A0 : Nat → Prop} {H0 : Heap} {ws wc w1 ws2 : va_W} {rv : Option Value}
theorem zb_go {mc ms : Nat} (hr : va_Run p l e R s m args below meth c H locs cells slots mc ms (F0 m pc ls st0) rest (fun st oc t => (oc = .returned rv ∧ va_P D zb_cl w1 t.heap) ∧ va_F (va_A wc H.size) st t) (va_A wc H.size)) (cut : zb_Cut ws wc w1 ws2) (hP : va_P D zb_cl ws H) (hD : va_D A0 ws) (hS : va_S A0 H0 H locs) (hA : ∀ q, H0.size ≤ q → A0 q)
    (kk : ∀ (H1 : Heap) (locs1 : List Loc), va_P D zb_cl ws2 H1 → va_D A0 ws2 → va_S A0 H0 H1 locs1 → W p l e R s m args below meth c H1 locs1 (cells + mc) (slots + ms) Q (F0 m (pc + 3) ls (rv.toList ++ rest))) : W p l e R s m args below meth c H locs cells slots Q (F0 m pc ls st0) := by
  have hf : ∀ q, va_A wc H.size q → A0 q := by
    obtain ⟨isC, -, hC, -, -⟩ := cut
    exact va_free hD hS hA isC hC
  intro T hT X
  obtain ⟨v, st₀, t, T', L, h0, X', hL, e1, e2, ⟨⟨hv, hp⟩, hz, hk⟩, st⟩ := hr T hT X
  cases hv
  rw [h0] at hz hk
  obtain ⟨hP2, hD2⟩ := zb_join cut hP hD (H1 := t.heap) (fun q h1 h2 => hk q h1 h2) hp
  obtain ⟨t2, a1, b1⟩ := kk t.heap (locs ++ L) hP2 hD2
    ⟨Nat.le_trans hS.1 hz, fun q h1 h2 => by rw [hk q (Nat.lt_of_lt_of_le h1 hS.1) (fun z => h2 (hf q z))]; exact hS.2.1 q h1 h2, fun q hq => by
      rcases List.mem_append.mp hq with h | h
      · exact hS.2.2 q h
      · exact hf _ (hL q h)⟩ T' e1 X'
  exact ⟨t2, st t2 a1, b1⟩
variable {y : MethodName} {bytes cc : ByteArray} {maxL nL n index : Nat} {ret : Option FieldType} {wsC Ts : List Cond} {rm : Room} {own C host : String} {b : Addr} {As : List Value}
theorem zb_callV (S : CallFix p m c cc nL s args Ts own) (hC : Cn l D cI y wsC rm (.ref b :: As) wc rv w1) (cw : CallW R s args own C index y bytes maxL ret wsC rm 0 0 n) (hK : zb_K D cI s) (hP : va_P D zb_cl ws H) (hD : va_D A0 ws) (hS : va_S A0 H0 H locs) (hA : ∀ q, H0.size ≤ q → A0 q) (cut : zb_Cut ws wc w1 ws2)
    {ci q0 : Nat} {T : u_T} {N : Nat} {fs : List Value} (hc : zb_cl[ci]? = some (C, T, N)) (he : wc[q0]? = some (b, .inr (ci, fs))) (hn : As.length = n) (hsize : ls.size = nL) (hst : st0 = As.reverse ++ .ref b :: rest) (hw : (rest.map fun v => v.category).sum ≤ 8) (hdg : decode cc pc = .ok (.invokevirtual index, 3)) (hf : cells ≤ R.cells ∧ slots ≤ R.slots)
    (kk : ∀ (H1 : Heap) (locs1 : List Loc), va_P D zb_cl ws2 H1 → va_D A0 ws2 → va_S A0 H0 H1 locs1 → W p l e R s m args below meth c H1 locs1 cells slots Q (F0 m (pc + 3) ls (rv.toList ++ rest))) : W p l e R s m args below meth c H locs cells slots Q (F0 m pc ls st0) := by
  have hcut := cut
  obtain ⟨isC, hnd, hCm, -, -⟩ := hcut
  have hPc : va_P D zb_cl wc H := zb_sub hCm hP
  have hDc : va_D A0 wc := hD.sub isC hnd hCm
  exact zb_go (va_runV S (hC H.size) cw ⟨zb_blind, va_recv hK.1 hPc hc he, fun U hU hW => ⟨rfl, by rw [hU], by rw [hU]; exact hPc, hK.warm hW, hDc.weaken (fun _ _ _ _ => trivial)⟩⟩ rfl hn hsize hst (lv_room hw) hdg hf) cut hP hD hS hA kk
theorem zb_callS (S : CallFix p m c cc nL s args Ts own) (hC : Cn l D cI y wsC rm As wc rv w1) (cw : CallB R s args own index y bytes maxL ret wsC rm 0 0 n ∧ (Cond.static y).before args s = true) (hK : zb_K D cI s) (hP : va_P D zb_cl ws H) (hD : va_D A0 ws) (hS : va_S A0 H0 H locs) (hA : ∀ q, H0.size ≤ q → A0 q) (cut : zb_Cut ws wc w1 ws2)
    (hn : As.length = n) (hsize : ls.size = nL) (hst : st0 = As.reverse ++ rest) (hw : (rest.map fun v => v.category).sum ≤ 8) (hdg : decode cc pc = .ok (.invokestatic index, 3)) (hf : cells ≤ R.cells ∧ slots ≤ R.slots)
    (kk : ∀ (H1 : Heap) (locs1 : List Loc), va_P D zb_cl ws2 H1 → va_D A0 ws2 → va_S A0 H0 H1 locs1 → W p l e R s m args below meth c H1 locs1 cells slots Q (F0 m (pc + 3) ls (rv.toList ++ rest))) : W p l e R s m args below meth c H locs cells slots Q (F0 m pc ls st0) := by
  have hcut := cut
  obtain ⟨isC, hnd, hCm, -, -⟩ := hcut
  have hPc : va_P D zb_cl wc H := zb_sub hCm hP
  have hDc : va_D A0 wc := hD.sub isC hnd hCm
  exact zb_go (va_runS S (hC H.size) cw ⟨zb_blind, fun U hU hW => ⟨rfl, by rw [hU], by rw [hU]; exact hPc, hK.warm hW, hDc.weaken (fun _ _ _ _ => trivial)⟩⟩ rfl hn hsize hst (lv_room hw) hdg hf) cut hP hD hS hA kk
theorem zb_callSN (S : CallFix p m c cc nL s args Ts own) (hC : Cn l D cI y wsC rm As wc rv w1) (cw : va_CN R s args own index y host bytes maxL ret wsC rm 0 0 n ∧ (Cond.static y).before args s = true ∧ True) (hK : zb_K D cI s) (hP : va_P D zb_cl ws H) (hD : va_D A0 ws) (hS : va_S A0 H0 H locs) (hA : ∀ q, H0.size ≤ q → A0 q) (cut : zb_Cut ws wc w1 ws2)
    (hn : As.length = n) (hsize : ls.size = nL) (hst : st0 = As.reverse ++ rest) (hw : (rest.map fun v => v.category).sum ≤ 8) (hdg : decode cc pc = .ok (.invokestatic index, 3)) (hf : cells ≤ R.cells ∧ slots ≤ R.slots)
    (kk : ∀ (H1 : Heap) (locs1 : List Loc), va_P D zb_cl ws2 H1 → va_D A0 ws2 → va_S A0 H0 H1 locs1 → W p l e R s m args below meth c H1 locs1 cells slots Q (F0 m (pc + 3) ls (rv.toList ++ rest))) : W p l e R s m args below meth c H locs cells slots Q (F0 m pc ls st0) := by
  have hcut := cut
  obtain ⟨isC, hnd, hCm, -, -⟩ := hcut
  have hPc : va_P D zb_cl wc H := zb_sub hCm hP
  have hDc : va_D A0 wc := hD.sub isC hnd hCm
  exact zb_go (va_runSN S (hC H.size) cw ⟨zb_blind, fun U hU hW => ⟨rfl, by rw [hU], by rw [hU]; exact hPc, hK.warm hW, hDc.weaken (fun _ _ _ _ => trivial)⟩⟩ rfl hn hsize hst (lv_room hw) hdg hf) cut hP hD hS hA kk
theorem zb_ofW {ws' : List Cond} {av : List Value} (hy : plainName y.cls = true) (hw : wsC = Cond.code y cc maxL ret :: ws') (hlen : (lg_sl av).length ≤ maxL)
    (body : ∀ (p : Program) (e : Env) (s : State) (m : MethodId) (args : Array Value) (below : List Frame) (meth : Method) (c : Code) (A : Nat → Prop) (ls : Array Slot), p.tables.exec = Jvm.exec → c.code = cc → meth.sig.returnType = ret → c.maxLocals = maxL → (∀ w ∈ wsC, w.before args s = true) → s.vm.findClass y.cls = some m.cls → meth.locks = false → zb_K D cI s → va_P D zb_cl wc s.heap → va_D A wc → (∀ q, s.heap.size ≤ q → A q) → lv_has ls maxL (lv_args 0 av) →
      W p l e rm s m args below meth c s.heap [] 0 0 (zb_Q below D rv w1 A args s) (F0 m 0 ls [])) : Cn l D cI y wsC rm av wc rv w1 := by
  intro sz
  refine Met.ofW (cc := cc) (maxL := maxL) (ret := ret) hy hw ?_
  intro p e s m args below meth c s₁ B hml hv
  obtain ⟨rfl, hsz, hP, hK, hD0⟩ := hv
  have hts := atoms_spec (ws := wsC) B.pre
  have hown : s.vm.findClass y.cls = some m.cls := findClass_of_methodNamed B.named
  subst hsz
  have hD := hD0.self (sz := s.heap.size)
  have hA : ∀ q : Nat, s.heap.size ≤ q → va_A wc s.heap.size q := fun q h => Or.inr h
  have hl := lv_entry av (n := maxL) hlen
  rw [lg_entry_eq]
  exact body p e s m av.toArray below meth c _ _ B.exec B.bytes B.returns hml hts hown B.notSynchronized hK hP hD hA hl
variable {A : Nat → Prop}
theorem zb_iret {v : Int32} (hexec : p.tables.exec = Jvm.exec) (hb : c.code = cc) (hr : meth.sig.returnType = some .int) (hlocks : meth.locks = false) (hP : va_P D zb_cl w1 H) (hS : va_S A s.heap H locs) (hdg : decode cc pc = .ok (.ireturn, 1)) : W p l e R s m args below meth c H locs 0 0 (zb_Q below D (some (.int v)) w1 A args s) (F0 m pc ls [.int v]) :=
  W.iret hexec hb hr (fun t ht _ => ⟨⟨rfl, by rw [ht]; exact hP⟩, hS.F ht⟩) hS.2.2 hdg hlocks
theorem zb_zret {v : Int32} {ty : FieldType} (hexec : p.tables.exec = Jvm.exec) (hb : c.code = cc) (hr : meth.sig.returnType = some ty) (hlocks : meth.locks = false) (hn : narrow ty (.int v) = .int v) (hP : va_P D zb_cl w1 H) (hS : va_S A s.heap H locs) (hdg : decode cc pc = .ok (.ireturn, 1)) : W p l e R s m args below meth c H locs 0 0 (zb_Q below D (some (.int v)) w1 A args s) (F0 m pc ls [.int v]) :=
  W.zret hexec hb hr hn (fun t ht _ => ⟨⟨rfl, by rw [ht]; exact hP⟩, hS.F ht⟩) hS.2.2 hdg hlocks
theorem zb_lret {v : Int64} (hexec : p.tables.exec = Jvm.exec) (hb : c.code = cc) (hr : meth.sig.returnType = some .long) (hlocks : meth.locks = false) (hP : va_P D zb_cl w1 H) (hS : va_S A s.heap H locs) (hdg : decode cc pc = .ok (.lreturn, 1)) : W p l e R s m args below meth c H locs 0 0 (zb_Q below D (some (.long v)) w1 A args s) (F0 m pc ls [.long v]) :=
  W.lret hexec hb hr (fun t ht _ => ⟨⟨rfl, by rw [ht]; exact hP⟩, hS.F ht⟩) hS.2.2 hdg hlocks
theorem zb_vret (hexec : p.tables.exec = Jvm.exec) (hb : c.code = cc) (hr : meth.sig.returnType = none) (hlocks : meth.locks = false) (hP : va_P D zb_cl w1 H) (hS : va_S A s.heap H locs) (hdg : decode cc pc = .ok (.return_, 1)) : W p l e R s m args below meth c H locs 0 0 (zb_Q below D none w1 A args s) (F0 m pc ls []) :=
  W.vret hexec hb hr (fun t ht _ => ⟨⟨rfl, by rw [ht]; exact hP⟩, hS.F ht⟩) hS.2.2 hdg hlocks
end ZBW
/-! the functions' words: branches, calls, loops -/
theorem it_t {c : Prop} [Decidable c] {α : Type} {A B o : α} (hc : c) (h : (if c then A else B) = o) : A = o := by rw [if_pos hc] at h; exact h
theorem it_f {c : Prop} [Decidable c] {α : Type} {A B o : α} (hc : ¬ c) (h : (if c then A else B) = o) : B = o := by rw [if_neg hc] at h; exact h
theorem it_g {i : Int32} {n : Nat} {α : Type} {A : Option α} {o : α} (h : (if i < 0 ∨ n ≤ i.toNatClampNeg then none else A) = some o) : vp_in i n ∧ A = some o := by
  by_cases hc : i < 0 ∨ n ≤ i.toNatClampNeg
  · rw [if_pos hc] at h; cases h
  · rw [if_neg hc] at h; exact ⟨hc, h⟩
theorem it_n {c : Prop} [Decidable c] {α : Type} {A : Option α} {o : α} (h : (if c then none else A) = some o) : ¬ c ∧ A = some o := by
  by_cases hc : c
  · rw [if_pos hc] at h; cases h
  · rw [if_neg hc] at h; exact ⟨hc, h⟩
def bd1 {a ρ : Type} (f : Option a) (k : a → Option ρ) : Option ρ := match f with | none => none | some x => k x
def bd2 {a b ρ : Type} (f : Option (a × b)) (k : a → b → Option ρ) : Option ρ := match f with | none => none | some x => k x.1 x.2
def bd3 {a b c ρ : Type} (f : Option (a × b × c)) (k : a → b → c → Option ρ) : Option ρ := match f with | none => none | some x => k x.1 x.2.1 x.2.2
def bd4 {a b c d ρ : Type} (f : Option (a × b × c × d)) (k : a → b → c → d → Option ρ) : Option ρ := match f with | none => none | some x => k x.1 x.2.1 x.2.2.1 x.2.2.2
def bd5 {a b c d e ρ : Type} (f : Option (a × b × c × d × e)) (k : a → b → c → d → e → Option ρ) : Option ρ := match f with | none => none | some x => k x.1 x.2.1 x.2.2.1 x.2.2.2.1 x.2.2.2.2
def bd6 {a b c d e g ρ : Type} (f : Option (a × b × c × d × e × g)) (k : a → b → c → d → e → g → Option ρ) : Option ρ := match f with | none => none | some x => k x.1 x.2.1 x.2.2.1 x.2.2.2.1 x.2.2.2.2.1 x.2.2.2.2.2
theorem bo1 {a ρ : Type} {f : Option a} {k : a → Option ρ} {o : ρ} (h : bd1 f k = some o) : ∃ x, f = some x ∧ k x = some o := by
  cases f with
  | none => cases h
  | some x => exact ⟨x, rfl, h⟩
theorem bo2 {a b ρ : Type} {f : Option (a × b)} {k : a → b → Option ρ} {o : ρ} (h : bd2 f k = some o) : ∃ x y, f = some (x, y) ∧ k x y = some o := by
  cases f with
  | none => cases h
  | some x => exact ⟨_, _, rfl, h⟩
theorem bo3 {a b c ρ : Type} {f : Option (a × b × c)} {k : a → b → c → Option ρ} {o : ρ} (h : bd3 f k = some o) : ∃ x y z, f = some (x, y, z) ∧ k x y z = some o := by
  cases f with
  | none => cases h
  | some x => exact ⟨_, _, _, rfl, h⟩
theorem bo4 {a b c d ρ : Type} {f : Option (a × b × c × d)} {k : a → b → c → d → Option ρ} {o : ρ} (h : bd4 f k = some o) : ∃ x y z w, f = some (x, y, z, w) ∧ k x y z w = some o := by
  cases f with
  | none => cases h
  | some x => exact ⟨_, _, _, _, rfl, h⟩
theorem bo5 {a b c d e ρ : Type} {f : Option (a × b × c × d × e)} {k : a → b → c → d → e → Option ρ} {o : ρ} (h : bd5 f k = some o) : ∃ x y z w v, f = some (x, y, z, w, v) ∧ k x y z w v = some o := by
  cases f with
  | none => cases h
  | some x => exact ⟨_, _, _, _, _, rfl, h⟩
theorem bo6 {a b c d e g ρ : Type} {f : Option (a × b × c × d × e × g)} {k : a → b → c → d → e → g → Option ρ} {o : ρ} (h : bd6 f k = some o) : ∃ x y z w v u, f = some (x, y, z, w, v, u) ∧ k x y z w v u = some o := by
  cases f with
  | none => cases h
  | some x => exact ⟨_, _, _, _, _, _, rfl, h⟩
theorem re1 {a : Type} {x x' : a} (h : some x = some x') : x = x' := Option.some.inj h
theorem re2 {a : Type} {b : Type} {x x' : a} {y y' : b} (h : some (x, y) = some (x', y')) : x = x' ∧ y = y' := by cases h; exact ⟨rfl, rfl⟩
theorem re3 {a : Type} {b : Type} {c : Type} {x x' : a} {y y' : b} {z z' : c} (h : some (x, y, z) = some (x', y', z')) : x = x' ∧ y = y' ∧ z = z' := by cases h; exact ⟨rfl, rfl, rfl⟩
theorem re4 {a : Type} {b : Type} {c : Type} {d : Type} {x x' : a} {y y' : b} {z z' : c} {w w' : d} (h : some (x, y, z, w) = some (x', y', z', w')) : x = x' ∧ y = y' ∧ z = z' ∧ w = w' := by cases h; exact ⟨rfl, rfl, rfl, rfl⟩
theorem re5 {a : Type} {b : Type} {c : Type} {d : Type} {e : Type} {x x' : a} {y y' : b} {z z' : c} {w w' : d} {v v' : e} (h : some (x, y, z, w, v) = some (x', y', z', w', v')) : x = x' ∧ y = y' ∧ z = z' ∧ w = w' ∧ v = v' := by cases h; exact ⟨rfl, rfl, rfl, rfl, rfl⟩
theorem re6 {a : Type} {b : Type} {c : Type} {d : Type} {e : Type} {g : Type} {x x' : a} {y y' : b} {z z' : c} {w w' : d} {v v' : e} {u u' : g} (h : some (x, y, z, w, v, u) = some (x', y', z', w', v', u')) : x = x' ∧ y = y' ∧ z = z' ∧ w = w' ∧ v = v' ∧ u = u' := by cases h; exact ⟨rfl, rfl, rfl, rfl, rfl, rfl⟩
def zb_FU : Nat := 4096
def zl1 {a ρ : Type} (b : (a → Option ρ) → a → Option ρ) : Nat → a → Option ρ
  | 0 => fun _ => none
  | n + 1 => fun x => b (zl1 b n) x
def zl2 {a1 a2 ρ : Type} (b : (a1 → a2 → Option ρ) → a1 → a2 → Option ρ) : Nat → a1 → a2 → Option ρ
  | 0 => fun _ _ => none
  | n + 1 => fun x y => b (zl2 b n) x y
def zl3 {a1 a2 a3 ρ : Type} (b : (a1 → a2 → a3 → Option ρ) → a1 → a2 → a3 → Option ρ) : Nat → a1 → a2 → a3 → Option ρ
  | 0 => fun _ _ _ => none
  | n + 1 => fun x y z => b (zl3 b n) x y z
def zl4 {a1 a2 a3 a4 ρ : Type} (b : (a1 → a2 → a3 → a4 → Option ρ) → a1 → a2 → a3 → a4 → Option ρ) : Nat → a1 → a2 → a3 → a4 → Option ρ
  | 0 => fun _ _ _ _ => none
  | n + 1 => fun x y z w => b (zl4 b n) x y z w
def zl5 {a1 a2 a3 a4 a5 ρ : Type} (b : (a1 → a2 → a3 → a4 → a5 → Option ρ) → a1 → a2 → a3 → a4 → a5 → Option ρ) : Nat → a1 → a2 → a3 → a4 → a5 → Option ρ
  | 0 => fun _ _ _ _ _ => none
  | n + 1 => fun x y z w v => b (zl5 b n) x y z w v
def zl6 {a1 a2 a3 a4 a5 a6 ρ : Type} (b : (a1 → a2 → a3 → a4 → a5 → a6 → Option ρ) → a1 → a2 → a3 → a4 → a5 → a6 → Option ρ) : Nat → a1 → a2 → a3 → a4 → a5 → a6 → Option ρ
  | 0 => fun _ _ _ _ _ _ => none
  | n + 1 => fun x y z w v u => b (zl6 b n) x y z w v u
/-! switches, small facts -/
theorem sw_ne {x v : Int32} {k : Int} (hv : v.toInt = k) (h : ¬ x = v) : ¬ x.toInt = k := fun q => h (Int32.toInt_inj.mp (q.trans hv.symm))
theorem vl_in {i : Int32} {n : Nat} (h : decide (¬ (i < 0 ∨ n ≤ i.toNatClampNeg)) = true) : vp_in i n := (of_decide_eq_true h : ¬ (i < 0 ∨ n ≤ i.toNatClampNeg))
theorem it_z {v : Int32} {α : Type} {A : Option α} {o : α} (h : (if v = 0 ∨ v = 1 then A else none) = some o) : narrow .boolean (.int v) = .int v ∧ A = some o := by
  by_cases hc : v = 0 ∨ v = 1
  · rw [if_pos hc] at h
    refine ⟨?_, h⟩
    rcases hc with rfl | rfl <;> rfl
  · rw [if_neg hc] at h; cases h
theorem zb_no {α : Type} {x : α} {P : Prop} (h : (none : Option α) = some x) : P := by cases h
theorem sw_at {x : Int32} {k : Int} {v : Int32} (h : x = v) (hv : v.toInt = k) : x.toInt = k := by rw [h]; exact hv
/-! where a callee's cells lie in the caller's -/
abbrev jr (x y : Int32) : Int32 := x - x / y * y
abbrev jrL (x y : Int64) : Int64 := x - x / y * y
abbrev zb_A30 (cI : ClassId) (a : Nat) (r : Nat → Int32) : va_W := [(a, .inl (cI, 30, .inl r))]
theorem zb_sB {cI : ClassId} {b0 b1 b2 b3 b4 b5 b6 : Nat} {B C : BT} : zb_Cut (zb_B cI b0 b1 b2 b3 b4 b5 b6 B) (zb_B cI b0 b1 b2 b3 b4 b5 b6 B) (zb_B cI b0 b1 b2 b3 b4 b5 b6 C) (zb_B cI b0 b1 b2 b3 b4 b5 b6 C) := zb_all rfl rfl
theorem zb_sG {cI : ClassId} {ad : Nat → Nat} {g_now : BT} {g_mind : BT} {g_taken : BT} {g_isTaken : Int32} {g_letters : (Nat → Int32)} {g_letterCount : Int32} {g_told : (Nat → Int32)} {g_toldCount : Int32} {g_refusals : (Nat → Int32)} {g_costs : (Nat → Int32)} {g_gains : (Nat → Int32)} {g_seed : Int32} {g_now' : BT} {g_mind' : BT} {g_taken' : BT} {g_isTaken' : Int32} {g_letters' : (Nat → Int32)} {g_letterCount' : Int32} {g_told' : (Nat → Int32)} {g_toldCount' : Int32} {g_refusals' : (Nat → Int32)} {g_costs' : (Nat → Int32)} {g_gains' : (Nat → Int32)} {g_seed' : Int32} : zb_Cut (zb_G cI ad g_now g_mind g_taken g_isTaken g_letters g_letterCount g_told g_toldCount g_refusals g_costs g_gains g_seed) (zb_G cI ad g_now g_mind g_taken g_isTaken g_letters g_letterCount g_told g_toldCount g_refusals g_costs g_gains g_seed) (zb_G cI ad g_now' g_mind' g_taken' g_isTaken' g_letters' g_letterCount' g_told' g_toldCount' g_refusals' g_costs' g_gains' g_seed') (zb_G cI ad g_now' g_mind' g_taken' g_isTaken' g_letters' g_letterCount' g_told' g_toldCount' g_refusals' g_costs' g_gains' g_seed') := zb_all rfl rfl
theorem zb_sM {cI : ClassId} {ad : Nat → Nat} {m_s : (Nat → Int32)} {m_m : (Nat → Int32)} {m_image : (Nat → Int32)} {m_was : (Nat → Int32)} {m_hasImage : Int32} {m_letters : (Nat → Int32)} {m_row : (Nat → Int32)} {m_refused : (Nat → Int32)} {m_letterMany : Int32} {m_rowMany : Int32} {m_place : Int32} {m_numbers : (Nat → Int32)} {m_cost : (Nat → Int32)} {m_seed : Int32} {m_s' : (Nat → Int32)} {m_m' : (Nat → Int32)} {m_image' : (Nat → Int32)} {m_was' : (Nat → Int32)} {m_hasImage' : Int32} {m_letters' : (Nat → Int32)} {m_row' : (Nat → Int32)} {m_refused' : (Nat → Int32)} {m_letterMany' : Int32} {m_rowMany' : Int32} {m_place' : Int32} {m_numbers' : (Nat → Int32)} {m_cost' : (Nat → Int32)} {m_seed' : Int32} : zb_Cut (zb_M cI ad m_s m_m m_image m_was m_hasImage m_letters m_row m_refused m_letterMany m_rowMany m_place m_numbers m_cost m_seed) (zb_M cI ad m_s m_m m_image m_was m_hasImage m_letters m_row m_refused m_letterMany m_rowMany m_place m_numbers m_cost m_seed) (zb_M cI ad m_s' m_m' m_image' m_was' m_hasImage' m_letters' m_row' m_refused' m_letterMany' m_rowMany' m_place' m_numbers' m_cost' m_seed') (zb_M cI ad m_s' m_m' m_image' m_was' m_hasImage' m_letters' m_row' m_refused' m_letterMany' m_rowMany' m_place' m_numbers' m_cost' m_seed') := zb_all rfl rfl
set_option maxRecDepth 20000 in
theorem zb_cGn {cI : ClassId} {ad : Nat → Nat} {g_now : BT} {g_mind : BT} {g_taken : BT} {g_isTaken : Int32} {g_letters : (Nat → Int32)} {g_letterCount : Int32} {g_told : (Nat → Int32)} {g_toldCount : Int32} {g_refusals : (Nat → Int32)} {g_costs : (Nat → Int32)} {g_gains : (Nat → Int32)} {g_seed : Int32} {g_now' : BT} : zb_Cut (zb_G cI ad g_now g_mind g_taken g_isTaken g_letters g_letterCount g_told g_toldCount g_refusals g_costs g_gains g_seed) (zb_B cI (ad 1) (ad 2) (ad 3) (ad 4) (ad 5) (ad 6) (ad 7) g_now) (zb_B cI (ad 1) (ad 2) (ad 3) (ad 4) (ad 5) (ad 6) (ad 7) g_now') (zb_G cI ad g_now' g_mind g_taken g_isTaken g_letters g_letterCount g_told g_toldCount g_refusals g_costs g_gains g_seed) := zb_cut [1, 2, 3, 4, 5, 6, 7] [none, some 0, some 1, some 2, some 3, some 4, some 5, some 6, none, none, none, none, none, none, none, none, none, none, none, none, none, none, none, none, none, none, none] rfl rfl rfl rfl (by decide)
set_option maxRecDepth 20000 in
theorem zb_cGm {cI : ClassId} {ad : Nat → Nat} {g_now : BT} {g_mind : BT} {g_taken : BT} {g_isTaken : Int32} {g_letters : (Nat → Int32)} {g_letterCount : Int32} {g_told : (Nat → Int32)} {g_toldCount : Int32} {g_refusals : (Nat → Int32)} {g_costs : (Nat → Int32)} {g_gains : (Nat → Int32)} {g_seed : Int32} {g_mind' : BT} : zb_Cut (zb_G cI ad g_now g_mind g_taken g_isTaken g_letters g_letterCount g_told g_toldCount g_refusals g_costs g_gains g_seed) (zb_B cI (ad 8) (ad 9) (ad 10) (ad 11) (ad 12) (ad 13) (ad 14) g_mind) (zb_B cI (ad 8) (ad 9) (ad 10) (ad 11) (ad 12) (ad 13) (ad 14) g_mind') (zb_G cI ad g_now g_mind' g_taken g_isTaken g_letters g_letterCount g_told g_toldCount g_refusals g_costs g_gains g_seed) := zb_cut [8, 9, 10, 11, 12, 13, 14] [none, none, none, none, none, none, none, none, some 0, some 1, some 2, some 3, some 4, some 5, some 6, none, none, none, none, none, none, none, none, none, none, none, none] rfl rfl rfl rfl (by decide)
set_option maxRecDepth 20000 in
theorem zb_cGt {cI : ClassId} {ad : Nat → Nat} {g_now : BT} {g_mind : BT} {g_taken : BT} {g_isTaken : Int32} {g_letters : (Nat → Int32)} {g_letterCount : Int32} {g_told : (Nat → Int32)} {g_toldCount : Int32} {g_refusals : (Nat → Int32)} {g_costs : (Nat → Int32)} {g_gains : (Nat → Int32)} {g_seed : Int32} {g_taken' : BT} : zb_Cut (zb_G cI ad g_now g_mind g_taken g_isTaken g_letters g_letterCount g_told g_toldCount g_refusals g_costs g_gains g_seed) (zb_B cI (ad 15) (ad 16) (ad 17) (ad 18) (ad 19) (ad 20) (ad 21) g_taken) (zb_B cI (ad 15) (ad 16) (ad 17) (ad 18) (ad 19) (ad 20) (ad 21) g_taken') (zb_G cI ad g_now g_mind g_taken' g_isTaken g_letters g_letterCount g_told g_toldCount g_refusals g_costs g_gains g_seed) := zb_cut [15, 16, 17, 18, 19, 20, 21] [none, none, none, none, none, none, none, none, none, none, none, none, none, none, none, some 0, some 1, some 2, some 3, some 4, some 5, some 6, none, none, none, none, none] rfl rfl rfl rfl (by decide)
set_option maxRecDepth 20000 in
theorem zb_cGmn {cI : ClassId} {ad : Nat → Nat} {g_now : BT} {g_mind : BT} {g_taken : BT} {g_isTaken : Int32} {g_letters : (Nat → Int32)} {g_letterCount : Int32} {g_told : (Nat → Int32)} {g_toldCount : Int32} {g_refusals : (Nat → Int32)} {g_costs : (Nat → Int32)} {g_gains : (Nat → Int32)} {g_seed : Int32} {g_mind' : BT} : zb_Cut (zb_G cI ad g_now g_mind g_taken g_isTaken g_letters g_letterCount g_told g_toldCount g_refusals g_costs g_gains g_seed) (zb_BB cI (ad 8) (ad 9) (ad 10) (ad 11) (ad 12) (ad 13) (ad 14) (ad 1) (ad 2) (ad 3) (ad 4) (ad 5) (ad 6) (ad 7) g_mind g_now) (zb_BB cI (ad 8) (ad 9) (ad 10) (ad 11) (ad 12) (ad 13) (ad 14) (ad 1) (ad 2) (ad 3) (ad 4) (ad 5) (ad 6) (ad 7) g_mind' g_now) (zb_G cI ad g_now g_mind' g_taken g_isTaken g_letters g_letterCount g_told g_toldCount g_refusals g_costs g_gains g_seed) := zb_cut [8, 9, 10, 11, 12, 13, 14, 1, 2, 3, 4, 5, 6, 7] [none, some 7, some 8, some 9, some 10, some 11, some 12, some 13, some 0, some 1, some 2, some 3, some 4, some 5, some 6, none, none, none, none, none, none, none, none, none, none, none, none] rfl rfl rfl rfl (by decide)
set_option maxRecDepth 20000 in
theorem zb_cGnm {cI : ClassId} {ad : Nat → Nat} {g_now : BT} {g_mind : BT} {g_taken : BT} {g_isTaken : Int32} {g_letters : (Nat → Int32)} {g_letterCount : Int32} {g_told : (Nat → Int32)} {g_toldCount : Int32} {g_refusals : (Nat → Int32)} {g_costs : (Nat → Int32)} {g_gains : (Nat → Int32)} {g_seed : Int32} {g_now' : BT} : zb_Cut (zb_G cI ad g_now g_mind g_taken g_isTaken g_letters g_letterCount g_told g_toldCount g_refusals g_costs g_gains g_seed) (zb_BB cI (ad 1) (ad 2) (ad 3) (ad 4) (ad 5) (ad 6) (ad 7) (ad 8) (ad 9) (ad 10) (ad 11) (ad 12) (ad 13) (ad 14) g_now g_mind) (zb_BB cI (ad 1) (ad 2) (ad 3) (ad 4) (ad 5) (ad 6) (ad 7) (ad 8) (ad 9) (ad 10) (ad 11) (ad 12) (ad 13) (ad 14) g_now' g_mind) (zb_G cI ad g_now' g_mind g_taken g_isTaken g_letters g_letterCount g_told g_toldCount g_refusals g_costs g_gains g_seed) := zb_cut [1, 2, 3, 4, 5, 6, 7, 8, 9, 10, 11, 12, 13, 14] [none, some 0, some 1, some 2, some 3, some 4, some 5, some 6, some 7, some 8, some 9, some 10, some 11, some 12, some 13, none, none, none, none, none, none, none, none, none, none, none, none] rfl rfl rfl rfl (by decide)
set_option maxRecDepth 20000 in
theorem zb_cGtn {cI : ClassId} {ad : Nat → Nat} {g_now : BT} {g_mind : BT} {g_taken : BT} {g_isTaken : Int32} {g_letters : (Nat → Int32)} {g_letterCount : Int32} {g_told : (Nat → Int32)} {g_toldCount : Int32} {g_refusals : (Nat → Int32)} {g_costs : (Nat → Int32)} {g_gains : (Nat → Int32)} {g_seed : Int32} {g_taken' : BT} : zb_Cut (zb_G cI ad g_now g_mind g_taken g_isTaken g_letters g_letterCount g_told g_toldCount g_refusals g_costs g_gains g_seed) (zb_BB cI (ad 15) (ad 16) (ad 17) (ad 18) (ad 19) (ad 20) (ad 21) (ad 1) (ad 2) (ad 3) (ad 4) (ad 5) (ad 6) (ad 7) g_taken g_now) (zb_BB cI (ad 15) (ad 16) (ad 17) (ad 18) (ad 19) (ad 20) (ad 21) (ad 1) (ad 2) (ad 3) (ad 4) (ad 5) (ad 6) (ad 7) g_taken' g_now) (zb_G cI ad g_now g_mind g_taken' g_isTaken g_letters g_letterCount g_told g_toldCount g_refusals g_costs g_gains g_seed) := zb_cut [15, 16, 17, 18, 19, 20, 21, 1, 2, 3, 4, 5, 6, 7] [none, some 7, some 8, some 9, some 10, some 11, some 12, some 13, none, none, none, none, none, none, none, some 0, some 1, some 2, some 3, some 4, some 5, some 6, none, none, none, none, none] rfl rfl rfl rfl (by decide)
set_option maxRecDepth 20000 in
theorem zb_cGnt {cI : ClassId} {ad : Nat → Nat} {g_now : BT} {g_mind : BT} {g_taken : BT} {g_isTaken : Int32} {g_letters : (Nat → Int32)} {g_letterCount : Int32} {g_told : (Nat → Int32)} {g_toldCount : Int32} {g_refusals : (Nat → Int32)} {g_costs : (Nat → Int32)} {g_gains : (Nat → Int32)} {g_seed : Int32} {g_now' : BT} : zb_Cut (zb_G cI ad g_now g_mind g_taken g_isTaken g_letters g_letterCount g_told g_toldCount g_refusals g_costs g_gains g_seed) (zb_BB cI (ad 1) (ad 2) (ad 3) (ad 4) (ad 5) (ad 6) (ad 7) (ad 15) (ad 16) (ad 17) (ad 18) (ad 19) (ad 20) (ad 21) g_now g_taken) (zb_BB cI (ad 1) (ad 2) (ad 3) (ad 4) (ad 5) (ad 6) (ad 7) (ad 15) (ad 16) (ad 17) (ad 18) (ad 19) (ad 20) (ad 21) g_now' g_taken) (zb_G cI ad g_now' g_mind g_taken g_isTaken g_letters g_letterCount g_told g_toldCount g_refusals g_costs g_gains g_seed) := zb_cut [1, 2, 3, 4, 5, 6, 7, 15, 16, 17, 18, 19, 20, 21] [none, some 0, some 1, some 2, some 3, some 4, some 5, some 6, none, none, none, none, none, none, none, some 7, some 8, some 9, some 10, some 11, some 12, some 13, none, none, none, none, none] rfl rfl rfl rfl (by decide)
set_option maxRecDepth 20000 in
theorem zb_cGc {cI : ClassId} {ad : Nat → Nat} {g_now : BT} {g_mind : BT} {g_taken : BT} {g_isTaken : Int32} {g_letters : (Nat → Int32)} {g_letterCount : Int32} {g_told : (Nat → Int32)} {g_toldCount : Int32} {g_refusals : (Nat → Int32)} {g_costs : (Nat → Int32)} {g_gains : (Nat → Int32)} {g_seed : Int32} {g_costs' : (Nat → Int32)} : zb_Cut (zb_G cI ad g_now g_mind g_taken g_isTaken g_letters g_letterCount g_told g_toldCount g_refusals g_costs g_gains g_seed) (zb_A30 cI (ad 25) g_costs) (zb_A30 cI (ad 25) g_costs') (zb_G cI ad g_now g_mind g_taken g_isTaken g_letters g_letterCount g_told g_toldCount g_refusals g_costs' g_gains g_seed) := zb_cut [25] [none, none, none, none, none, none, none, none, none, none, none, none, none, none, none, none, none, none, none, none, none, none, none, none, none, some 0, none] rfl rfl rfl rfl (by decide)
set_option maxRecDepth 20000 in
theorem zb_cM_s {cI : ClassId} {ad : Nat → Nat} {m_s : (Nat → Int32)} {m_m : (Nat → Int32)} {m_image : (Nat → Int32)} {m_was : (Nat → Int32)} {m_hasImage : Int32} {m_letters : (Nat → Int32)} {m_row : (Nat → Int32)} {m_refused : (Nat → Int32)} {m_letterMany : Int32} {m_rowMany : Int32} {m_place : Int32} {m_numbers : (Nat → Int32)} {m_cost : (Nat → Int32)} {m_seed : Int32} {m_s' : (Nat → Int32)} : zb_Cut (zb_M cI ad m_s m_m m_image m_was m_hasImage m_letters m_row m_refused m_letterMany m_rowMany m_place m_numbers m_cost m_seed) (zb_A cI (ad 1) m_s) (zb_A cI (ad 1) m_s') (zb_M cI ad m_s' m_m m_image m_was m_hasImage m_letters m_row m_refused m_letterMany m_rowMany m_place m_numbers m_cost m_seed) := zb_cut [1] [none, some 0, none, none, none, none, none, none, none, none] rfl rfl rfl rfl (by decide)
set_option maxRecDepth 20000 in
theorem zb_cM_m {cI : ClassId} {ad : Nat → Nat} {m_s : (Nat → Int32)} {m_m : (Nat → Int32)} {m_image : (Nat → Int32)} {m_was : (Nat → Int32)} {m_hasImage : Int32} {m_letters : (Nat → Int32)} {m_row : (Nat → Int32)} {m_refused : (Nat → Int32)} {m_letterMany : Int32} {m_rowMany : Int32} {m_place : Int32} {m_numbers : (Nat → Int32)} {m_cost : (Nat → Int32)} {m_seed : Int32} {m_m' : (Nat → Int32)} : zb_Cut (zb_M cI ad m_s m_m m_image m_was m_hasImage m_letters m_row m_refused m_letterMany m_rowMany m_place m_numbers m_cost m_seed) (zb_A cI (ad 2) m_m) (zb_A cI (ad 2) m_m') (zb_M cI ad m_s m_m' m_image m_was m_hasImage m_letters m_row m_refused m_letterMany m_rowMany m_place m_numbers m_cost m_seed) := zb_cut [2] [none, none, some 0, none, none, none, none, none, none, none] rfl rfl rfl rfl (by decide)
set_option maxRecDepth 20000 in
theorem zb_cM_s_m {cI : ClassId} {ad : Nat → Nat} {m_s : (Nat → Int32)} {m_m : (Nat → Int32)} {m_image : (Nat → Int32)} {m_was : (Nat → Int32)} {m_hasImage : Int32} {m_letters : (Nat → Int32)} {m_row : (Nat → Int32)} {m_refused : (Nat → Int32)} {m_letterMany : Int32} {m_rowMany : Int32} {m_place : Int32} {m_numbers : (Nat → Int32)} {m_cost : (Nat → Int32)} {m_seed : Int32} {m_m' : (Nat → Int32)} : zb_Cut (zb_M cI ad m_s m_m m_image m_was m_hasImage m_letters m_row m_refused m_letterMany m_rowMany m_place m_numbers m_cost m_seed) (zb_AA cI (ad 1) (ad 2) m_s m_m) (zb_AA cI (ad 1) (ad 2) m_s m_m') (zb_M cI ad m_s m_m' m_image m_was m_hasImage m_letters m_row m_refused m_letterMany m_rowMany m_place m_numbers m_cost m_seed) := zb_cut [1, 2] [none, some 0, some 1, none, none, none, none, none, none, none] rfl rfl rfl rfl (by decide)
set_option maxRecDepth 20000 in
theorem zb_cM_s_was {cI : ClassId} {ad : Nat → Nat} {m_s : (Nat → Int32)} {m_m : (Nat → Int32)} {m_image : (Nat → Int32)} {m_was : (Nat → Int32)} {m_hasImage : Int32} {m_letters : (Nat → Int32)} {m_row : (Nat → Int32)} {m_refused : (Nat → Int32)} {m_letterMany : Int32} {m_rowMany : Int32} {m_place : Int32} {m_numbers : (Nat → Int32)} {m_cost : (Nat → Int32)} {m_seed : Int32} {m_was' : (Nat → Int32)} : zb_Cut (zb_M cI ad m_s m_m m_image m_was m_hasImage m_letters m_row m_refused m_letterMany m_rowMany m_place m_numbers m_cost m_seed) (zb_AA cI (ad 1) (ad 4) m_s m_was) (zb_AA cI (ad 1) (ad 4) m_s m_was') (zb_M cI ad m_s m_m m_image m_was' m_hasImage m_letters m_row m_refused m_letterMany m_rowMany m_place m_numbers m_cost m_seed) := zb_cut [1, 4] [none, some 0, none, none, some 1, none, none, none, none, none] rfl rfl rfl rfl (by decide)
set_option maxRecDepth 20000 in
theorem zb_cM_was_s {cI : ClassId} {ad : Nat → Nat} {m_s : (Nat → Int32)} {m_m : (Nat → Int32)} {m_image : (Nat → Int32)} {m_was : (Nat → Int32)} {m_hasImage : Int32} {m_letters : (Nat → Int32)} {m_row : (Nat → Int32)} {m_refused : (Nat → Int32)} {m_letterMany : Int32} {m_rowMany : Int32} {m_place : Int32} {m_numbers : (Nat → Int32)} {m_cost : (Nat → Int32)} {m_seed : Int32} {m_s' : (Nat → Int32)} : zb_Cut (zb_M cI ad m_s m_m m_image m_was m_hasImage m_letters m_row m_refused m_letterMany m_rowMany m_place m_numbers m_cost m_seed) (zb_AA cI (ad 4) (ad 1) m_was m_s) (zb_AA cI (ad 4) (ad 1) m_was m_s') (zb_M cI ad m_s' m_m m_image m_was m_hasImage m_letters m_row m_refused m_letterMany m_rowMany m_place m_numbers m_cost m_seed) := zb_cut [4, 1] [none, some 1, none, none, some 0, none, none, none, none, none] rfl rfl rfl rfl (by decide)
set_option maxRecDepth 20000 in
theorem zb_cM_s_image {cI : ClassId} {ad : Nat → Nat} {m_s : (Nat → Int32)} {m_m : (Nat → Int32)} {m_image : (Nat → Int32)} {m_was : (Nat → Int32)} {m_hasImage : Int32} {m_letters : (Nat → Int32)} {m_row : (Nat → Int32)} {m_refused : (Nat → Int32)} {m_letterMany : Int32} {m_rowMany : Int32} {m_place : Int32} {m_numbers : (Nat → Int32)} {m_cost : (Nat → Int32)} {m_seed : Int32} {m_image' : (Nat → Int32)} : zb_Cut (zb_M cI ad m_s m_m m_image m_was m_hasImage m_letters m_row m_refused m_letterMany m_rowMany m_place m_numbers m_cost m_seed) (zb_AA cI (ad 1) (ad 3) m_s m_image) (zb_AA cI (ad 1) (ad 3) m_s m_image') (zb_M cI ad m_s m_m m_image' m_was m_hasImage m_letters m_row m_refused m_letterMany m_rowMany m_place m_numbers m_cost m_seed) := zb_cut [1, 3] [none, some 0, none, some 1, none, none, none, none, none, none] rfl rfl rfl rfl (by decide)
set_option maxRecDepth 20000 in
theorem zb_cM_image_s {cI : ClassId} {ad : Nat → Nat} {m_s : (Nat → Int32)} {m_m : (Nat → Int32)} {m_image : (Nat → Int32)} {m_was : (Nat → Int32)} {m_hasImage : Int32} {m_letters : (Nat → Int32)} {m_row : (Nat → Int32)} {m_refused : (Nat → Int32)} {m_letterMany : Int32} {m_rowMany : Int32} {m_place : Int32} {m_numbers : (Nat → Int32)} {m_cost : (Nat → Int32)} {m_seed : Int32} {m_s' : (Nat → Int32)} : zb_Cut (zb_M cI ad m_s m_m m_image m_was m_hasImage m_letters m_row m_refused m_letterMany m_rowMany m_place m_numbers m_cost m_seed) (zb_AA cI (ad 3) (ad 1) m_image m_s) (zb_AA cI (ad 3) (ad 1) m_image m_s') (zb_M cI ad m_s' m_m m_image m_was m_hasImage m_letters m_row m_refused m_letterMany m_rowMany m_place m_numbers m_cost m_seed) := zb_cut [3, 1] [none, some 1, none, some 0, none, none, none, none, none, none] rfl rfl rfl rfl (by decide)
/-! the texts: five constants, their letters; contracts that need them -/
def zs_len : List Nat := [5, 4, 3, 0, 6]
def zs_byt : List (List Int32) := [[100, 100, 107, 100, 59], [100, 100, 100, 59], [100, 100, 59], [], [115, 108, 114, 99, 98, 121]]
abbrev zs_L (k : Nat) : Int32 := Int32.ofNat (zs_len.getD k 0)
abbrev zs_C (k j : Nat) : Int32 := (zs_byt.getD k []).getD j 0
def zb_E (aK aV : Nat → Nat) (A : Nat → Prop) (U : State) (H : Heap) : Prop :=
  vk_S 5 zs_len zs_byt aK aV A U H ∧ va_Z "java/lang/String" "COMPACT_STRINGS" "Z" (.int 1) A U H ∧ va_Zq "jdk/internal/util/Preconditions" "SIOOBE_FORMATTER" "Ljava/util/function/BiFunction;" A U H ∧ vk_R RX1 225 "ddkd;" (aK 0) U ∧ vk_R RX1 227 "ddd;" (aK 1) U ∧ vk_R RX1 229 "dd;" (aK 2) U ∧ vk_R RX1 231 "" (aK 3) U ∧ vk_R RX1 236 "slrcby" (aK 4) U
theorem zb_E.kept {aK aV : Nat → Nat} {A : Nat → Prop} {U : State} {H H1 : Heap} (h : zb_E aK aV A U H) (hq : ∀ a : Nat, a < H.size → ¬ A a → H1[a]? = H[a]?) : zb_E aK aV A U H1 := ⟨h.1.kept hq, h.2.1.kept hq, h.2.2.1.kept hq, h.2.2.2⟩
theorem zb_E.narrow {aK aV : Nat → Nat} {A B : Nat → Prop} {U : State} {H : Heap} (h : zb_E aK aV A U H) (hAB : ∀ q, B q → A q) : zb_E aK aV B U H := ⟨h.1.narrow hAB, h.2.1.narrow hAB, h.2.2.1.narrow hAB, h.2.2.2⟩
theorem zb_E.warm {aK aV : Nat → Nat} {A : Nat → Prop} {s U : State} {H : Heap} (hW : s.WarmedH U.vm) (h : zb_E aK aV A s H) : zb_E aK aV A U H := ⟨vk_S.moved hW.alike h.1, va_Z.moved hW.alike h.2.1, va_Zq.moved hW.alike h.2.2.1, h.2.2.2.1.warm hW, h.2.2.2.2.1.warm hW, h.2.2.2.2.2.1.warm hW, h.2.2.2.2.2.2.1.warm hW, h.2.2.2.2.2.2.2.warm hW⟩
theorem zb_E.same {aK aV : Nat → Nat} {A : Nat → Prop} {u U : State} {H : Heap} (e : U.vm = u.vm) (h : zb_E aK aV A u H) : zb_E aK aV A U H := ⟨vk_S.moved (by rw [← e]; exact Vm.Alike.refl U.vm) h.1, va_Z.moved (by rw [← e]; exact Vm.Alike.refl U.vm) h.2.1, va_Zq.moved (by rw [← e]; exact Vm.Alike.refl U.vm) h.2.2.1, h.2.2.2.1.same e, h.2.2.2.2.1.same e, h.2.2.2.2.2.1.same e, h.2.2.2.2.2.2.1.same e, h.2.2.2.2.2.2.2.same e⟩
def CnE (l : Launch) (D : va_G) (cI : ClassId) (aK aV : Nat → Nat) (y : MethodName) (ws : List Cond) (rm : Room) (av : List Value) (wc : va_W) (rv : Option Value) (w1 : va_W) : Prop :=
  ∀ sz : Nat, Met l y ws rm (va_Pc av (fun U => U.heap.size = sz ∧ va_P D zb_cl wc U.heap ∧ zb_K D cI U ∧ va_D (fun _ => True) wc ∧ zb_E aK aV (va_A wc sz) U U.heap)) (fun _ st oc t => (oc = .returned rv ∧ va_P D zb_cl w1 t.heap) ∧ va_F (va_A wc sz) st t) 0 0 (va_A wc sz)
theorem zb_blindE {D : va_G} {cI : ClassId} {aK aV : Nat → Nat} {av : List Value} {wc : va_W} {sz : Nat} : FrameBlind (va_Pc av (fun U => U.heap.size = sz ∧ va_P D zb_cl wc U.heap ∧ zb_K D cI U ∧ va_D (fun _ => True) wc ∧ zb_E aK aV (va_A wc sz) U U.heap)) := by
  intro a U g mk h
  obtain ⟨q0, q1, qP, qK, qD, qE⟩ := h
  exact ⟨q0, q1, qP, zb_K.same (u := U) (U := U.calling g mk a) rfl qK, qD, zb_E.same (u := U) (U := U.calling g mk a) rfl qE⟩
section ZBE
variable {p : Program} {l : Launch} {e : Env} {R : Room} {s : State} {m : MethodId} {args : Array Value} {below : List Frame} {meth : Method} {c : Code} {H : Heap} {locs : List Loc} {cells slots : Nat} {Q : State → Prop}
variable {D : va_G} {cI : ClassId} {aK aV : Nat → Nat} {pc : Nat} {ls : Array Slot} {rest st0 : List Value} {A0 : Nat → Prop} {ws wc w1 ws2 : va_W} {rv : Option Value}
variable {y : MethodName} {bytes cc : ByteArray} {maxL nL n index : Nat} {ret : Option FieldType} {wsC Ts : List Cond} {rm : Room} {own C host : String} {b : Addr} {As : List Value}
theorem zb_Eat (hE : zb_E aK aV A0 s s.heap) (hD : va_D A0 ws) (hS : va_S A0 s.heap H locs) (hA : ∀ q, s.heap.size ≤ q → A0 q) (cut : zb_Cut ws wc w1 ws2) : zb_E aK aV (va_A wc H.size) s H := by
  obtain ⟨isC, -, hC, -, -⟩ := cut
  exact (hE.kept hS.2.1).narrow (va_free hD hS hA isC hC)
theorem zb_callVE (S : CallFix p m c cc nL s args Ts own) (hC : CnE l D cI aK aV y wsC rm (.ref b :: As) wc rv w1) (cw : CallW R s args own C index y bytes maxL ret wsC rm 0 0 n) (hK : zb_K D cI s) (hE : zb_E aK aV A0 s s.heap) (hP : va_P D zb_cl ws H) (hD : va_D A0 ws) (hS : va_S A0 s.heap H locs) (hA : ∀ q, s.heap.size ≤ q → A0 q) (cut : zb_Cut ws wc w1 ws2)
    {ci q0 : Nat} {T : u_T} {N : Nat} {fs : List Value} (hc : zb_cl[ci]? = some (C, T, N)) (he : wc[q0]? = some (b, .inr (ci, fs))) (hn : As.length = n) (hsize : ls.size = nL) (hst : st0 = As.reverse ++ .ref b :: rest) (hw : (rest.map fun v => v.category).sum ≤ 8) (hdg : decode cc pc = .ok (.invokevirtual index, 3)) (hf : cells ≤ R.cells ∧ slots ≤ R.slots)
    (kk : ∀ (H1 : Heap) (locs1 : List Loc), va_P D zb_cl ws2 H1 → va_D A0 ws2 → va_S A0 s.heap H1 locs1 → W p l e R s m args below meth c H1 locs1 cells slots Q (F0 m (pc + 3) ls (rv.toList ++ rest))) : W p l e R s m args below meth c H locs cells slots Q (F0 m pc ls st0) := by
  have hcut := cut
  obtain ⟨isC, hnd, hCm, -, -⟩ := hcut
  have hPc : va_P D zb_cl wc H := zb_sub hCm hP
  have hDc : va_D A0 wc := hD.sub isC hnd hCm
  have hEc := zb_Eat hE hD hS hA cut
  exact zb_go (va_runV S (hC H.size) cw ⟨zb_blindE, va_recv hK.1 hPc hc he, fun U hU hW => ⟨rfl, by rw [hU], by rw [hU]; exact hPc, hK.warm hW, hDc.weaken (fun _ _ _ _ => trivial), by rw [hU]; exact hEc.warm hW⟩⟩ rfl hn hsize hst (lv_room hw) hdg hf) cut hP hD hS hA kk
theorem zb_callVS {k : Nat} (S : CallFix p m c cc nL s args Ts own) (hC : CnE l D cI aK aV y wsC rm (.ref (aK k) :: As) wc rv w1) (cw : CallW R s args own "java/lang/String" index y bytes maxL ret wsC rm 0 0 n) (hK : zb_K D cI s) (hE : zb_E aK aV A0 s s.heap) (hP : va_P D zb_cl ws H) (hD : va_D A0 ws) (hS : va_S A0 s.heap H locs) (hA : ∀ q, s.heap.size ≤ q → A0 q) (cut : zb_Cut ws wc w1 ws2)
    (hk : k < 5) (hn : As.length = n) (hsize : ls.size = nL) (hst : st0 = As.reverse ++ .ref (aK k) :: rest) (hw : (rest.map fun v => v.category).sum ≤ 8) (hdg : decode cc pc = .ok (.invokevirtual index, 3)) (hf : cells ≤ R.cells ∧ slots ≤ R.slots)
    (kk : ∀ (H1 : Heap) (locs1 : List Loc), va_P D zb_cl ws2 H1 → va_D A0 ws2 → va_S A0 s.heap H1 locs1 → W p l e R s m args below meth c H1 locs1 cells slots Q (F0 m (pc + 3) ls (rv.toList ++ rest))) : W p l e R s m args below meth c H locs cells slots Q (F0 m pc ls st0) := by
  have hcut := cut
  obtain ⟨isC, hnd, hCm, -, -⟩ := hcut
  have hPc : va_P D zb_cl wc H := zb_sub hCm hP
  have hDc : va_D A0 wc := hD.sub isC hnd hCm
  have hEc := zb_Eat hE hD hS hA cut
  exact zb_go (va_runV S (hC H.size) cw ⟨zb_blindE, vk_recv hE.1 hk hS, fun U hU hW => ⟨rfl, by rw [hU], by rw [hU]; exact hPc, hK.warm hW, hDc.weaken (fun _ _ _ _ => trivial), by rw [hU]; exact hEc.warm hW⟩⟩ rfl hn hsize hst (lv_room hw) hdg hf) cut hP hD hS hA kk
theorem zb_callSE (S : CallFix p m c cc nL s args Ts own) (hC : CnE l D cI aK aV y wsC rm As wc rv w1) (cw : CallB R s args own index y bytes maxL ret wsC rm 0 0 n ∧ (Cond.static y).before args s = true) (hK : zb_K D cI s) (hE : zb_E aK aV A0 s s.heap) (hP : va_P D zb_cl ws H) (hD : va_D A0 ws) (hS : va_S A0 s.heap H locs) (hA : ∀ q, s.heap.size ≤ q → A0 q) (cut : zb_Cut ws wc w1 ws2)
    (hn : As.length = n) (hsize : ls.size = nL) (hst : st0 = As.reverse ++ rest) (hw : (rest.map fun v => v.category).sum ≤ 8) (hdg : decode cc pc = .ok (.invokestatic index, 3)) (hf : cells ≤ R.cells ∧ slots ≤ R.slots)
    (kk : ∀ (H1 : Heap) (locs1 : List Loc), va_P D zb_cl ws2 H1 → va_D A0 ws2 → va_S A0 s.heap H1 locs1 → W p l e R s m args below meth c H1 locs1 cells slots Q (F0 m (pc + 3) ls (rv.toList ++ rest))) : W p l e R s m args below meth c H locs cells slots Q (F0 m pc ls st0) := by
  have hcut := cut
  obtain ⟨isC, hnd, hCm, -, -⟩ := hcut
  have hPc : va_P D zb_cl wc H := zb_sub hCm hP
  have hDc : va_D A0 wc := hD.sub isC hnd hCm
  have hEc := zb_Eat hE hD hS hA cut
  exact zb_go (va_runS S (hC H.size) cw ⟨zb_blindE, fun U hU hW => ⟨rfl, by rw [hU], by rw [hU]; exact hPc, hK.warm hW, hDc.weaken (fun _ _ _ _ => trivial), by rw [hU]; exact hEc.warm hW⟩⟩ rfl hn hsize hst (lv_room hw) hdg hf) cut hP hD hS hA kk
theorem zb_ofWE {ws' : List Cond} {av : List Value} (hy : plainName y.cls = true) (hw : wsC = Cond.code y cc maxL ret :: ws') (hlen : (lg_sl av).length ≤ maxL)
    (body : ∀ (p : Program) (e : Env) (s : State) (m : MethodId) (args : Array Value) (below : List Frame) (meth : Method) (c : Code) (A : Nat → Prop) (ls : Array Slot), p.tables.exec = Jvm.exec → c.code = cc → meth.sig.returnType = ret → c.maxLocals = maxL → (∀ w ∈ wsC, w.before args s = true) → s.vm.findClass y.cls = some m.cls → meth.locks = false → zb_K D cI s → zb_E aK aV A s s.heap → va_P D zb_cl wc s.heap → va_D A wc → (∀ q, s.heap.size ≤ q → A q) → lv_has ls maxL (lv_args 0 av) →
      W p l e rm s m args below meth c s.heap [] 0 0 (zb_Q below D rv w1 A args s) (F0 m 0 ls [])) : CnE l D cI aK aV y wsC rm av wc rv w1 := by
  intro sz
  refine Met.ofW (cc := cc) (maxL := maxL) (ret := ret) hy hw ?_
  intro p e s m args below meth c s₁ B hml hv
  obtain ⟨rfl, hsz, hP, hK, hD0, hE⟩ := hv
  have hts := atoms_spec (ws := wsC) B.pre
  have hown : s.vm.findClass y.cls = some m.cls := findClass_of_methodNamed B.named
  subst hsz
  have hD := hD0.self (sz := s.heap.size)
  have hA : ∀ q : Nat, s.heap.size ≤ q → va_A wc s.heap.size q := fun q h => Or.inr h
  have hl := lv_entry av (n := maxL) hlen
  rw [lg_entry_eq]
  exact body p e s m av.toArray below meth c _ _ B.exec B.bytes B.returns hml hts hown B.notSynchronized hK hE hP hD hA hl
variable {A : Nat → Prop}
theorem zb_aret {a : Nat} {t : String} (hexec : p.tables.exec = Jvm.exec) (hb : c.code = cc) (hr : meth.sig.returnType = some (.object t)) (hlocks : meth.locks = false) (hP : va_P D zb_cl w1 H) (hS : va_S A s.heap H locs) (hdg : decode cc pc = .ok (.areturn, 1)) : W p l e R s m args below meth c H locs 0 0 (zb_Q below D (some (.ref a)) w1 A args s) (F0 m pc ls [.ref a]) :=
  W.aret hexec hb hr (Or.inl ⟨_, rfl⟩) (Or.inr ⟨_, rfl⟩) (fun t ht _ => ⟨⟨rfl, by rw [ht]; exact hP⟩, hS.F ht⟩) hS.2.2 hdg hlocks
end ZBE
theorem it_c {v : Int32} {α : Type} {A : Option α} {o : α} (h : (if (v.toUInt32 % 65536).toInt32 = v then A else none) = some o) : narrow .char (.int v) = .int v ∧ A = some o := by
  by_cases hc : (v.toUInt32 % 65536).toInt32 = v
  · rw [if_pos hc] at h
    refine ⟨?_, h⟩
    rw [← hc]; exact pk_nc v
  · rw [if_neg hc] at h; cases h
theorem zb_rf {C n d : String} {A : Nat → Prop} {U : State} {H : Heap} (h : va_Zq C n d A U H) : ∃ r : Option Nat, va_Z C n d (va_rf r) A U H := by
  rcases h with h | ⟨t, h⟩
  · exact ⟨none, h⟩
  · exact ⟨some t, h⟩
