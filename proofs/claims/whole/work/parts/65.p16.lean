/-! the pure side, 16: letters, numbers, what a statement does -/
def LG (g m : Nat → Int32) (n : Nat) : Prop := n ≤ 96 ∧ ∀ j, j < n → g j = m j ∧ rg (g j) 256
def LE (g : Nat → Int32) (n j : Nat) : Int32 := if j < n then g j else -1
theorem la_X1 (g : Nat → Int32) {n j : Nat} (h : n ≤ 96) (hj : j < 2000) : zf_X1_letterAt g (nI n) (nI j) = some (LE g n j) := by
  rw [zf_X1_letterAt, if_neg (nI_pos (by omega)), LE]
  by_cases c : j < n
  · rw [if_neg (lim c (by omega)), if_neg (show ¬ (96 : Int32) ≤ nI j from lim (N := 96) (by omega) (by omega)), if_neg (nI_in (by omega) (by omega)), nI_clamp (by omega), if_pos c]
  · rw [if_pos (nI_le (by omega) (by omega)), if_neg c]
theorem la_X2 {g m : Nat → Int32} {n j : Nat} (h : LG g m n) (hj : j < 2000) : zf_X2_here m (nI n) (nI j) = some (LE g n j) := by
  have h1 := h.1
  rw [zf_X2_here, LE]
  by_cases c : j < n
  · rw [if_neg (lim c (by omega)), if_neg (nI_in (by omega) (by omega)), nI_clamp (by omega), if_pos c, (h.2 j c).1]
  · rw [if_pos (nI_le (by omega) (by omega)), if_neg c]
theorem LE_rg {g m : Nat → Int32} {n : Nat} (h : LG g m n) (j : Nat) : LE g n j = -1 ∨ rg (LE g n j) 256 := by
  rw [LE]
  by_cases c : j < n
  · rw [if_pos c]; exact Or.inr (h.2 j c).2
  · rw [if_neg c]; exact Or.inl rfl
theorem dig_tab : ∀ c, c < 256 → zf_X1_fits (nI c) 100 = some (if 48 ≤ c ∧ c ≤ 57 then 1 else 0) ∧ zf_X2_isIn (nI c) 48 57 = some (if 48 ≤ c ∧ c ≤ 57 then 1 else 0) := by decide +kernel
theorem dig_cases {v : Int32} (hv : v = -1 ∨ rg v 256) : (∃ d, d < 10 ∧ v = nI (48 + d) ∧ zf_X1_fits v 100 = some 1 ∧ zf_X2_isIn v 48 57 = some 1) ∨ (zf_X1_fits v 100 = some 0 ∧ zf_X2_isIn v 48 57 = some 0) := by
  rcases hv with rfl | ⟨c, hc, rfl⟩
  · exact Or.inr ⟨by decide +kernel, by decide +kernel⟩
  · obtain ⟨t1, t2⟩ := dig_tab c hc
    by_cases k : 48 ≤ c ∧ c ≤ 57
    · rw [if_pos k] at t1 t2
      exact Or.inl ⟨c - 48, by omega, by rw [show 48 + (c - 48) = c by omega], t1, t2⟩
    · rw [if_neg k] at t1 t2
      exact Or.inr ⟨t1, t2⟩
theorem semi_cases (v : Int32) : (v = 59 ∧ zf_X1_fits v 59 = some 1) ∨ (¬ v = 59 ∧ zf_X1_fits v 59 = some 0) := by
  rw [zf_X1_fits, if_neg (show ¬ (59 : Int32) = 100 from by decide), if_neg (show ¬ (59 : Int32) = 107 from by decide)]
  by_cases c : v = 59
  · rw [if_pos c]; exact Or.inl ⟨c, rfl⟩
  · rw [if_neg c]; exact Or.inr ⟨c, rfl⟩
def kc (c : Nat) : Nat := if c = 115 then 0 else if c = 108 then 1 else if c = 114 then 2 else if c = 99 then 3 else if c = 98 then 4 else if c = 121 then 5 else 6
theorem kd_tab : ∀ c, c < 256 → zf_X1_kindBy (nI c) = some (if kc c < 6 then nI (kc c) else -1) ∧ zf_X2_kindBy (nI c) = some (if kc c < 6 then nI (kc c) else -9) := by decide +kernel
theorem fits_k (v : Int32) : zf_X1_fits v 107 = bd1 (zf_X1_kindBy v) fun r1 => if r1 < 0 then some 0 else some 1 := by
  rw [zf_X1_fits, if_neg (show ¬ (107 : Int32) = 100 from by decide), if_pos rfl]
theorem kd_cases {v : Int32} (hv : v = -1 ∨ rg v 256) : (∃ k, k < 6 ∧ zf_X1_kindBy v = some (nI k) ∧ zf_X2_kindBy v = some (nI k) ∧ zf_X1_fits v 107 = some 1) ∨ (zf_X2_kindBy v = some (-9) ∧ zf_X1_fits v 107 = some 0) := by
  rw [fits_k]
  rcases hv with rfl | ⟨c, hc, rfl⟩
  · exact Or.inr ⟨by decide +kernel, by decide +kernel⟩
  · obtain ⟨t1, t2⟩ := kd_tab c hc
    by_cases k : kc c < 6
    · rw [if_pos k] at t1 t2
      exact Or.inl ⟨kc c, k, t1, t2, by rw [t1, bd1_some, if_neg (nI_pos (by omega))]⟩
    · rw [if_neg k] at t1 t2
      exact Or.inr ⟨t2, by rw [t1, bd1_some, if_pos (by decide)]⟩
/-! the forms -/
theorem form_len : zf_J0_length_8abf5 0 = some (nI 5) ∧ zf_J0_length_8abf5 1 = some (nI 4) ∧ zf_J0_length_8abf5 2 = some (nI 3) := by decide +kernel
theorem form_empty : zf_J0_isEmpty_aae02 0 = some 0 ∧ zf_J0_isEmpty_aae02 1 = some 0 ∧ zf_J0_isEmpty_aae02 2 = some 0 ∧ zf_J0_isEmpty_aae02 3 = some 1 := by decide +kernel
theorem form_0 : zf_J0_charAt_5068e 0 (nI 0) = some 100 ∧ zf_J0_charAt_5068e 0 (nI 1) = some 100 ∧ zf_J0_charAt_5068e 0 (nI 2) = some 107 ∧ zf_J0_charAt_5068e 0 (nI 3) = some 100 ∧ zf_J0_charAt_5068e 0 (nI 4) = some 59 := by decide +kernel
theorem form_1 : zf_J0_charAt_5068e 1 (nI 0) = some 100 ∧ zf_J0_charAt_5068e 1 (nI 1) = some 100 ∧ zf_J0_charAt_5068e 1 (nI 2) = some 100 ∧ zf_J0_charAt_5068e 1 (nI 3) = some 59 := by decide +kernel
theorem form_2 : zf_J0_charAt_5068e 2 (nI 0) = some 100 ∧ zf_J0_charAt_5068e 2 (nI 1) = some 100 ∧ zf_J0_charAt_5068e 2 (nI 2) = some 59 := by decide +kernel
theorem fl_1 {g : Nat → Int32} {n k len i p : Nat} {c : Int32} {rec11 : Int32 → Option Int32} {fu : Nat} (h : n ≤ 96) (hk : k < 5) (hl : zf_J0_length_8abf5 k = some (nI len)) (hi : i < len) (hlen : len < 10) (hp : p < 2000) (hc : zf_J0_charAt_5068e k (nI i) = some c) (hf : zf_X1_fits (LE g n p) c = some 1) : zl2 (zf_X1_placeAmiss_b42 rec11 k g (nI n)) (fu + 1) (nI p) (nI i) = zl2 (zf_X1_placeAmiss_b42 rec11 k g (nI n)) fu (nI (p + 1)) (nI (i + 1)) := by
  rw [zl2_s, zf_X1_placeAmiss_b42, if_neg (by omega), hl, bd1_some, if_neg (lim hi (by omega)), la_X1 g h hp, bd1_some, if_neg (by omega), hc, bd1_some, hf, bd1_some, if_neg (show ¬ (1 : Int32) = 0 from by decide), nI_1, nI_1]
theorem fl_0 {g : Nat → Int32} {n k len i p : Nat} {c : Int32} {rec11 : Int32 → Option Int32} {fu : Nat} (h : n ≤ 96) (hk : k < 5) (hl : zf_J0_length_8abf5 k = some (nI len)) (hi : i < len) (hlen : len < 10) (hp : p < 2000) (hc : zf_J0_charAt_5068e k (nI i) = some c) (hf : zf_X1_fits (LE g n p) c = some 0) : zl2 (zf_X1_placeAmiss_b42 rec11 k g (nI n)) (fu + 1) (nI p) (nI i) = some (nI p) := by
  rw [zl2_s, zf_X1_placeAmiss_b42, if_neg (by omega), hl, bd1_some, if_neg (lim hi (by omega)), la_X1 g h hp, bd1_some, if_neg (by omega), hc, bd1_some, hf, bd1_some, if_pos rfl]
theorem fl_e {g : Nat → Int32} {n k len p : Nat} {rec11 : Int32 → Option Int32} {fu : Nat} (hk : k < 5) (hl : zf_J0_length_8abf5 k = some (nI len)) : zl2 (zf_X1_placeAmiss_b42 rec11 k g (nI n)) (fu + 1) (nI p) (nI len) = rec11 (nI p) := by
  rw [zl2_s, zf_X1_placeAmiss_b42, if_neg (by omega), hl, bd1_some, if_pos (Int32.le_refl _)]
theorem am_start {g : Nat → Int32} {n k p : Nat} {rec11 : Int32 → Option Int32} (h : n ≤ 96) (hp : p < n) (hk : k < 3) (hf : zf_X1_formBehind (LE g n p) = some k) : zf_X1_placeAmiss_b11 g (nI n) rec11 (nI p) = zl2 (zf_X1_placeAmiss_b42 rec11 k g (nI n)) zb_FU (nI (p + 1)) (nI 0) := by
  have he : zf_J0_isEmpty_aae02 k = some 0 := by
    obtain ⟨e0, e1, e2, -⟩ := form_empty
    have : k = 0 ∨ k = 1 ∨ k = 2 := by omega
    rcases this with rfl | rfl | rfl
    · exact e0
    · exact e1
    · exact e2
  rw [zf_X1_placeAmiss_b11, if_neg (lim hp (by omega)), la_X1 g h (by omega), bd1_some, hf, bd1_some, if_neg (by omega), he, bd1_some, if_pos rfl, nI_1]; rfl
/-! numbers -/
theorem rs_step {g m : Nat → Int32} {n p i t idx d v : Nat} {nums : Nat → Int32} {fu : Nat} (h : LG g m n) (hp : p < 2000) (hi : i < t) (ht : t < 10) (hx : idx < 3) (hd : LE g n p = nI (48 + d)) (hd' : d < 10) (hin : zf_X2_isIn (LE g n p) 48 57 = some 1) (hn : nums idx = nI v) : zl3 (zf_X2_readsNumber_b9 (nI idx) (nI t) m (nI n)) (fu + 1) (nI i) (nI p) nums = zl3 (zf_X2_readsNumber_b9 (nI idx) (nI t) m (nI n)) fu (nI (i + 1)) (nI (p + 1)) (upd nums idx (nI (10 * v + d))) := by
  have e : ((10 : Int32) * nI v + nI (48 + d)) - 48 = nI (10 * v + d) := by
    rw [l10, pk_mul, nI_add, l48, pk_sub (by omega)]
    exact congrArg nI (by omega)
  rw [zl3_s, zf_X2_readsNumber_b9, if_neg (lim hi (by omega)), la_X2 h hp, bd1_some, hin, bd1_some, if_neg (show ¬ (1 : Int32) = 0 from by decide), if_neg (nI_in (c := idx) (N := 3) hx (by omega)), bd1_some, if_neg (nI_in (c := idx) (N := 3) hx (by omega)), nI_clamp (show idx < 2 ^ 31 by omega), hn, hd, e, nI_1, nI_1]
theorem rs_no {g m : Nat → Int32} {n p i t idx : Nat} {nums : Nat → Int32} {fu : Nat} (h : LG g m n) (hp : p < 2000) (hi : i < t) (ht : t < 10) (hin : zf_X2_isIn (LE g n p) 48 57 = some 0) : zl3 (zf_X2_readsNumber_b9 (nI idx) (nI t) m (nI n)) (fu + 1) (nI i) (nI p) nums = some (0, nI p, nums) := by
  rw [zl3_s, zf_X2_readsNumber_b9, if_neg (lim hi (by omega)), la_X2 h hp, bd1_some, hin, bd1_some, if_pos rfl]
theorem rs_end {m : Nat → Int32} {n p t idx : Nat} {nums : Nat → Int32} {fu : Nat} : zl3 (zf_X2_readsNumber_b9 (nI idx) (nI t) m (nI n)) (fu + 1) (nI t) (nI p) nums = some (1, nI p, nums) := by
  rw [zl3_s, zf_X2_readsNumber_b9, if_pos (Int32.le_refl _)]
theorem rs_start {m : Nat → Int32} {n p t idx : Nat} {nums : Nat → Int32} (hx : idx < 3) : zf_X2_readsNumber m (nI n) (nI p) nums (nI idx) (nI t) = zl3 (zf_X2_readsNumber_b9 (nI idx) (nI t) m (nI n)) zb_FU (nI 0) (nI p) (upd nums idx (nI 0)) := by
  rw [zf_X2_readsNumber, if_neg (nI_in (c := idx) (N := 3) hx (by omega)), nI_clamp (by omega)]; rfl
theorem fu3 : zb_FU = 4092 + 1 + 1 + 1 + 1 := rfl
theorem fu7 : zb_FU = 4089 + 1 + 1 + 1 + 1 + 1 + 1 + 1 := rfl
theorem rn1_ok {g m : Nat → Int32} {n p idx d : Nat} (h : LG g m n) (hp : p < 1000) (hx : idx < 3) (hd : LE g n p = nI (48 + d)) (hd' : d < 10) (hin : zf_X2_isIn (LE g n p) 48 57 = some 1) (nums : Nat → Int32) : ∃ nums', zf_X2_readsNumber m (nI n) (nI p) nums (nI idx) 1 = some (1, nI (p + 1), nums') ∧ nums' idx = nI d ∧ ∀ i, i ≠ idx → nums' i = nums i := by
  refine ⟨upd (upd nums idx (nI 0)) idx (nI (10 * 0 + d)), ?_, by rw [up_s]; exact congrArg nI (by omega), fun i hi => by rw [up_n hi, up_n hi]⟩
  rw [show (1 : Int32) = nI 1 from rfl, rs_start hx, fu3, rs_step (v := 0) h (by omega) (by omega) (by omega) hx hd hd' hin up_s, rs_end]
  rfl
theorem rn1_no {g m : Nat → Int32} {n p idx t : Nat} (h : LG g m n) (hp : p < 1000) (hx : idx < 3) (ht : 0 < t ∧ t < 10) (hin : zf_X2_isIn (LE g n p) 48 57 = some 0) (nums : Nat → Int32) : ∃ nums', zf_X2_readsNumber m (nI n) (nI p) nums (nI idx) (nI t) = some (0, nI p, nums') :=
  ⟨_, by rw [rs_start hx, fu3, rs_no h (by omega) ht.1 ht.2 hin]⟩
theorem rn2_ok {g m : Nat → Int32} {n p idx d e : Nat} (h : LG g m n) (hp : p < 1000) (hx : idx < 3) (hd : LE g n p = nI (48 + d)) (hd' : d < 10) (hin : zf_X2_isIn (LE g n p) 48 57 = some 1) (he : LE g n (p + 1) = nI (48 + e)) (he' : e < 10) (hin' : zf_X2_isIn (LE g n (p + 1)) 48 57 = some 1) (nums : Nat → Int32) : ∃ nums', zf_X2_readsNumber m (nI n) (nI p) nums (nI idx) 2 = some (1, nI (p + 1 + 1), nums') ∧ nums' idx = nI (10 * d + e) ∧ ∀ i, i ≠ idx → nums' i = nums i := by
  refine ⟨upd (upd (upd nums idx (nI 0)) idx (nI (10 * 0 + d))) idx (nI (10 * (10 * 0 + d) + e)), ?_, by rw [up_s]; exact congrArg nI (by omega), fun i hi => by rw [up_n hi, up_n hi, up_n hi]⟩
  rw [show (2 : Int32) = nI 2 from rfl, rs_start hx, fu3, rs_step (v := 0) h (by omega) (by omega) (by omega) hx hd hd' hin up_s, rs_step (v := 10 * 0 + d) h (by omega) (by omega) (by omega) hx he he' hin' up_s, rs_end]
theorem rn2_no {g m : Nat → Int32} {n p idx d : Nat} (h : LG g m n) (hp : p < 1000) (hx : idx < 3) (hd : LE g n p = nI (48 + d)) (hd' : d < 10) (hin : zf_X2_isIn (LE g n p) 48 57 = some 1) (hin' : zf_X2_isIn (LE g n (p + 1)) 48 57 = some 0) (nums : Nat → Int32) : ∃ nums', zf_X2_readsNumber m (nI n) (nI p) nums (nI idx) 2 = some (0, nI (p + 1), nums') :=
  ⟨_, by rw [show (2 : Int32) = nI 2 from rfl, rs_start hx, fu3, rs_step (v := 0) h (by omega) (by omega) (by omega) hx hd hd' hin up_s, rs_no h (by omega) (by omega) (by omega) hin']⟩
theorem t_ok {g m : Nat → Int32} {n q : Nat} (h : LG g m n) (hq : q < 1000) (he : LE g n q = 59) (nums : Nat → Int32) : zf_X2_readsStatement_j213 1 m (nI n) (nI q) nums = some (1, nI (q + 1), nums) := by
  rw [zf_X2_readsStatement_j213, if_neg (show ¬ (1 : Int32) = 0 from by decide), la_X2 h (by omega), bd1_some, if_pos he, nI_1]
theorem t_no {g m : Nat → Int32} {n q : Nat} (h : LG g m n) (hq : q < 1000) (he : ¬ LE g n q = 59) (nums : Nat → Int32) : zf_X2_readsStatement_j213 1 m (nI n) (nI q) nums = some (0, nI q, nums) := by
  rw [zf_X2_readsStatement_j213, if_neg (show ¬ (1 : Int32) = 0 from by decide), la_X2 h (by omega), bd1_some, if_neg he]
theorem t_0 (m : Nat → Int32) (n q : Int32) (nums : Nat → Int32) : zf_X2_readsStatement_j213 0 m n q nums = some (0, q, nums) := by
  rw [zf_X2_readsStatement_j213, if_pos rfl]
theorem rk_ok {g m : Nat → Int32} {n p k : Nat} (h : LG g m n) (hp : p < 1000) (hk : zf_X2_kindBy (LE g n p) = some (nI k)) (hk' : k < 6) (nums : Nat → Int32) : zf_X2_readsKind m (nI n) (nI p) nums = some (1, nI (p + 1), upd nums 1 (nI k)) := by
  rw [zf_X2_readsKind, la_X2 h (by omega), bd1_some, hk, bd1_some, cl1, up_s, if_pos (nI_pos' (by omega)), if_neg (nI_pos (by omega)), nI_1]
theorem rk_no {g m : Nat → Int32} {n p : Nat} (h : LG g m n) (hp : p < 1000) (hk : zf_X2_kindBy (LE g n p) = some (-9)) (nums : Nat → Int32) : zf_X2_readsKind m (nI n) (nI p) nums = some (0, nI p, upd nums 1 (-9)) := by
  rw [zf_X2_readsKind, la_X2 h (by omega), bd1_some, hk, bd1_some, cl1, up_s, if_neg (by decide), if_pos (by decide), Int32.add_zero]
theorem dg_X1 {g : Nat → Int32} {n p d : Nat} (h : n ≤ 96) (hp : p < 1000) (hd : LE g n p = nI (48 + d)) : zf_X1_digit g (nI n) (nI p) = some (nI d) := by
  rw [zf_X1_digit, la_X1 g h (by omega), bd1_some, hd, l48, pk_sub (by omega)]
  exact congrArg (fun x => some (nI x)) (by omega)
theorem nm_X1 {g : Nat → Int32} {n p d e : Nat} (h : n ≤ 96) (hp : p < 900) (hd : LE g n p = nI (48 + d)) (he : LE g n (p + 1) = nI (48 + e)) : zf_X1_number g (nI n) (nI p) = some (nI (10 * d + e)) := by
  rw [zf_X1_number, dg_X1 h (show p < 1000 by omega) hd, bd1_some, nI_1, dg_X1 (p := p + 1) h (by omega) he, bd1_some, l10, pk_mul, nI_add]
/-! what a statement does -/
def AC (f : Option (Int32 × BT)) (q : Option (Int32 × (Nat → Int32))) : Prop :=
  (∃ B' r', f = some (0, B') ∧ q = some (0, r')) ∨ (∃ B' r' N', f = some (1, B') ∧ q = some (1, r') ∧ N' < 5 ∧ RBN N' B' r' ∧ r' 2 = 0)
theorem ac_a {N d v : Nat} {B : BT} {r nums : Nat → Int32} (h : RBN N B r) (hN : N < 5) (h2 : r 2 = 0) (n0 : nums 0 = nI d) (n1 : nums 1 = nI v) : AC (zf_X1_tellPlace B (nI d) (nI v)) (zf_X2_isDone r nums 97) := by
  rw [zf_X1_tellPlace, zf_X2_isDone, if_pos rfl, cl0, cl1, n0, n1]
  rcases person_cases h hN (nI d) with ⟨p, hp, e, k1, k2⟩ | ⟨k1, k2⟩
  · rw [k1, k2, bd1_some, bd1_some, if_neg (show ¬ (1 : Int32) = 0 from by decide), if_neg (show ¬ (1 : Int32) = 0 from by decide)]
    rcases node_cases (nI v) with ⟨k, hk, e', w1, w2⟩ | ⟨w1, w2⟩
    · rw [w1, w2, bd1_some, bd1_some, if_neg (show ¬ (1 : Int32) = 0 from by decide), if_neg (show ¬ (1 : Int32) = 0 from by decide), e, e', putPlace_in h.1 hN hp, bd1_some, of_0, bd1_some, if_neg (nI_in (c := 93 + 3 * p) (N := 105) (by omega) (by omega)), nI_clamp (by omega)]
      exact Or.inr ⟨_, _, N, rfl, rfl, hN, RBN_place h hN hp (rg_nI hk), u2 h2 (by omega)⟩
    · rw [w1, w2, bd1_some, bd1_some, if_pos rfl, if_pos rfl]
      exact Or.inl ⟨_, _, rfl, rfl⟩
  · rw [k1, k2, bd1_some, bd1_some, if_pos rfl, if_pos rfl]
    exact Or.inl ⟨_, _, rfl, rfl⟩
theorem ac_h {N d v : Nat} {B : BT} {r nums : Nat → Int32} (h : RBN N B r) (hN : N < 5) (h2 : r 2 = 0) (n0 : nums 0 = nI d) (n1 : nums 1 = nI v) : AC (zf_X1_tellHeading B (nI d) (nI v)) (zf_X2_isDone r nums 104) := by
  rw [zf_X1_tellHeading, zf_X2_isDone, if_neg (by decide), if_pos rfl, cl0, cl1, n0, n1]
  rcases person_cases h hN (nI d) with ⟨p, hp, e, k1, k2⟩ | ⟨k1, k2⟩
  · rw [k1, k2, bd1_some, bd1_some, if_neg (show ¬ (1 : Int32) = 0 from by decide), if_neg (show ¬ (1 : Int32) = 0 from by decide)]
    rcases way_cases (nI v) with ⟨k, hk, e', w1, w2⟩ | ⟨w1, w2⟩
    · rw [w1, w2, bd1_some, bd1_some, if_neg (show ¬ (1 : Int32) = 0 from by decide), if_neg (show ¬ (1 : Int32) = 0 from by decide), e, e', putHeading_in h.1 hN hp, bd1_some, of_1, bd1_some, if_neg (nI_in (c := 94 + 3 * p) (N := 105) (by omega) (by omega)), nI_clamp (by omega)]
      exact Or.inr ⟨_, _, N, rfl, rfl, hN, RBN_heading h hN hp (rg_nI hk), u2 h2 (by omega)⟩
    · rw [w1, w2, bd1_some, bd1_some, if_pos rfl, if_pos rfl]
      exact Or.inl ⟨_, _, rfl, rfl⟩
  · rw [k1, k2, bd1_some, bd1_some, if_pos rfl, if_pos rfl]
    exact Or.inl ⟨_, _, rfl, rfl⟩
theorem ac_n {N v k f : Nat} {B : BT} {r nums : Nat → Int32} (h : RBN N B r) (hN : N < 5) (h2 : r 2 = 0) (hf : f < 10) (n0 : nums 0 = nI v) (n1 : nums 1 = nI k) (n2 : nums 2 = nI f) : AC (zf_X1_tellNode B (nI v) (nI k) (nI f)) (zf_X2_isDone r nums 110) := by
  rw [zf_X1_tellNode, zf_X2_isDone, if_neg (by decide), if_neg (by decide), if_pos rfl, cl0, cl1, cl2, n0, n1, n2]
  rcases node_cases (nI v) with ⟨a, ha, e, w1, w2⟩ | ⟨w1, w2⟩
  · have y3 : ¬ ((3 : Int32) + nI a < 0 ∨ 105 ≤ ((3 : Int32) + nI a).toNatClampNeg) := by rw [g3 ha, c3 ha]; exact fun z => z.elim id (fun z => absurd z (by omega))
    have y33 : ¬ ((33 : Int32) + nI a < 0 ∨ 105 ≤ ((33 : Int32) + nI a).toNatClampNeg) := by rw [g33 ha, c33 ha]; exact fun z => z.elim id (fun z => absurd z (by omega))
    rw [w1, w2, bd1_some, bd1_some, if_neg (show ¬ (1 : Int32) = 0 from by decide), if_neg (show ¬ (1 : Int32) = 0 from by decide), e, putKind_in ha, bd1_some, putFigure_in ha, bd1_some, if_neg y3, if_neg y33, c3 ha, c33 ha]
    exact Or.inr ⟨_, _, N, rfl, rfl, hN, RBN_figure (RBN_kind h ha) ha (rg_nI hf), u2 (u2 h2 (by omega)) (by omega)⟩
  · rw [w1, w2, bd1_some, bd1_some, if_pos rfl, if_pos rfl]
    exact Or.inl ⟨_, _, rfl, rfl⟩
theorem ac_p {N v w : Nat} {B : BT} {r nums : Nat → Int32} (h : RBN N B r) (hN : N < 5) (h2 : r 2 = 0) (n0 : nums 0 = nI v) (n1 : nums 1 = nI w) : AC (zf_X1_tellComing B (nI v) (nI w)) (zf_X2_isDone r nums 112) := by
  rw [zf_X1_tellComing, zf_X2_isDone, if_neg (by decide), if_neg (by decide), if_neg (by decide), if_pos rfl, cl0, cl1, n0, n1]
  rcases node_cases (nI v) with ⟨a, ha, e, w1, w2⟩ | ⟨w1, w2⟩
  · rw [w1, w2, bd1_some, bd1_some, if_neg (show ¬ (1 : Int32) = 0 from by decide), if_neg (show ¬ (1 : Int32) = 0 from by decide)]
    rcases way_cases (nI w) with ⟨b, hb, e', u1, u2'⟩ | ⟨u1, u2'⟩
    · rw [u1, u2', bd1_some, bd1_some, if_neg (show ¬ (1 : Int32) = 0 from by decide), if_neg (show ¬ (1 : Int32) = 0 from by decide), zf_X0_isFull, h.1, h.2.1]
      obtain ⟨q1, q2⟩ := full_eq hN
      by_cases c : N < 4
      · rw [if_pos (by rw [q1]; exact c), bd1_some, if_pos rfl, if_neg (by rw [q2]; omega), e, e']
        obtain ⟨B', r', s1, s2, s3, -, s4⟩ := add_adds h c (v := nI a) (w := nI b) (rg_nI ha) (rg_nI hb) h2
        rw [s1, s2, bd2_some, bd1_some]
        exact Or.inr ⟨_, _, N + 1, rfl, rfl, by omega, s3, s4⟩
      · rw [if_neg (by rw [q1]; exact c), bd1_some, if_neg (by decide), if_pos (by rw [q2]; omega)]
        exact Or.inl ⟨_, _, rfl, rfl⟩
    · rw [u1, u2', bd1_some, bd1_some, if_pos rfl, if_pos rfl]
      exact Or.inl ⟨_, _, rfl, rfl⟩
  · rw [w1, w2, bd1_some, bd1_some, if_pos rfl, if_pos rfl]
    exact Or.inl ⟨_, _, rfl, rfl⟩
theorem ac_w {N v f : Nat} {B : BT} {r nums : Nat → Int32} (h : RBN N B r) (hN : N < 5) (h2 : r 2 = 0) (hf : f < 10) (n0 : nums 0 = nI v) (n1 : nums 1 = nI f) : AC (zf_X1_tellWet B (nI v) (nI f)) (zf_X2_isDone r nums 119) := by
  rw [zf_X1_tellWet, zf_X2_isDone, if_neg (by decide), if_neg (by decide), if_neg (by decide), if_neg (by decide), if_pos rfl, cl0, cl1, n0, n1]
  rcases node_cases (nI v) with ⟨a, ha, e, w1, w2⟩ | ⟨w1, w2⟩
  · have y63 : ¬ ((63 : Int32) + nI a < 0 ∨ 105 ≤ ((63 : Int32) + nI a).toNatClampNeg) := by rw [g63 ha, c63 ha]; exact fun z => z.elim id (fun z => absurd z (by omega))
    rw [w1, w2, bd1_some, bd1_some, if_neg (show ¬ (1 : Int32) = 0 from by decide), if_neg (show ¬ (1 : Int32) = 0 from by decide), e, putWet_in ha, bd1_some, if_neg y63, c63 ha]
    exact Or.inr ⟨_, _, N, rfl, rfl, hN, RBN_wet h ha (rg_nI hf), u2 h2 (by omega)⟩
  · rw [w1, w2, bd1_some, bd1_some, if_pos rfl, if_pos rfl]
    exact Or.inl ⟨_, _, rfl, rfl⟩
theorem ac_s {N v : Nat} {B : BT} {r nums : Nat → Int32} (h : RBN N B r) (hN : N < 5) (h2 : r 2 = 0) (n0 : nums 0 = nI v) : AC (zf_X1_tellSteps B (nI v)) (zf_X2_isDone r nums 115) := by
  rw [zf_X1_tellSteps, zf_X2_isDone, if_neg (by decide), if_neg (by decide), if_neg (by decide), if_neg (by decide), if_neg (by decide), cl0, cl1, n0]
  rcases out_cases (nI v) 1 60 (by omega) (by omega) with ⟨j, hj1, hj, e, o⟩ | ⟨o, c1, c2⟩ | ⟨o, c1⟩
  · have o : zf_X1_outside (nI v) 1 60 = some 0 := o
    rw [o, bd1_some, if_pos rfl, e, show zf_X2_isIn (nI j) 1 60 = some 1 from isIn_in (a := 1) (n := 60) hj1 hj (by omega), bd1_some, if_neg (show ¬ (1 : Int32) = 0 from by decide), zf_X0_stepCount, bd1_some, h.2.2.2.1]
    by_cases c : r 1 + nI j ≤ 999
    · obtain ⟨B', r', f1, f2, f3, f4⟩ := goOn_n (st := 0) (n := j) h hN (SA0' h2) (by omega)
      rw [if_pos c, if_pos c, f1, f2, bd1_some, bd1_some]
      exact Or.inr ⟨_, _, N, rfl, rfl, hN, f3, f4.trans h2⟩
    · rw [if_neg c, if_neg c]
      exact Or.inl ⟨_, _, rfl, rfl⟩
  · have o : zf_X1_outside (nI v) 1 60 = some (-6) := o
    rw [o, bd1_some, if_neg (by decide), show zf_X2_isIn (nI v) 1 60 = some 0 from isIn_hi c2, bd1_some, if_pos rfl]
    exact Or.inl ⟨_, _, rfl, rfl⟩
  · have o : zf_X1_outside (nI v) 1 60 = some (-4) := o
    rw [o, bd1_some, if_neg (by decide), show zf_X2_isIn (nI v) 1 60 = some 0 from isIn_lo (Int32.not_le.mp c1), bd1_some, if_pos rfl]
    exact Or.inl ⟨_, _, rfl, rfl⟩
