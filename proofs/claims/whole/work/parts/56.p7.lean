/-! the pure side, 7: bits of a set counted -/
theorem nI_and (a b : Nat) : nI a &&& nI b = nI (a &&& b) := by
  apply Int32.toBitVec_inj.1
  show BitVec.ofNat 32 a &&& BitVec.ofNat 32 b = BitVec.ofNat 32 (a &&& b)
  apply BitVec.eq_of_getLsbD_eq
  intro i hi
  simp [hi]
theorem nI_or (a b : Nat) : nI a ||| nI b = nI (a ||| b) := by
  apply Int32.toBitVec_inj.1
  show BitVec.ofNat 32 a ||| BitVec.ofNat 32 b = BitVec.ofNat 32 (a ||| b)
  apply BitVec.eq_of_getLsbD_eq
  intro i hi
  simp [hi]
def sN (f : Nat → Nat) : Nat → Nat
  | 0 => 0
  | n + 1 => sN f n + f n
theorem sN_s (f : Nat → Nat) (n : Nat) : sN f (n + 1) = sN f n + f n := rfl
theorem sN_congr {f g : Nat → Nat} : ∀ {n : Nat}, (∀ k, k < n → f k = g k) → sN f n = sN g n
  | 0, _ => rfl
  | n + 1, h => by rw [sN_s, sN_s, sN_congr (fun k hk => h k (by omega)), h n (by omega)]
theorem sN_add (f : Nat → Nat) (a : Nat) : ∀ b, sN f (a + b) = sN f a + sN (fun k => f (a + k)) b
  | 0 => rfl
  | b + 1 => by rw [← Nat.add_assoc, sN_s, sN_s, sN_add f a b, Nat.add_assoc]
/-- the bits of a byte -/
def pb (a : Nat) : Nat := sN (fun k => a / 2 ^ k % 2) 8
def f1 (a : Nat) : Nat := a - (a / 2 &&& 85)
def f2 (a : Nat) : Nat := (a &&& 51) + (a / 4 &&& 51)
def f3 (a : Nat) : Nat := (a + a / 16) &&& 15
theorem and_split {a m : Nat} (b k : Nat) (ha : a < 256) (hm : m < 256) : (a + 256 * b) &&& (m + 256 * k) = (a &&& m) + 256 * (b &&& k) := by
  have ham : a &&& m < 2 ^ 8 := Nat.and_lt_two_pow a hm
  rw [Nat.add_comm a, Nat.add_comm m, Nat.add_comm (a &&& m)]
  apply Nat.eq_of_testBit_eq
  intro i
  rw [Nat.testBit_and, show 256 = 2 ^ 8 from rfl, Nat.testBit_two_pow_mul_add b ha i, Nat.testBit_two_pow_mul_add k hm i, Nat.testBit_two_pow_mul_add (b &&& k) ham i]
  by_cases c : i < 8
  · rw [if_pos c, if_pos c, if_pos c, Nat.testBit_and]
  · rw [if_neg c, if_neg c, if_neg c, Nat.testBit_and]
theorem tb1 : ∀ a, a < 256 → ∀ e, e < 2 → (a / 2 + 128 * e) &&& 85 = a / 2 &&& 85 ∧ a / 2 &&& 85 ≤ a ∧ f1 a < 256 := by decide +kernel
theorem tb2 : ∀ a, a < 256 → ∀ e, e < 4 → (a / 4 + 64 * e) &&& 51 = a / 4 &&& 51 := by decide +kernel
theorem tb3 : ∀ a, a < 256 → f2 (f1 a) < 256 ∧ f2 (f1 a) / 16 ≤ 4 ∧ f2 (f1 a) % 16 ≤ 4 ∧ f2 (f1 a) ≤ 68 ∧ f3 (f2 (f1 a)) = pb a ∧ pb a ≤ 8 := by decide +kernel
theorem lev1 {a : Nat} (t k : Nat) (ha : a < 256) : (a + 256 * t) - ((a + 256 * t) / 2 &&& (85 + 256 * k)) = f1 a + 256 * (t - (t / 2 &&& k)) := by
  have e : (a + 256 * t) / 2 = (a / 2 + 128 * (t % 2)) + 256 * (t / 2) := by omega
  obtain ⟨h1, h2, h3⟩ := tb1 a ha (t % 2) (by omega)
  rw [e, and_split _ _ (by omega) (by omega), h1]
  have h4 : t / 2 &&& k ≤ t := Nat.le_trans Nat.and_le_left (Nat.div_le_self t 2)
  unfold f1
  omega
theorem lev2 {a : Nat} (t k : Nat) (ha : a < 256) : ((a + 256 * t) &&& (51 + 256 * k)) + ((a + 256 * t) / 4 &&& (51 + 256 * k)) = f2 a + 256 * ((t &&& k) + (t / 4 &&& k)) := by
  have e : (a + 256 * t) / 4 = (a / 4 + 64 * (t % 4)) + 256 * (t / 4) := by omega
  rw [e, and_split _ _ ha (by omega), and_split _ _ (by omega) (by omega), tb2 a ha (t % 4) (by omega)]
  unfold f2
  omega
theorem lev3 {a : Nat} (t k : Nat) (ha : a ≤ 68) (ht : t % 16 ≤ 4) : ((a + 256 * t) + (a + 256 * t) / 16) &&& (15 + 256 * k) = f3 a + 256 * ((t + t / 16) &&& k) := by
  have e : (a + 256 * t) + (a + 256 * t) / 16 = (a + a / 16 + 16 * (t % 16)) + 256 * (t + t / 16) := by omega
  rw [e, and_split _ _ (by omega) (by omega)]
  have e2 : (a + a / 16 + 16 * (t % 16)) &&& 15 = (a + a / 16) &&& 15 := by
    rw [Nat.and_two_pow_sub_one_eq_mod _ 4, Nat.and_two_pow_sub_one_eq_mod _ 4]; omega
  rw [e2]; rfl
def F1 (n : Nat) : Nat := n - (n / 2 &&& 1431655765)
def F2 (n : Nat) : Nat := (n &&& 858993459) + (n / 4 &&& 858993459)
def F3 (n : Nat) : Nat := (n + n / 16) &&& 252645135
def F4 (n : Nat) : Nat := n + n / 256
def F5 (n : Nat) : Nat := n + n / 65536
theorem F_all {a b c d : Nat} (ha : a < 256) (hb : b < 256) (hc : c < 256) (hd : d < 64) : F5 (F4 (F3 (F2 (F1 (a + 256 * (b + 256 * (c + 256 * d))))))) &&& 63 = pb a + pb b + pb c + pb d := by
  have hd' : d < 256 := by omega
  obtain ⟨-, -, a3⟩ := tb1 a ha 0 (by omega)
  obtain ⟨-, -, b3⟩ := tb1 b hb 0 (by omega)
  obtain ⟨-, -, c3⟩ := tb1 c hc 0 (by omega)
  obtain ⟨-, -, d3⟩ := tb1 d hd' 0 (by omega)
  obtain ⟨p1, p2, p3, p4, p5, p6⟩ := tb3 a ha
  obtain ⟨q1, q2, q3, q4, q5, q6⟩ := tb3 b hb
  obtain ⟨r1, r2, r3, r4, r5, r6⟩ := tb3 c hc
  obtain ⟨s1, s2, s3, s4, s5, s6⟩ := tb3 d hd'
  have e1 : F1 (a + 256 * (b + 256 * (c + 256 * d))) = f1 a + 256 * (f1 b + 256 * (f1 c + 256 * f1 d)) := by
    unfold F1
    rw [show 1431655765 = 85 + 256 * (85 + 256 * (85 + 256 * 85)) from rfl, lev1 _ _ ha, lev1 _ _ hb, lev1 _ _ hc]; rfl
  have e2 : F2 (f1 a + 256 * (f1 b + 256 * (f1 c + 256 * f1 d))) = f2 (f1 a) + 256 * (f2 (f1 b) + 256 * (f2 (f1 c) + 256 * f2 (f1 d))) := by
    unfold F2
    rw [show 858993459 = 51 + 256 * (51 + 256 * (51 + 256 * 51)) from rfl, lev2 _ _ a3, lev2 _ _ b3, lev2 _ _ c3]; rfl
  have e3 : F3 (f2 (f1 a) + 256 * (f2 (f1 b) + 256 * (f2 (f1 c) + 256 * f2 (f1 d)))) = pb a + 256 * (pb b + 256 * (pb c + 256 * pb d)) := by
    unfold F3
    rw [show 252645135 = 15 + 256 * (15 + 256 * (15 + 256 * 15)) from rfl, lev3 _ _ p4 (by omega), lev3 _ _ q4 (by omega), lev3 _ _ r4 (by omega), p5, q5, r5]
    rw [show (f2 (f1 d) + f2 (f1 d) / 16) &&& 15 = pb d from s5]
  rw [e1, e2, e3]
  clear e1 e2 e3
  generalize pb a = w at *
  generalize pb b = x at *
  generalize pb c = y at *
  generalize pb d = z at *
  have g4 : F4 (w + 256 * (x + 256 * (y + 256 * z))) = (w + x) + 256 * ((x + y) + 256 * ((y + z) + 256 * z)) := by
    unfold F4
    have : (w + 256 * (x + 256 * (y + 256 * z))) / 256 = x + 256 * (y + 256 * z) := by omega
    rw [this]; omega
  have g5 : F5 ((w + x) + 256 * ((x + y) + 256 * ((y + z) + 256 * z))) = (w + x + y + z) + 256 * ((x + y + z) + 256 * ((y + z) + 256 * z)) := by
    unfold F5
    have : ((w + x) + 256 * ((x + y) + 256 * ((y + z) + 256 * z))) / 65536 = (y + z) + 256 * z := by omega
    rw [this]; omega
  rw [g4, g5, Nat.and_two_pow_sub_one_eq_mod _ 6]
  omega
theorem F_bits {a b c d : Nat} (ha : a < 256) (hb : b < 256) (hc : c < 256) (hd : d < 64) : sN (fun k => (a + 256 * (b + 256 * (c + 256 * d))) / 2 ^ k % 2) 30 = pb a + pb b + pb c + pb d := by
  have lo : ∀ (x t : Nat), x < 256 → ∀ k, k < 8 → (x + 256 * t) / 2 ^ k % 2 = x / 2 ^ k % 2 := by
    intro x t hx k hk
    rcases (show k = 0 ∨ k = 1 ∨ k = 2 ∨ k = 3 ∨ k = 4 ∨ k = 5 ∨ k = 6 ∨ k = 7 by omega) with rfl | rfl | rfl | rfl | rfl | rfl | rfl | rfl <;> simp only [Nat.reducePow] <;> omega
  have hi : ∀ (x t k : Nat), x < 256 → (x + 256 * t) / 2 ^ (8 + k) % 2 = t / 2 ^ k % 2 := by
    intro x t k hx
    rw [Nat.pow_add, ← Nat.div_div_eq_div_mul]
    have : (x + 256 * t) / 2 ^ 8 = t := by simp only [Nat.reducePow]; omega
    rw [this]
  have st : ∀ (x t m : Nat), x < 256 → sN (fun k => (x + 256 * t) / 2 ^ k % 2) (8 + m) = pb x + sN (fun k => t / 2 ^ k % 2) m := by
    intro x t m hx
    rw [sN_add, sN_congr (lo x t hx), sN_congr (fun k _ => hi x t k hx)]; rfl
  have e6 : ∀ d, d < 64 → sN (fun k => d / 2 ^ k % 2) 6 = pb d := by decide +kernel
  rw [show 30 = 8 + (8 + (8 + 6)) from rfl, st _ _ _ ha, st _ _ _ hb, st _ _ _ hc, e6 d hd]
  omega
theorem F_eq {n : Nat} (h : n < 2 ^ 30) : F5 (F4 (F3 (F2 (F1 n)))) &&& 63 = sN (fun k => n / 2 ^ k % 2) 30 := by
  have e : n = n % 256 + 256 * (n / 256 % 256 + 256 * (n / 65536 % 256 + 256 * (n / 16777216))) := by omega
  rw [e, F_all (by omega) (by omega) (by omega) (by omega), F_bits (by omega) (by omega) (by omega) (by omega)]
theorem F1_lt {n : Nat} (h : n < 2 ^ 30) : F1 n < 2 ^ 30 := Nat.lt_of_le_of_lt (Nat.sub_le _ _) h
theorem F2_lt (n : Nat) : F2 n < 2 ^ 31 := by
  have h1 : n &&& 858993459 ≤ 858993459 := Nat.and_le_right
  have h2 : n / 4 &&& 858993459 ≤ 858993459 := Nat.and_le_right
  unfold F2; omega
theorem F3_lt (n : Nat) : F3 n < 2 ^ 28 := by
  have h1 : (n + n / 16) &&& 252645135 ≤ 252645135 := Nat.and_le_right
  unfold F3; omega
theorem ush1 {n : Nat} (h : n < 2 ^ 32) : ((nI n).toUInt32 >>> ((1 : Int32).toUInt32 &&& Int32.toUInt32 31)).toInt32 = nI (n / 2) := pk_ushrN h 1 1 (by decide)
theorem ush2 {n : Nat} (h : n < 2 ^ 32) : ((nI n).toUInt32 >>> ((2 : Int32).toUInt32 &&& Int32.toUInt32 31)).toInt32 = nI (n / 4) := pk_ushrN h 2 2 (by decide)
theorem ush4 {n : Nat} (h : n < 2 ^ 32) : ((nI n).toUInt32 >>> ((4 : Int32).toUInt32 &&& Int32.toUInt32 31)).toInt32 = nI (n / 16) := pk_ushrN h 4 4 (by decide)
theorem ush8 {n : Nat} (h : n < 2 ^ 32) : ((nI n).toUInt32 >>> ((8 : Int32).toUInt32 &&& Int32.toUInt32 31)).toInt32 = nI (n / 256) := pk_ushrN h 8 8 (by decide)
theorem ush16 {n : Nat} (h : n < 2 ^ 32) : ((nI n).toUInt32 >>> ((16 : Int32).toUInt32 &&& Int32.toUInt32 31)).toInt32 = nI (n / 65536) := pk_ushrN h 16 16 (by decide)
theorem cnt_ok {n : Nat} (h : n < 2 ^ 30) : zf_J6_bitCount_0f7a4 (nI n) = some (nI (sN (fun k => n / 2 ^ k % 2) 30)) := by
  have h1 := F1_lt h
  have h2 := F2_lt (F1 n)
  have h3 := F3_lt (F2 (F1 n))
  have h4 : F4 (F3 (F2 (F1 n))) < 2 ^ 30 := by unfold F4; omega
  have e1 : nI n - ((((nI n).toUInt32 >>> ((1 : Int32).toUInt32 &&& Int32.toUInt32 31)).toInt32) &&& (1431655765 : Int32)) = nI (F1 n) := by
    rw [ush1 (by omega), show (1431655765 : Int32) = nI 1431655765 from rfl, nI_and, pk_sub (Nat.le_trans Nat.and_le_left (Nat.div_le_self n 2))]; rfl
  have e2 : (nI (F1 n) &&& (858993459 : Int32)) + ((((nI (F1 n)).toUInt32 >>> ((2 : Int32).toUInt32 &&& Int32.toUInt32 31)).toInt32) &&& (858993459 : Int32)) = nI (F2 (F1 n)) := by
    rw [ush2 (by omega), show (858993459 : Int32) = nI 858993459 from rfl, nI_and, nI_and, nI_add]; rfl
  have e3 : (nI (F2 (F1 n)) + (((nI (F2 (F1 n))).toUInt32 >>> ((4 : Int32).toUInt32 &&& Int32.toUInt32 31)).toInt32)) &&& (252645135 : Int32) = nI (F3 (F2 (F1 n))) := by
    rw [ush4 (by omega), show (252645135 : Int32) = nI 252645135 from rfl, nI_add, nI_and]; rfl
  have e4 : nI (F3 (F2 (F1 n))) + (((nI (F3 (F2 (F1 n)))).toUInt32 >>> ((8 : Int32).toUInt32 &&& Int32.toUInt32 31)).toInt32) = nI (F4 (F3 (F2 (F1 n)))) := by
    rw [ush8 (by omega), nI_add]; rfl
  have e5 : nI (F4 (F3 (F2 (F1 n)))) + (((nI (F4 (F3 (F2 (F1 n))))).toUInt32 >>> ((16 : Int32).toUInt32 &&& Int32.toUInt32 31)).toInt32) = nI (F5 (F4 (F3 (F2 (F1 n))))) := by
    rw [ush16 (by omega), nI_add]; rfl
  unfold zf_J6_bitCount_0f7a4
  rw [e1, e2, e3, e4, e5, show (63 : Int32) = nI 63 from rfl, nI_and, F_eq h]
theorem bit_at {n : Nat} (h : n < 2 ^ 31) : ∀ k, k < 31 → (nI n >>> (nI k &&& 31)) &&& 1 = nI (n / 2 ^ k % 2) := by
  intro k hk
  have hs : ∀ k, k < 31 → ((nI k &&& 31).toBitVec.smod 32).toNat = k := by decide +kernel
  rw [pk_shrN h _ k (hs k hk), l1, nI_and, Nat.and_two_pow_sub_one_eq_mod _ 1]
theorem bits_ok {n : Nat} (h : n < 2 ^ 30) : zf_X2_bits (nI n) = some (nI (sN (fun k => n / 2 ^ k % 2) 30)) := by
  have lp : ∀ (d fu k : Nat), k + d = 30 → d < fu → zl2 (zf_X2_bits_b4 (nI n)) fu (nI (sN (fun k => n / 2 ^ k % 2) k)) (nI k) = some (nI (sN (fun k => n / 2 ^ k % 2) 30)) := by
    intro d
    induction d with
    | zero =>
      intro fu k hk hf
      obtain ⟨fu, rfl⟩ : ∃ x, fu = x + 1 := ⟨fu - 1, by omega⟩
      have e : k = 30 := by omega
      subst e
      rw [zl2_s, zf_X2_bits_b4, l30, if_pos (nI_le (Nat.le_refl _) (by omega))]
    | succ d ih =>
      intro fu k hk hf
      obtain ⟨fu, rfl⟩ : ∃ x, fu = x + 1 := ⟨fu - 1, by omega⟩
      rw [zl2_s, zf_X2_bits_b4, l30, if_neg (nI_ge (by omega) (by omega)), bit_at (by omega) k (by omega), nI_add, nI_1]
      exact ih fu (k + 1) (by omega) (by omega)
  exact lp 30 zb_FU 0 (by omega) (fu_lt (by omega))
theorem sN_le {f : Nat → Nat} (h : ∀ k, f k ≤ 1) : ∀ n, sN f n ≤ n
  | 0 => Nat.le_refl _
  | n + 1 => by have := sN_le h n; have := h n; rw [sN_s]; omega
/-- a set of nodes -/
def BS (v : Int32) : Prop := ∃ n, n < 2 ^ 30 ∧ v = nI n
theorem BS_0 : BS 0 := ⟨0, by omega, rfl⟩
theorem one_shl : ∀ a, a < 30 → (1 : Int32) <<< (nI a &&& 31) = nI (2 ^ a) := by decide +kernel
theorem BS_or {v : Int32} (h : BS v) {a : Nat} (ha : a < 30) : BS (v ||| ((1 : Int32) <<< (nI a &&& 31))) := by
  obtain ⟨n, hn, rfl⟩ := h
  rw [one_shl a ha, nI_or]
  exact ⟨_, Nat.or_lt_two_pow hn (Nat.pow_lt_pow_right (by omega) ha), rfl⟩
theorem BS_1 {a : Nat} (ha : a < 30) : BS ((1 : Int32) <<< (nI a &&& 31)) := by
  rw [one_shl a ha]; exact ⟨_, Nat.pow_lt_pow_right (by omega) ha, rfl⟩
theorem bits_eq {v : Int32} (h : BS v) : ∃ k, k ≤ 30 ∧ zf_J6_bitCount_0f7a4 v = some (nI k) ∧ zf_X2_bits v = some (nI k) := by
  obtain ⟨n, hn, rfl⟩ := h
  exact ⟨_, sN_le (fun k => by omega) 30, cnt_ok hn, bits_ok hn⟩
