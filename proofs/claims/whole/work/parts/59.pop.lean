/-! Integer.bitCount of a set of nodes. -/
theorem an_l {a b m M : Nat} (ha : a < 256) (hm : m < 256) : (a + 256 * b) &&& (m + 256 * M) = (a &&& m) + 256 * (b &&& M) := by
  have h1 : a + 256 * b = 2 ^ 8 * b + a := by omega
  have h2 : m + 256 * M = 2 ^ 8 * M + m := by omega
  have hl : (a &&& m) < 2 ^ 8 := Nat.and_lt_two_pow a (by omega)
  have h3 : (a &&& m) + 256 * (b &&& M) = 2 ^ 8 * (b &&& M) + (a &&& m) := by omega
  rw [h1, h2, h3]
  apply Nat.eq_of_testBit_eq
  intro i
  rw [Nat.testBit_and, Nat.testBit_two_pow_mul_add _ (by omega), Nat.testBit_two_pow_mul_add _ (by omega), Nat.testBit_two_pow_mul_add _ hl]
  by_cases c : i < 8
  · simp only [if_pos c]; rw [Nat.testBit_and]
  · simp only [if_neg c]; rw [Nat.testBit_and]
theorem an_5 : ∀ x, x < 256 → ∀ c, c < 2 → ((x / 2 + 128 * c) &&& 0x55) = ((x / 2) &&& 0x55) := by decide +kernel
theorem an_3 : ∀ x, x < 256 → ∀ c, c < 4 → ((x / 4 + 64 * c) &&& 0x33) = ((x / 4) &&& 0x33) := by decide +kernel
theorem l_5 {x Y M : Nat} (hx : x < 256) : ((x + 256 * Y) / 2) &&& (0x55 + 256 * M) = ((x / 2) &&& 0x55) + 256 * ((Y / 2) &&& M) := by
  rw [show (x + 256 * Y) / 2 = (x / 2 + 128 * (Y % 2)) + 256 * (Y / 2) by omega, an_l (by omega) (by decide), an_5 x hx _ (by omega)]
theorem l_3 {x Y M : Nat} (hx : x < 256) : ((x + 256 * Y) / 4) &&& (0x33 + 256 * M) = ((x / 4) &&& 0x33) + 256 * ((Y / 4) &&& M) := by
  rw [show (x + 256 * Y) / 4 = (x / 4 + 64 * (Y % 4)) + 256 * (Y / 4) by omega, an_l (by omega) (by decide), an_3 x hx _ (by omega)]
def f1 (x : Nat) : Nat := x - ((x / 2) &&& 0x55)
def f2 (x : Nat) : Nat := (x &&& 0x33) + ((x / 4) &&& 0x33)
def f3 (x : Nat) : Nat := (x + x / 16) % 16
theorem an_f1 : ∀ x, x < 256 → ((x / 2) &&& 0x55) ≤ x ∧ f1 x < 256 := by decide +kernel
theorem an_f2 : ∀ x, x < 256 → f2 (f1 x) ≤ 68 ∧ f2 (f1 x) % 16 ≤ 4 := by decide +kernel
theorem an_f3 : ∀ x, x < 256 → f3 (f2 (f1 x)) = fb_ct (fun j => x.testBit j) 8 := by decide +kernel
theorem an_15 : ∀ x, x < 256 → (x &&& 15) = x % 16 := by decide +kernel
theorem pop3 {x y z : Nat} (hx : x < 256) (hy : y < 256) (hz : z < 256) {X A B C : Nat} (eX : X = x + 256 * (y + 256 * (z + 256 * 0))) (eA : A = X - ((X / 2) &&& 0x55555555)) (eB : B = (A &&& 0x33333333) + ((A / 4) &&& 0x33333333)) (eC : C = (B + B / 16) &&& 0x0f0f0f0f) :
    ((X / 2) &&& 0x55555555) ≤ X ∧ X < 2 ^ 24 ∧ A < 2 ^ 24 ∧ B < 2 ^ 24 ∧ C = fb_ct (fun j => x.testBit j) 8 + 256 * (fb_ct (fun j => y.testBit j) 8 + 256 * fb_ct (fun j => z.testBit j) 8) := by
  have m5 : 0x55555555 = 0x55 + 256 * (0x55 + 256 * (0x55 + 256 * 0x55)) := by decide
  have m3 : 0x33333333 = 0x33 + 256 * (0x33 + 256 * (0x33 + 256 * 0x33)) := by decide
  have mf : 0x0f0f0f0f = 15 + 256 * (15 + 256 * (15 + 256 * 15)) := by decide
  obtain ⟨x1, x2⟩ := an_f1 x hx
  obtain ⟨y1, y2⟩ := an_f1 y hy
  obtain ⟨z1, z2⟩ := an_f1 z hz
  have hP : ((X / 2) &&& 0x55555555) = ((x / 2) &&& 0x55) + 256 * (((y / 2) &&& 0x55) + 256 * (((z / 2) &&& 0x55) + 256 * 0)) := by
    rw [eX, m5, l_5 hx, l_5 hy, l_5 hz, show ((0 / 2) &&& 0x55 : Nat) = 0 by decide]
  have hA : A = f1 x + 256 * (f1 y + 256 * (f1 z + 256 * 0)) := by
    rw [eA, hP, eX]; unfold f1; omega
  obtain ⟨bx, bx'⟩ := an_f2 x hx
  obtain ⟨by', by''⟩ := an_f2 y hy
  obtain ⟨bz, bz'⟩ := an_f2 z hz
  have hB : B = f2 (f1 x) + 256 * (f2 (f1 y) + 256 * f2 (f1 z)) := by
    rw [eB, hA, m3, l_3 x2, l_3 y2, l_3 z2, an_l x2 (by decide), an_l y2 (by decide), an_l z2 (by decide), show ((0 / 4) &&& 0x33 : Nat) = 0 by decide]
    unfold f2; omega
  have hC : C = f3 (f2 (f1 x)) + 256 * (f3 (f2 (f1 y)) + 256 * f3 (f2 (f1 z))) := by
    generalize f2 (f1 x) = a at *
    generalize f2 (f1 y) = b at *
    generalize f2 (f1 z) = c at *
    have e : B + B / 16 = (a + a / 16 + 16 * (b % 16)) + 256 * ((b + b / 16 + 16 * (c % 16)) + 256 * ((c + c / 16) + 256 * 0)) := by omega
    rw [eC, e, mf, an_l (by omega) (by decide), an_l (by omega) (by decide), an_l (by omega) (by decide), an_15 _ (by omega), an_15 _ (by omega), an_15 _ (by omega), show ((0 : Nat) &&& 15) = 0 by decide]
    unfold f3
    omega
  rw [an_f3 x hx, an_f3 y hy, an_f3 z hz] at hC
  exact ⟨by rw [hP, eX]; omega, by omega, by omega, by omega, hC⟩
theorem nI_and {a b : Nat} (ha : a < 2 ^ 32) (hb : b < 2 ^ 32) : nI a &&& nI b = nI (a &&& b) := by
  apply Int32.toBitVec_inj.mp
  apply BitVec.eq_of_toNat_eq
  have h : a &&& b < 2 ^ 32 := Nat.and_lt_two_pow a hb
  rw [Int32.toBitVec_and, BitVec.toNat_and, pk_tn ha, pk_tn hb, pk_tn h]
theorem bt_nI {X : Nat} (h : X < 2 ^ 32) (i : Nat) : bt (nI X) i = X.testBit i := by
  unfold bt
  rw [BitVec.getLsbD, pk_tn h]
theorem pop_lt {a b c : Nat} (ha : a ≤ 8) (hb : b ≤ 8) (hc : c ≤ 8) : ((a + 256 * (b + 256 * c)) + (a + 256 * (b + 256 * c)) / 256 + ((a + 256 * (b + 256 * c)) + (a + 256 * (b + 256 * c)) / 256) / 65536) % 64 = a + b + c := by
  have e1 : (a + 256 * (b + 256 * c)) / 256 = b + 256 * c := by omega
  have e2 : (a + 256 * (b + 256 * c) + (b + 256 * c)) / 65536 = c := by omega
  rw [e1, e2]
  omega
/-- a set of numbers below 24 as a number below 2^24 -/
theorem set_nat {x : Int32} (h : ∀ i, 24 ≤ i → i < 32 → bt x i = false) : ∃ X, X < 2 ^ 24 ∧ x = nI X := by
  have hX : x.toBitVec.toNat < 2 ^ 24 := by
    apply Nat.lt_pow_two_of_testBit
    intro i hi
    rcases Nat.lt_or_ge i 32 with q | q
    · exact h i hi q
    · exact b_big q
  refine ⟨x.toBitVec.toNat, hX, ?_⟩
  apply Int32.toBitVec_inj.mp
  apply BitVec.eq_of_toNat_eq
  rw [pk_tn (by omega)]
theorem tb_lo {x Y j : Nat} (hx : x < 256) (hj : j < 8) : (x + 256 * Y).testBit j = x.testBit j := by
  rw [show x + 256 * Y = 2 ^ 8 * Y + x by omega, Nat.testBit_two_pow_mul_add _ (by omega), if_pos hj]
theorem tb_hi {x Y j : Nat} (hx : x < 256) : (x + 256 * Y).testBit (8 + j) = Y.testBit j := by
  rw [show x + 256 * Y = 2 ^ 8 * Y + x by omega, Nat.testBit_two_pow_mul_add _ (by omega), if_neg (by omega), show 8 + j - 8 = j by omega]
theorem ct3 {x y z : Nat} (hx : x < 256) (hy : y < 256) (hz : z < 256) : fb_ct (fun j => (x + 256 * (y + 256 * (z + 256 * 0))).testBit j) 24 = fb_ct (fun j => x.testBit j) 8 + fb_ct (fun j => y.testBit j) 8 + fb_ct (fun j => z.testBit j) 8 := by
  rw [show 24 = 8 + (8 + 8) by decide, fb_ct_split, fb_ct_split]
  rw [fb_ct_cong (n := 8) (p := fun j => (x + 256 * (y + 256 * (z + 256 * 0))).testBit j) (q := fun j => x.testBit j) (fun k hk => tb_lo hx hk)]
  rw [fb_ct_cong (n := 8) (p := fun k => (x + 256 * (y + 256 * (z + 256 * 0))).testBit (8 + k)) (q := fun j => y.testBit j) (fun k hk => by rw [tb_hi hx]; exact tb_lo hy hk)]
  rw [fb_ct_cong (n := 8) (p := fun k => (x + 256 * (y + 256 * (z + 256 * 0))).testBit (8 + (8 + k))) (q := fun j => z.testBit j) (fun k hk => by rw [tb_hi hx, tb_hi hy]; exact tb_lo hz hk)]
  omega
theorem sp_bitCount {Q : ab_Po} {S : ab_S} {x : Int32} (h : ∀ i, 24 ≤ i → i < 32 → bt x i = false) (hQ : Q (.inl (some (nI (fb_ct (fun j => bt x j) 24)))) S) : Sp_J6_bitCount_0f7a4 [.inl x] S Q := by
  refine ⟨Nat.le_of_ble_eq_true rfl, fun G hG => ?_⟩
  refine bl_J6_bitCount_0f7a4_0 hG x S ?_
  obtain ⟨X, hX, rfl⟩ := set_nat h
  have h1 : ∀ k, k < 2 ^ 32 → ((nI k).toUInt32 >>> ((1 : Int32).toUInt32 &&& Int32.toUInt32 31)).toInt32 = nI (k / 2) := fun k hk => pk_ushrN hk 1 1 (by decide)
  have h2 : ∀ k, k < 2 ^ 32 → ((nI k).toUInt32 >>> ((2 : Int32).toUInt32 &&& Int32.toUInt32 31)).toInt32 = nI (k / 4) := fun k hk => pk_ushrN hk 2 2 (by decide)
  have h4 : ∀ k, k < 2 ^ 32 → ((nI k).toUInt32 >>> ((4 : Int32).toUInt32 &&& Int32.toUInt32 31)).toInt32 = nI (k / 16) := fun k hk => pk_ushrN hk 4 4 (by decide)
  have h8 : ∀ k, k < 2 ^ 32 → ((nI k).toUInt32 >>> ((8 : Int32).toUInt32 &&& Int32.toUInt32 31)).toInt32 = nI (k / 256) := fun k hk => pk_ushrN hk 8 8 (by decide)
  have h16 : ∀ k, k < 2 ^ 32 → ((nI k).toUInt32 >>> ((16 : Int32).toUInt32 &&& Int32.toUInt32 31)).toInt32 = nI (k / 65536) := fun k hk => pk_ushrN hk 16 16 (by decide)
  have a5 : ∀ k, k < 2 ^ 32 → nI k &&& 1431655765 = nI (k &&& 0x55555555) := fun k hk => nI_and hk (by decide)
  have a3 : ∀ k, k < 2 ^ 32 → nI k &&& 858993459 = nI (k &&& 0x33333333) := fun k hk => nI_and hk (by decide)
  have af : ∀ k, k < 2 ^ 32 → nI k &&& 252645135 = nI (k &&& 0x0f0f0f0f) := fun k hk => nI_and hk (by decide)
  have a63 : ∀ k, k < 2 ^ 32 → nI k &&& 63 = nI (k % 64) := fun k hk => pk_andN hk 6 (by decide)
  have hx : X % 256 < 256 := by omega
  have hy : X / 256 % 256 < 256 := by omega
  have hz : X / 65536 < 256 := by omega
  have eX : X = X % 256 + 256 * (X / 256 % 256 + 256 * (X / 65536 + 256 * 0)) := by omega
  obtain ⟨q1, q2, q3, q4, q5⟩ := pop3 hx hy hz eX rfl rfl rfl
  have q6 := ct3 hx hy hz
  rw [← eX] at q6
  have hQ' : Q (.inl (some (nI (fb_ct (fun j => (X % 256).testBit j) 8 + fb_ct (fun j => (X / 256 % 256).testBit j) 8 + fb_ct (fun j => (X / 65536).testBit j) 8)))) S := by
    rw [← q6, ← fb_ct_cong (n := 24) (p := fun j => bt (nI X) j) (fun k _ => bt_nI (by omega) k)]; exact hQ
  have l1 := fb_ct_le (fun j => (X % 256).testBit j) 8
  have l2 := fb_ct_le (fun j => (X / 256 % 256).testBit j) 8
  have l3 := fb_ct_le (fun j => (X / 65536).testBit j) 8
  rw [h1 X (by omega), a5 _ (by omega), pk_sub q1]
  generalize hA : X - ((X / 2) &&& 0x55555555) = A at *
  rw [a3 A (by omega), h2 A (by omega), a3 (A / 4) (by omega), nI_add]
  generalize hB : (A &&& 0x33333333) + ((A / 4) &&& 0x33333333) = B at *
  rw [h4 B (by omega), nI_add, af _ (by omega)]
  generalize hC : (B + B / 16) &&& 0x0f0f0f0f = C at *
  rw [h8 C (by omega), nI_add, h16 _ (by omega), nI_add, a63 _ (by omega), q5, pop_lt l1 l2 l3]
  exact hQ'
