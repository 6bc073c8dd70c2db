/-! ===== Int32 by its bits: bt x i ===== -/
def bt (x : Int32) (i : Nat) : Bool := x.toBitVec.getLsbD i
theorem b_ext {x y : Int32} (h : ∀ i, i < 32 → bt x i = bt y i) : x = y := Int32.toBitVec_inj.mp (BitVec.eq_of_getLsbD_eq (fun i hi => h i hi))
theorem b_or (x y : Int32) (i : Nat) : bt (x ||| y) i = (bt x i || bt y i) := by unfold bt; rw [Int32.toBitVec_or, BitVec.getLsbD_or]
theorem b_and (x y : Int32) (i : Nat) : bt (x &&& y) i = (bt x i && bt y i) := by unfold bt; rw [Int32.toBitVec_and, BitVec.getLsbD_and]
theorem b_xor (x y : Int32) (i : Nat) : bt (x ^^^ y) i = (bt x i ^^ bt y i) := by unfold bt; rw [Int32.toBitVec_xor, BitVec.getLsbD_xor]
theorem b_big {x : Int32} {i : Nat} (h : 32 ≤ i) : bt x i = false := BitVec.getLsbD_of_ge _ _ h
theorem b_255 (i : Nat) : bt 255 i = decide (i < 8) := by
  rcases Nat.lt_or_ge i 32 with h | h
  · exact (by decide +kernel : ∀ i, i < 32 → bt 255 i = decide (i < 8)) i h
  · rw [b_big h, decide_eq_false (by omega)]
theorem b_65535 (i : Nat) : bt 65535 i = decide (i < 16) := by
  rcases Nat.lt_or_ge i 32 with h | h
  · exact (by decide +kernel : ∀ i, i < 32 → bt 65535 i = decide (i < 16)) i h
  · rw [b_big h, decide_eq_false (by omega)]
theorem b_m1 : ∀ i, i < 32 → bt (-1) i = true := by decide +kernel
theorem b_0 (i : Nat) : bt 0 i = false := BitVec.getLsbD_zero
theorem s_l : ∀ n, n < 32 → ((nI n &&& 31).toBitVec.smod 32).toNat = n := by decide +kernel
theorem s_u : ∀ n, n < 32 → (((nI n).toUInt32 &&& Int32.toUInt32 31).toBitVec % 32).toNat = n := by decide +kernel
theorem b_shl (n : Nat) (hn : n < 32) (x : Int32) {i : Nat} (hi : i < 32) : bt (x <<< (nI n &&& 31)) i = (decide (n ≤ i) && bt x (i - n)) := by
  unfold bt
  rw [Int32.toBitVec_shiftLeft]
  show (x.toBitVec <<< ((nI n &&& 31).toBitVec.smod 32).toNat).getLsbD i = _
  rw [s_l n hn, BitVec.getLsbD_shiftLeft]
  rcases Nat.lt_or_ge i n with h | h
  · simp [h, Nat.not_le.mpr h]
  · simp [hi, h, Nat.not_lt.mpr h]
theorem b_ushr (n : Nat) (hn : n < 32) (x : Int32) (i : Nat) : bt ((x.toUInt32 >>> ((nI n).toUInt32 &&& Int32.toUInt32 31)).toInt32) i = bt x (n + i) := by
  show (x.toUInt32 >>> ((nI n).toUInt32 &&& Int32.toUInt32 31)).toBitVec.getLsbD i = x.toUInt32.toBitVec.getLsbD (n + i)
  rw [UInt32.toBitVec_shiftRight]
  show (x.toUInt32.toBitVec >>> (((nI n).toUInt32 &&& Int32.toUInt32 31).toBitVec % 32).toNat).getLsbD i = _
  rw [s_u n hn, BitVec.getLsbD_ushiftRight]
theorem b_sshr (n : Nat) (hn : n < 32) (x : Int32) {i : Nat} (hi : i < 32) : bt (x >>> (nI n &&& 31)) i = if n + i < 32 then bt x (n + i) else bt x 31 := by
  unfold bt
  rw [Int32.toBitVec_shiftRight]
  show (x.toBitVec.sshiftRight ((nI n &&& 31).toBitVec.smod 32).toNat).getLsbD i = _
  rw [s_l n hn, BitVec.getLsbD_sshiftRight, BitVec.msb_eq_getLsbD_last]
  simp [hi]
theorem b_shl8 (x : Int32) {i : Nat} (hi : i < 32) : bt (x <<< ((8 : Int32) &&& 31)) i = (decide (8 ≤ i) && bt x (i - 8)) := b_shl 8 (by omega) x hi
theorem b_shl16 (x : Int32) {i : Nat} (hi : i < 32) : bt (x <<< ((16 : Int32) &&& 31)) i = (decide (16 ≤ i) && bt x (i - 16)) := b_shl 16 (by omega) x hi
theorem b_shl24 (x : Int32) {i : Nat} (hi : i < 32) : bt (x <<< ((24 : Int32) &&& 31)) i = (decide (24 ≤ i) && bt x (i - 24)) := b_shl 24 (by omega) x hi
theorem b_sshr8 (x : Int32) {i : Nat} (hi : i < 32) : bt (x >>> ((8 : Int32) &&& 31)) i = if 8 + i < 32 then bt x (8 + i) else bt x 31 := b_sshr 8 (by omega) x hi
theorem b_1 : ∀ i, i < 32 → bt 1 i = decide (i = 0) := by decide +kernel
/-- one bit of a set, as both programs read it -/
theorem bv (x : Int32) {j : Nat} (hj : j < 32) : ((x >>> (nI j &&& 31)) &&& (1 : Int32)) = if bt x j = true then 1 else 0 := by
  apply b_ext
  intro i hi
  rw [b_and, b_1 i hi, b_sshr j hj x hi]
  by_cases e : i = 0
  · subst e
    rw [if_pos (by omega), Nat.add_zero]
    by_cases c : bt x j = true
    · rw [if_pos c, c]; decide
    · rw [if_neg c, show bt x j = false by simpa using c]; decide
  · rw [decide_eq_false e, Bool.and_false]
    by_cases c : bt x j = true
    · rw [if_pos c, b_1 i hi, decide_eq_false e]
    · rw [if_neg c, b_0]
theorem bi_bt {x : Int32} {j : Nat} (hj : j < 32) : bi x j ↔ bt x j = true := by
  unfold bi
  rw [bv x hj]
  by_cases c : bt x j = true
  · rw [if_pos c]; exact ⟨fun _ => c, fun _ => by decide⟩
  · rw [if_neg c]; exact ⟨fun h => absurd rfl h, fun h => absurd h c⟩
theorem bi_or {x y : Int32} {j : Nat} (hj : j < 32) : bi (x ||| y) j ↔ bi x j ∨ bi y j := by
  rw [bi_bt hj, bi_bt hj, bi_bt hj, b_or, Bool.or_eq_true]
theorem bi_and {x y : Int32} {j : Nat} (hj : j < 32) : bi (x &&& y) j ↔ bi x j ∧ bi y j := by
  rw [bi_bt hj, bi_bt hj, bi_bt hj, b_and, Bool.and_eq_true]
theorem bi_0 {j : Nat} (hj : j < 32) : ¬ bi 0 j := by rw [bi_bt hj, b_0]; decide
theorem bi_one {n j : Nat} (hn : n < 32) (hj : j < 32) : bi ((1 : Int32) <<< (nI n &&& 31)) j ↔ j = n := by
  rw [bi_bt hj, b_shl n hn 1 hj]
  by_cases c : n ≤ j
  · rw [b_1 _ (by omega)]; simp [c]; omega
  · simp [c]; omega
theorem sp_c_isIn {Q : ab_Po} {S : ab_S} {x : Int32} {j : Nat} (hj : j < 32) (hQ : Q (.inl (some (if bt x j = true then 1 else 0))) S) : Sp_X5_isIn [.inl x, .inl (nI j)] S Q := by
  refine ⟨Nat.le_of_ble_eq_true rfl, fun G hG => ?_⟩
  refine bl_X5_isIn_0 hG x (nI j) S ?_
  rw [bv x hj]
  by_cases c : bt x j = true
  · rw [if_pos c] at hQ ⊢; exact ⟨fun h => absurd h (by decide), fun _ => hQ⟩
  · rw [if_neg c] at hQ ⊢; exact ⟨fun _ => hQ, fun h => absurd rfl h⟩
/-! The base of two commits. -/
def Bs (rc : Nat → Int32) (nc : Nat) (cm : Int32) (i : Nat) : Prop := bt cm i = true ∧ ∀ j, j < nc → j ≠ i → bt cm j = true → ¬ bt (rc j) i = true
def isBase (rc : Nat → Int32) (nc : Nat) (cm : Int32) (i : Nat) : Prop := i < nc ∧ Bs rc nc cm i ∧ ∀ k, k < i → ¬ Bs rc nc cm k
theorem isBase_one {rc : Nat → Int32} {nc : Nat} {cm : Int32} {i j : Nat} (h : isBase rc nc cm i) (h' : isBase rc nc cm j) : i = j := by
  rcases Nat.lt_trichotomy i j with q | q | q
  · exact absurd h.2.1 (h'.2.2 i q)
  · exact q
  · exact absurd h'.2.1 (h.2.2 j q)
theorem sp_c_reached {Q : ab_Po} {S : ab_S} {nc i : Nat} {cm : Int32} (hn : S 1 0 3 = nI nc) (hnc : nc ≤ 12) (hi : i < nc) (h0 : (∀ j, j < nc → j ≠ i → bt cm j = true → ¬ bt (S 13 0 j) i = true) → Q (.inl (some 0)) S) (h1 : ¬ (∀ j, j < nc → j ≠ i → bt cm j = true → ¬ bt (S 13 0 j) i = true) → Q (.inl (some 1)) S) : Sp_X1_isReachedFromAnother [.inr (1, 0), .inl (nI i), .inl cm] S Q := by
  refine ⟨Nat.le_of_ble_eq_true rfl, fun G hG => ?_⟩
  refine bl_X1_isReachedFromAnother_0 hG _ _ S ?_
  have key : ∀ k, k ≤ nc → (∀ j, j < k → j ≠ i → bt cm j = true → ¬ bt (S 13 0 j) i = true) → G 2 [some (.inr (1, 0)), some (.inl (nI i)), some (.inl cm), some (.inl (nI k))] [] S 0 := by
    refine ind_up _ ?_ ?_
    · intro hb
      refine bl_X1_isReachedFromAnother_2 hG _ _ _ S ?_
      rw [hn]
      exact pk_le nc nc (fun _ => h0 hb) (fun z => by omega)
    · intro k hk ih hb
      have step : (k ≠ i → bt cm k = true → ¬ bt (S 13 0 k) i = true) → G 2 [some (.inr (1, 0)), some (.inl (nI i)), some (.inl cm), some (.inl (nI (k + 1)))] [] S 0 := fun z => ih (fun j hj a b => by
        by_cases e : j = k
        · subst e; exact z a b
        · exact hb j (by omega) a b)
      refine bl_X1_isReachedFromAnother_2 hG _ _ _ S ?_
      rw [hn, nI_1]
      refine pk_le nc k (fun z => by omega) (fun _ => pk_eq k i (fun e => step (fun z => absurd e z)) (fun e => ?_))
      refine sp_c_isIn (by omega) ?_
      refine bl_X1_isReachedFromAnother_20 hG _ _ _ _ S ?_
      rw [nI_1]
      by_cases c : bt cm k = true
      · rw [if_pos c]
        refine ⟨fun z => absurd z (by decide), fun _ => ⟨vp_in_nI (by omega) (by decide), ?_⟩⟩
        rw [nI_clamp (by omega)]
        refine sp_c_isIn (by omega) ?_
        refine bl_X1_isReachedFromAnother_33 hG _ _ _ _ S ?_
        rw [nI_1]
        by_cases d : bt (S 13 0 k) i = true
        · rw [if_pos d]
          exact ⟨fun z => absurd z (by decide), fun _ => h1 (fun z => z k hk e c d)⟩
        · rw [if_neg d]
          exact ⟨fun _ => step (fun _ _ => d), fun z => absurd rfl z⟩
      · rw [if_neg c]
        exact ⟨fun _ => step (fun _ z => absurd z c), fun z => absurd rfl z⟩
  exact key 0 (by omega) (fun j hj => by omega)
theorem sp_c_baseOf {Q : ab_Po} {S : ab_S} {nc a b : Nat} {rc : Nat → Int32} (hn : S 1 0 3 = nI nc) (hnc : nc ≤ 12) (hrc : ∀ c, c < nc → S 13 0 c = rc c) (ha : a < nc) (hb : b < nc) (hex : ∃ i, i < nc ∧ Bs rc nc (rc a &&& rc b) i) (hQ : ∀ i, isBase rc nc (rc a &&& rc b) i → Q (.inl (some (nI i))) S) : Sp_X1_baseOf [.inr (1, 0), .inl (nI a), .inl (nI b)] S Q := by
  refine ⟨Nat.le_of_ble_eq_true rfl, fun G hG => ?_⟩
  refine bl_X1_baseOf_0 hG _ _ S ⟨vp_in_nI (by omega) (by decide), vp_in_nI (by omega) (by decide), ?_⟩
  rw [nI_clamp (by omega), nI_clamp (by omega), hrc a ha, hrc b hb]
  have hiff : ∀ i, (∀ j, j < nc → j ≠ i → bt (rc a &&& rc b) j = true → ¬ bt (S 13 0 j) i = true) ↔ (∀ j, j < nc → j ≠ i → bt (rc a &&& rc b) j = true → ¬ bt (rc j) i = true) := fun i => ⟨fun z j q1 q2 q3 => by rw [← hrc j q1]; exact z j q1 q2 q3, fun z j q1 q2 q3 => by rw [hrc j q1]; exact z j q1 q2 q3⟩
  have key : ∀ k, k ≤ nc → (∀ j, j < k → ¬ Bs rc nc (rc a &&& rc b) j) → G 17 [some (.inr (1, 0)), some (.inl (nI a)), some (.inl (nI b)), some (.inl (rc a &&& rc b)), some (.inl (nI k))] [] S 0 := by
    refine ind_up _ ?_ ?_
    · intro hno
      obtain ⟨i, hi, hB⟩ := hex
      exact absurd hB (hno i hi)
    · intro k hk ih hno
      have step : ¬ Bs rc nc (rc a &&& rc b) k → G 17 [some (.inr (1, 0)), some (.inl (nI a)), some (.inl (nI b)), some (.inl (rc a &&& rc b)), some (.inl (nI (k + 1)))] [] S 0 := fun z => ih (fun j hj => by
        by_cases e : j = k
        · subst e; exact z
        · exact hno j (by omega))
      refine bl_X1_baseOf_17 hG _ _ _ _ S ?_
      rw [hn]
      refine pk_le nc k (fun z => by omega) (fun _ => ?_)
      refine sp_c_isIn (by omega) ?_
      refine bl_X1_baseOf_32 hG _ _ _ _ _ S ?_
      rw [nI_1]
      by_cases c : bt (rc a &&& rc b) k = true
      · rw [if_pos c]
        refine ⟨fun z => absurd z (by decide), fun _ => sp_c_reached hn hnc hk (fun z => ?_) (fun z => ?_)⟩
        · exact bl_X1_baseOf_42 hG _ _ _ _ _ S ⟨fun _ => hQ k ⟨hk, ⟨c, (hiff k).mp z⟩, hno⟩, fun y => absurd rfl y⟩
        · refine bl_X1_baseOf_42 hG _ _ _ _ _ S ⟨fun y => absurd y (by decide), fun _ => ?_⟩
          rw [nI_1]
          exact step (fun y => z ((hiff k).mpr y.2))
      · rw [if_neg c]
        exact ⟨fun _ => step (fun z => c z.1), fun z => absurd rfl z⟩
  exact key 0 (by omega) (fun j hj => by omega)
theorem sp_m_baseOf {Q : ab_Po} {S : ab_S} {nc a b : Nat} {rc : Nat → Int32} (hn : S 21 0 6 = nI nc) (hnc : nc ≤ 12) (hrc : ∀ c, c < nc → S 28 0 c = rc c) (ha : a < nc) (hb : b < nc) (hex : ∃ i, i < nc ∧ Bs rc nc (rc a &&& rc b) i) (hQ : ∀ i, isBase rc nc (rc a &&& rc b) i → Q (.inl (some (nI i))) S) : Sp_X6_baseOf [.inr (21, 0), .inl (nI a), .inl (nI b)] S Q := by
  refine ⟨Nat.le_of_ble_eq_true rfl, fun G hG => ?_⟩
  refine bl_X6_baseOf_0 hG _ _ S ⟨vp_in_nI (by omega) (by decide), vp_in_nI (by omega) (by decide), ?_⟩
  rw [nI_clamp (by omega), nI_clamp (by omega), hrc a ha, hrc b hb]
  have key : ∀ k, k ≤ nc → (∀ j, j < k → ¬ Bs rc nc (rc a &&& rc b) j) → G 17 [some (.inr (21, 0)), some (.inl (nI a)), some (.inl (nI b)), some (.inl (rc a &&& rc b)), some (.inl (nI k)), none, none] [] S 0 := by
    refine ind_up _ ?_ ?_
    · intro hno
      obtain ⟨i, hi, hB⟩ := hex
      exact absurd hB (hno i hi)
    · intro k hk ih hno
      have step : ¬ Bs rc nc (rc a &&& rc b) k → G 17 [some (.inr (21, 0)), some (.inl (nI a)), some (.inl (nI b)), some (.inl (rc a &&& rc b)), some (.inl (nI (k + 1))), none, none] [] S 0 := fun z => ih (fun j hj => by
        by_cases e : j = k
        · subst e; exact z
        · exact hno j (by omega))
      have inner : ∀ m, m ≤ nc → ∀ fr : Int32, ((fr = 1 ∧ bt (rc a &&& rc b) k = true ∧ ∀ j, j < m → j ≠ k → bt (rc a &&& rc b) j = true → ¬ bt (rc j) k = true) ∨ (fr = 0 ∧ ¬ Bs rc nc (rc a &&& rc b) k)) → G 46 [some (.inr (21, 0)), some (.inl (nI a)), some (.inl (nI b)), some (.inl (rc a &&& rc b)), some (.inl (nI k)), some (.inl fr), some (.inl (nI m))] [] S 0 := by
        refine ind_up _ ?_ ?_
        · intro fr hf
          refine bl_X6_baseOf_46 hG _ _ _ _ _ _ S ?_
          rw [hn, nI_1]
          refine pk_le nc nc (fun _ => ?_) (fun z => by omega)
          rcases hf with ⟨z1, z2, z3⟩ | ⟨z1, z2⟩
          · subst z1; exact ⟨fun y => absurd y (by decide), fun _ => hQ k ⟨hk, ⟨z2, z3⟩, hno⟩⟩
          · subst z1; exact ⟨fun _ => step z2, fun y => absurd rfl y⟩
        · intro m hm2 ihm fr hf
          refine bl_X6_baseOf_46 hG _ _ _ _ _ _ S ?_
          rw [hn, nI_1, nI_1]
          refine pk_le nc m (fun z => by omega) (fun _ => ?_)
          rcases hf with ⟨z1, z2, z3⟩ | ⟨z1, z2⟩
          · subst z1
            have go1 : (m ≠ k → bt (rc a &&& rc b) m = true → ¬ bt (rc m) k = true) → G 46 [some (.inr (21, 0)), some (.inl (nI a)), some (.inl (nI b)), some (.inl (rc a &&& rc b)), some (.inl (nI k)), some (.inl 1), some (.inl (nI (m + 1)))] [] S 0 := fun y => ihm 1 (Or.inl ⟨rfl, z2, fun j hj q1 q2 => by
              by_cases e : j = m
              · subst e; exact y q1 q2
              · exact z3 j (by omega) q1 q2⟩)
            refine ⟨fun y => absurd y (by decide), fun _ => pk_eq m k (fun e => go1 (fun y => absurd e y)) (fun e => ?_)⟩
            rw [bv _ (show m < 32 by omega)]
            by_cases c : bt (rc a &&& rc b) m = true
            · rw [if_pos c]
              refine ⟨fun y => absurd y (by decide), fun _ => ⟨vp_in_nI (by omega) (by decide), ?_⟩⟩
              rw [nI_clamp (by omega), hrc m hm2, bv _ (show k < 32 by omega)]
              by_cases d : bt (rc m) k = true
              · rw [if_pos d]
                exact ⟨fun y => absurd y (by decide), fun _ => ihm 0 (Or.inr ⟨rfl, fun y => y.2 m hm2 e c d⟩)⟩
              · rw [if_neg d]
                exact ⟨fun _ => go1 (fun _ _ => d), fun y => absurd rfl y⟩
            · rw [if_neg c]
              exact ⟨fun _ => go1 (fun _ y => absurd y c), fun y => absurd rfl y⟩
          · subst z1
            exact ⟨fun _ => ihm 0 (Or.inr ⟨rfl, z2⟩), fun y => absurd rfl y⟩
      refine bl_X6_baseOf_17 hG _ _ _ _ S ?_
      rw [hn]
      refine pk_le nc k (fun z => by omega) (fun _ => ?_)
      rw [bv _ (show k < 32 by omega)]
      by_cases c : bt (rc a &&& rc b) k = true
      · rw [if_pos c]
        exact ⟨fun _ => inner 0 (by omega) 1 (Or.inl ⟨rfl, c, fun j hj => by omega⟩), fun y => absurd rfl y⟩
      · rw [if_neg c]
        exact ⟨fun y => absurd y (by decide), fun _ => inner 0 (by omega) 0 (Or.inr ⟨rfl, fun y => c y.1⟩)⟩
  exact key 0 (by omega) (fun j hj => by omega)
theorem fb_first {p : Nat → Prop} [DecidablePred p] : ∀ {n : Nat}, (∃ i, i < n ∧ p i) → ∃ i, i < n ∧ p i ∧ ∀ j, j < i → ¬ p j
  | 0, h => by obtain ⟨i, hi, -⟩ := h; exact absurd hi (Nat.not_lt_zero i)
  | n + 1, h => by
    by_cases q : ∃ i, i < n ∧ p i
    · obtain ⟨i, h1, h2⟩ := fb_first q
      exact ⟨i, by omega, h2⟩
    · obtain ⟨i, h1, h2⟩ := h
      have e : i = n := by
        rcases Nat.lt_or_ge i n with r | r
        · exact absurd ⟨i, r, h2⟩ q
        · omega
      subst e
      exact ⟨i, by omega, h2, fun j hj hp => q ⟨j, hj, hp⟩⟩
theorem fb_first_one {p : Nat → Prop} {i j : Nat} (hi : p i) (hi2 : ∀ k, k < i → ¬ p k) (hj : p j) (hj2 : ∀ k, k < j → ¬ p k) : i = j := by
  rcases Nat.lt_trichotomy i j with q | q | q
  · exact absurd hi (hj2 i q)
  · exact q
  · exact absurd hj (hi2 j q)
theorem fb_last {p : Nat → Prop} [DecidablePred p] : ∀ {n : Nat}, (∃ i, i < n ∧ p i) → ∃ i, i < n ∧ p i ∧ ∀ j, i < j → j < n → ¬ p j
  | 0, h => by obtain ⟨i, hi, -⟩ := h; exact absurd hi (Nat.not_lt_zero i)
  | n + 1, h => by
    by_cases q : p n
    · exact ⟨n, by omega, q, fun j h1 h2 => by omega⟩
    · obtain ⟨i, h1, h2⟩ := h
      have hi : i < n := by
        rcases Nat.lt_or_ge i n with r | r
        · exact r
        · have e : i = n := by omega
          subst e
          exact absurd h2 q
      obtain ⟨i2, a1, a2, a3⟩ := fb_last (n := n) ⟨i, hi, h2⟩
      refine ⟨i2, by omega, a2, fun j b1 b2 => ?_⟩
      rcases Nat.lt_or_ge j n with r | r
      · exact a3 j b1 r
      · have e : j = n := by omega
        subst e
        exact q
theorem base_ex {g : gD} (hd : JD g) {a b : Nat} (ha : a < gNc g) (hb : b < gNc g) : ∃ i, i < gNc g ∧ Bs (gRc g) (gNc g) (gRc g a &&& gRc g b) i := by
  have hnc := hd.2.1.2
  have hr := hd.2.2.2.2.2.1
  have h0 : bt (gRc g a &&& gRc g b) 0 = true := (bi_bt (by omega)).mp ((bi_and (by omega)).mpr ⟨(hr a ha).2.1, (hr b hb).2.1⟩)
  obtain ⟨i, hi, hc, hmax⟩ := fb_last (p := fun i => bt (gRc g a &&& gRc g b) i = true) (n := gNc g) ⟨0, by omega, h0⟩
  refine ⟨i, hi, hc, fun j hj hne hcj hji => ?_⟩
  rcases Nat.lt_or_ge i j with q | q
  · exact hmax j q hj hcj
  · exact (hr j hj).2.2.2 i (by omega) (by omega) ((bi_bt (by omega)).mpr hji)
