theorem bl_J6_bitCount_0f7a4_0 {Q : ab_Po} {G : ab_Gt} (hG : ab_Cl M_J6_bitCount_0f7a4 Q G) (x0 : Int32) (S : ab_S) (h : Q (.inl (some ((((((((x0 - (((x0.toUInt32 >>> ((1 : Int32).toUInt32 &&& Int32.toUInt32 31)).toInt32) &&& (1431655765))) &&& (858993459)) + ((((x0 - (((x0.toUInt32 >>> ((1 : Int32).toUInt32 &&& Int32.toUInt32 31)).toInt32) &&& (1431655765))).toUInt32 >>> ((2 : Int32).toUInt32 &&& Int32.toUInt32 31)).toInt32) &&& (858993459))) + (((((x0 - (((x0.toUInt32 >>> ((1 : Int32).toUInt32 &&& Int32.toUInt32 31)).toInt32) &&& (1431655765))) &&& (858993459)) + ((((x0 - (((x0.toUInt32 >>> ((1 : Int32).toUInt32 &&& Int32.toUInt32 31)).toInt32) &&& (1431655765))).toUInt32 >>> ((2 : Int32).toUInt32 &&& Int32.toUInt32 31)).toInt32) &&& (858993459))).toUInt32 >>> ((4 : Int32).toUInt32 &&& Int32.toUInt32 31)).toInt32)) &&& (252645135)) + (((((((x0 - (((x0.toUInt32 >>> ((1 : Int32).toUInt32 &&& Int32.toUInt32 31)).toInt32) &&& (1431655765))) &&& (858993459)) + ((((x0 - (((x0.toUInt32 >>> ((1 : Int32).toUInt32 &&& Int32.toUInt32 31)).toInt32) &&& (1431655765))).toUInt32 >>> ((2 : Int32).toUInt32 &&& Int32.toUInt32 31)).toInt32) &&& (858993459))) + (((((x0 - (((x0.toUInt32 >>> ((1 : Int32).toUInt32 &&& Int32.toUInt32 31)).toInt32) &&& (1431655765))) &&& (858993459)) + ((((x0 - (((x0.toUInt32 >>> ((1 : Int32).toUInt32 &&& Int32.toUInt32 31)).toInt32) &&& (1431655765))).toUInt32 >>> ((2 : Int32).toUInt32 &&& Int32.toUInt32 31)).toInt32) &&& (858993459))).toUInt32 >>> ((4 : Int32).toUInt32 &&& Int32.toUInt32 31)).toInt32)) &&& (252645135)).toUInt32 >>> ((8 : Int32).toUInt32 &&& Int32.toUInt32 31)).toInt32)) + ((((((((x0 - (((x0.toUInt32 >>> ((1 : Int32).toUInt32 &&& Int32.toUInt32 31)).toInt32) &&& (1431655765))) &&& (858993459)) + ((((x0 - (((x0.toUInt32 >>> ((1 : Int32).toUInt32 &&& Int32.toUInt32 31)).toInt32) &&& (1431655765))).toUInt32 >>> ((2 : Int32).toUInt32 &&& Int32.toUInt32 31)).toInt32) &&& (858993459))) + (((((x0 - (((x0.toUInt32 >>> ((1 : Int32).toUInt32 &&& Int32.toUInt32 31)).toInt32) &&& (1431655765))) &&& (858993459)) + ((((x0 - (((x0.toUInt32 >>> ((1 : Int32).toUInt32 &&& Int32.toUInt32 31)).toInt32) &&& (1431655765))).toUInt32 >>> ((2 : Int32).toUInt32 &&& Int32.toUInt32 31)).toInt32) &&& (858993459))).toUInt32 >>> ((4 : Int32).toUInt32 &&& Int32.toUInt32 31)).toInt32)) &&& (252645135)) + (((((((x0 - (((x0.toUInt32 >>> ((1 : Int32).toUInt32 &&& Int32.toUInt32 31)).toInt32) &&& (1431655765))) &&& (858993459)) + ((((x0 - (((x0.toUInt32 >>> ((1 : Int32).toUInt32 &&& Int32.toUInt32 31)).toInt32) &&& (1431655765))).toUInt32 >>> ((2 : Int32).toUInt32 &&& Int32.toUInt32 31)).toInt32) &&& (858993459))) + (((((x0 - (((x0.toUInt32 >>> ((1 : Int32).toUInt32 &&& Int32.toUInt32 31)).toInt32) &&& (1431655765))) &&& (858993459)) + ((((x0 - (((x0.toUInt32 >>> ((1 : Int32).toUInt32 &&& Int32.toUInt32 31)).toInt32) &&& (1431655765))).toUInt32 >>> ((2 : Int32).toUInt32 &&& Int32.toUInt32 31)).toInt32) &&& (858993459))).toUInt32 >>> ((4 : Int32).toUInt32 &&& Int32.toUInt32 31)).toInt32)) &&& (252645135)).toUInt32 >>> ((8 : Int32).toUInt32 &&& Int32.toUInt32 31)).toInt32)).toUInt32 >>> ((16 : Int32).toUInt32 &&& Int32.toUInt32 31)).toInt32)) &&& (63 : Int32)))) S) : G 0 [some (.inl x0)] [] S 0 := by
  refine ab_iload_n' hG 0 _ _ _ _ 0 _ dJ6_bitCount_0f7a4_0 rfl ?_
  refine ab_iload_n' hG 1 _ _ _ _ 0 _ dJ6_bitCount_0f7a4_1 rfl ?_
  refine ab_iconst' hG 2 _ _ _ _ 1 1 dJ6_bitCount_0f7a4_2 (by decide) ?_
  refine ab_iushr' hG 3 _ _ _ _ _ _ dJ6_bitCount_0f7a4_3 ?_
  refine ab_ldc_w' hG 4 _ _ _ _ 265 (1431655765) dJ6_bitCount_0f7a4_4 (List.Mem.head _) ?_
  refine ab_iand' hG 7 _ _ _ _ _ _ dJ6_bitCount_0f7a4_7 ?_
  refine ab_isub' hG 8 _ _ _ _ _ _ dJ6_bitCount_0f7a4_8 ?_
  refine ab_istore_n' hG 9 _ _ _ _ 0 _ dJ6_bitCount_0f7a4_9 (Nat.le_of_ble_eq_true rfl) ?_
  refine ab_iload_n' hG 10 _ _ _ _ 0 _ dJ6_bitCount_0f7a4_10 rfl ?_
  refine ab_ldc_w' hG 11 _ _ _ _ 266 (858993459) dJ6_bitCount_0f7a4_11 (List.Mem.tail _ (List.Mem.head _)) ?_
  refine ab_iand' hG 14 _ _ _ _ _ _ dJ6_bitCount_0f7a4_14 ?_
  refine ab_iload_n' hG 15 _ _ _ _ 0 _ dJ6_bitCount_0f7a4_15 rfl ?_
  refine ab_iconst' hG 16 _ _ _ _ 2 2 dJ6_bitCount_0f7a4_16 (by decide) ?_
  refine ab_iushr' hG 17 _ _ _ _ _ _ dJ6_bitCount_0f7a4_17 ?_
  refine ab_ldc_w' hG 18 _ _ _ _ 266 (858993459) dJ6_bitCount_0f7a4_18 (List.Mem.tail _ (List.Mem.head _)) ?_
  refine ab_iand' hG 21 _ _ _ _ _ _ dJ6_bitCount_0f7a4_21 ?_
  refine ab_iadd' hG 22 _ _ _ _ _ _ dJ6_bitCount_0f7a4_22 ?_
  refine ab_istore_n' hG 23 _ _ _ _ 0 _ dJ6_bitCount_0f7a4_23 (Nat.le_of_ble_eq_true rfl) ?_
  refine ab_iload_n' hG 24 _ _ _ _ 0 _ dJ6_bitCount_0f7a4_24 rfl ?_
  refine ab_iload_n' hG 25 _ _ _ _ 0 _ dJ6_bitCount_0f7a4_25 rfl ?_
  refine ab_iconst' hG 26 _ _ _ _ 4 4 dJ6_bitCount_0f7a4_26 (by decide) ?_
  refine ab_iushr' hG 27 _ _ _ _ _ _ dJ6_bitCount_0f7a4_27 ?_
  refine ab_iadd' hG 28 _ _ _ _ _ _ dJ6_bitCount_0f7a4_28 ?_
  refine ab_ldc_w' hG 29 _ _ _ _ 267 (252645135) dJ6_bitCount_0f7a4_29 (List.Mem.tail _ (List.Mem.tail _ (List.Mem.head _))) ?_
  refine ab_iand' hG 32 _ _ _ _ _ _ dJ6_bitCount_0f7a4_32 ?_
  refine ab_istore_n' hG 33 _ _ _ _ 0 _ dJ6_bitCount_0f7a4_33 (Nat.le_of_ble_eq_true rfl) ?_
  refine ab_iload_n' hG 34 _ _ _ _ 0 _ dJ6_bitCount_0f7a4_34 rfl ?_
  refine ab_iload_n' hG 35 _ _ _ _ 0 _ dJ6_bitCount_0f7a4_35 rfl ?_
  refine ab_bipush' hG 36 _ _ _ _ 8 8 dJ6_bitCount_0f7a4_36 (by decide) ?_
  refine ab_iushr' hG 38 _ _ _ _ _ _ dJ6_bitCount_0f7a4_38 ?_
  refine ab_iadd' hG 39 _ _ _ _ _ _ dJ6_bitCount_0f7a4_39 ?_
  refine ab_istore_n' hG 40 _ _ _ _ 0 _ dJ6_bitCount_0f7a4_40 (Nat.le_of_ble_eq_true rfl) ?_
  refine ab_iload_n' hG 41 _ _ _ _ 0 _ dJ6_bitCount_0f7a4_41 rfl ?_
  refine ab_iload_n' hG 42 _ _ _ _ 0 _ dJ6_bitCount_0f7a4_42 rfl ?_
  refine ab_bipush' hG 43 _ _ _ _ 16 16 dJ6_bitCount_0f7a4_43 (by decide) ?_
  refine ab_iushr' hG 45 _ _ _ _ _ _ dJ6_bitCount_0f7a4_45 ?_
  refine ab_iadd' hG 46 _ _ _ _ _ _ dJ6_bitCount_0f7a4_46 ?_
  refine ab_istore_n' hG 47 _ _ _ _ 0 _ dJ6_bitCount_0f7a4_47 (Nat.le_of_ble_eq_true rfl) ?_
  refine ab_iload_n' hG 48 _ _ _ _ 0 _ dJ6_bitCount_0f7a4_48 rfl ?_
  refine ab_bipush' hG 49 _ _ _ _ 63 63 dJ6_bitCount_0f7a4_49 (by decide) ?_
  refine ab_iand' hG 51 _ _ _ _ _ _ dJ6_bitCount_0f7a4_51 ?_
  exact ab_ireturn' hG 52 _ _ _ _ dJ6_bitCount_0f7a4_52 (Or.inl rfl) (by decide) h
theorem bl_X4_parentSpot_0 {Q : ab_Po} {G : ab_Gt} (hG : ab_Cl M_X4_parentSpot Q G) (t0 : Nat) (x1 : Int32) (S : ab_S) (h : vp_in x1 24 ∧ vp_in (S 5 t0 x1.toNatClampNeg) 24 ∧ (0 ≤ (S 7 t0 (S 5 t0 x1.toNatClampNeg).toNatClampNeg) → vp_in (S 7 t0 (S 5 t0 x1.toNatClampNeg).toNatClampNeg) 24 ∧ Q (.inl (some (S 6 t0 (S 7 t0 (S 5 t0 x1.toNatClampNeg).toNatClampNeg).toNatClampNeg))) S) ∧ (¬ 0 ≤ (S 7 t0 (S 5 t0 x1.toNatClampNeg).toNatClampNeg) → Q (.inl (some (-1 : Int32))) S)) : G 0 [some (.inr (4, t0)), some (.inl x1), none] [] S 0 := by
  refine ab_aload_n' hG 0 _ _ _ _ 0 _ dX4_parentSpot_0 rfl ?_
  refine ab_gR hG 1 _ _ _ _ 18 4 2 t0 (7, t0) dX4_parentSpot_1 (List.Mem.head _) rfl ?_
  refine ab_aload_n' hG 4 _ _ _ _ 0 _ dX4_parentSpot_4 rfl ?_
  refine ab_gR hG 5 _ _ _ _ 9 4 0 t0 (5, t0) dX4_parentSpot_5 (List.Mem.tail _ (List.Mem.head _)) rfl ?_
  refine ab_iload_n' hG 8 _ _ _ _ 1 _ dX4_parentSpot_8 rfl ?_
  refine ab_iaload' hG 9 _ _ _ _ 5 t0 24 _ dX4_parentSpot_9 rfl h.1 ?_
  have h := h.2
  refine ab_iaload' hG 10 _ _ _ _ 7 t0 24 _ dX4_parentSpot_10 rfl h.1 ?_
  have h := h.2
  refine ab_istore_n' hG 11 _ _ _ _ 2 _ dX4_parentSpot_11 (Nat.le_of_ble_eq_true rfl) ?_
  refine ab_iload_n' hG 12 _ _ _ _ 2 _ dX4_parentSpot_12 rfl ?_
  refine ab_if_ge' hG 13 _ _ _ _ (7) 20 _ dX4_parentSpot_13 (by decide) (fun hc => ?_) (fun hc => ?_)
  · have h := h.1 hc
    refine ab_aload_n' hG 20 _ _ _ _ 0 _ dX4_parentSpot_20 rfl ?_
    refine ab_gR hG 21 _ _ _ _ 15 4 1 t0 (6, t0) dX4_parentSpot_21 (List.Mem.tail _ (List.Mem.tail _ (List.Mem.head _))) rfl ?_
    refine ab_iload_n' hG 24 _ _ _ _ 2 _ dX4_parentSpot_24 rfl ?_
    refine ab_iaload' hG 25 _ _ _ _ 6 t0 24 _ dX4_parentSpot_25 rfl h.1 ?_
    have h := h.2
    exact ab_ireturn' hG 26 _ _ _ _ dX4_parentSpot_26 (Or.inl rfl) (by decide) h
  · have h := h.2 hc
    refine ab_iconst' hG 16 _ _ _ _ (-1) (-1) dX4_parentSpot_16 (by decide) ?_
    refine ab_goto' hG 17 _ _ _ _ (9) 26 dX4_parentSpot_17 (by decide) ?_
    exact ab_ireturn' hG 26 _ _ _ _ dX4_parentSpot_26 (Or.inl rfl) (by decide) h
theorem bl_X4_endOf_0 {Q : ab_Po} {G : ab_Gt} (hG : ab_Cl M_X4_endOf Q G) (t0 : Nat) (x1 : Int32) (S : ab_S) (h : G 4 [some (.inr (4, t0)), some (.inl x1), some (.inl (x1 + (1 : Int32)))] [] S 0) : G 0 [some (.inr (4, t0)), some (.inl x1), none] [] S 0 := by
  refine ab_iload_n' hG 0 _ _ _ _ 1 _ dX4_endOf_0 rfl ?_
  refine ab_iconst' hG 1 _ _ _ _ 1 1 dX4_endOf_1 (by decide) ?_
  refine ab_iadd' hG 2 _ _ _ _ _ _ dX4_endOf_2 ?_
  refine ab_istore_n' hG 3 _ _ _ _ 2 _ dX4_endOf_3 (Nat.le_of_ble_eq_true rfl) ?_
  exact h
theorem bl_X4_endOf_4 {Q : ab_Po} {G : ab_Gt} (hG : ab_Cl M_X4_endOf Q G) (t0 : Nat) (x1 : Int32) (x2 : Int32) (S : ab_S) (h : ((S 4 t0 4) ≤ x2 → Q (.inl (some (S 4 t0 4))) S) ∧ (¬ (S 4 t0 4) ≤ x2 → Sp_X4_parentSpot [(.inr (4, t0)), (.inl x2)] S (ab_back Q G 17 [some (.inr (4, t0)), some (.inl x1), some (.inl x2)] [] 0))) : G 4 [some (.inr (4, t0)), some (.inl x1), some (.inl x2)] [] S 0 := by
  refine ab_iload_n' hG 4 _ _ _ _ 2 _ dX4_endOf_4 rfl ?_
  refine ab_aload_n' hG 5 _ _ _ _ 0 _ dX4_endOf_5 rfl ?_
  refine ab_gI hG 6 _ _ _ _ 36 4 4 t0 dX4_endOf_6 (List.Mem.head _) rfl ?_
  refine ab_icmp_ge' hG 9 _ _ _ _ (20) 29 _ _ dX4_endOf_9 (by decide) (fun hc => ?_) (fun hc => ?_)
  · have h := h.1 hc
    refine ab_aload_n' hG 29 _ _ _ _ 0 _ dX4_endOf_29 rfl ?_
    refine ab_gI hG 30 _ _ _ _ 36 4 4 t0 dX4_endOf_30 (List.Mem.head _) rfl ?_
    exact ab_ireturn' hG 33 _ _ _ _ dX4_endOf_33 (Or.inl rfl) (by decide) h
  · have h := h.2 hc
    refine ab_aload_n' hG 12 _ _ _ _ 0 _ dX4_endOf_12 rfl ?_
    refine ab_iload_n' hG 13 _ _ _ _ 2 _ dX4_endOf_13 rfl ?_
    exact ab_invv' hG 14 _ [_] _ _ 0 54 _ 1 1 0 _ (4, _) dX4_endOf_14 rfl rfl rfl rfl (Nat.le_of_ble_eq_true rfl) (Nat.le_of_ble_eq_true rfl) h
theorem bl_X4_endOf_17 {Q : ab_Po} {G : ab_Gt} (hG : ab_Cl M_X4_endOf Q G) (t0 : Nat) (x1 : Int32) (x2 : Int32) (xs0 : Int32) (S : ab_S) (h : (x1 ≤ xs0 → G 4 [some (.inr (4, t0)), some (.inl x1), some (.inl (x2 + 1))] [] S 0) ∧ (¬ x1 ≤ xs0 → Q (.inl (some x2)) S)) : G 17 [some (.inr (4, t0)), some (.inl x1), some (.inl x2)] [(.inl xs0)] S 0 := by
  refine ab_iload_n' hG 17 _ _ _ _ 1 _ dX4_endOf_17 rfl ?_
  refine ab_icmp_ge' hG 18 _ _ _ _ (5) 23 _ _ dX4_endOf_18 (by decide) (fun hc => ?_) (fun hc => ?_)
  · have h := h.1 hc
    refine ab_iinc' hG 23 _ _ _ _ 2 1 _ _ dX4_endOf_23 rfl rfl ?_
    refine ab_goto' hG 26 _ _ _ _ (-22) 4 dX4_endOf_26 (by decide) ?_
    exact h
  · have h := h.2 hc
    refine ab_iload_n' hG 21 _ _ _ _ 2 _ dX4_endOf_21 rfl ?_
    exact ab_ireturn' hG 22 _ _ _ _ dX4_endOf_22 (Or.inl rfl) (by decide) h
theorem bl_X4_copyFrom_0 {Q : ab_Po} {G : ab_Gt} (hG : ab_Cl M_X4_copyFrom Q G) (t0 : Nat) (t1 : Nat) (S : ab_S) (h : ¬ (0 : Int32) < 0 ∧ ¬ (0 : Int32) < 0 ∧ ¬ (24 : Int32) < 0 ∧ (0 : Int32).toNatClampNeg + (24 : Int32).toNatClampNeg ≤ 24 ∧ (0 : Int32).toNatClampNeg + (24 : Int32).toNatClampNeg ≤ 24 ∧ (∀ S1 : ab_S, S1 = ab_sr S 5 t0 (va_cpy (S 5 t1) (S 5 t0) (0 : Int32).toNatClampNeg (0 : Int32).toNatClampNeg (24 : Int32).toNatClampNeg) → ¬ (0 : Int32) < 0 ∧ ¬ (0 : Int32) < 0 ∧ ¬ (24 : Int32) < 0 ∧ (0 : Int32).toNatClampNeg + (24 : Int32).toNatClampNeg ≤ 24 ∧ (0 : Int32).toNatClampNeg + (24 : Int32).toNatClampNeg ≤ 24 ∧ (∀ S2 : ab_S, S2 = ab_sr S1 6 t0 (va_cpy (S1 6 t1) (S1 6 t0) (0 : Int32).toNatClampNeg (0 : Int32).toNatClampNeg (24 : Int32).toNatClampNeg) → ¬ (0 : Int32) < 0 ∧ ¬ (0 : Int32) < 0 ∧ ¬ (24 : Int32) < 0 ∧ (0 : Int32).toNatClampNeg + (24 : Int32).toNatClampNeg ≤ 24 ∧ (0 : Int32).toNatClampNeg + (24 : Int32).toNatClampNeg ≤ 24 ∧ (∀ S3 : ab_S, S3 = ab_sr S2 7 t0 (va_cpy (S2 7 t1) (S2 7 t0) (0 : Int32).toNatClampNeg (0 : Int32).toNatClampNeg (24 : Int32).toNatClampNeg) → ¬ (0 : Int32) < 0 ∧ ¬ (0 : Int32) < 0 ∧ ¬ (24 : Int32) < 0 ∧ (0 : Int32).toNatClampNeg + (24 : Int32).toNatClampNeg ≤ 24 ∧ (0 : Int32).toNatClampNeg + (24 : Int32).toNatClampNeg ≤ 24 ∧ (∀ S4 : ab_S, S4 = ab_sr S3 8 t0 (va_cpy (S3 8 t1) (S3 8 t0) (0 : Int32).toNatClampNeg (0 : Int32).toNatClampNeg (24 : Int32).toNatClampNeg) → (∀ S5 : ab_S, S5 = ab_su S4 4 t0 4 (S4 4 t1 4) → Q (.inl none) S5)))))) : G 0 [some (.inr (4, t0)), some (.inr (4, t1))] [] S 0 := by
  refine ab_aload_n' hG 0 _ _ _ _ 1 _ dX4_copyFrom_0 rfl ?_
  refine ab_gR hG 1 _ _ _ _ 9 4 0 t1 (5, t1) dX4_copyFrom_1 (List.Mem.head _) rfl ?_
  refine ab_iconst' hG 4 _ _ _ _ 0 0 dX4_copyFrom_4 (by decide) ?_
  refine ab_aload_n' hG 5 _ _ _ _ 0 _ dX4_copyFrom_5 rfl ?_
  refine ab_gR hG 6 _ _ _ _ 9 4 0 t0 (5, t0) dX4_copyFrom_6 (List.Mem.head _) rfl ?_
  refine ab_iconst' hG 9 _ _ _ _ 0 0 dX4_copyFrom_9 (by decide) ?_
  refine ab_bipush' hG 10 _ _ _ _ 24 24 dX4_copyFrom_10 (by decide) ?_
  refine ab_acopy' hG 12 _ _ _ _ 40 5 t1 5 t0 24 24 _ _ _ dX4_copyFrom_12 (List.Mem.head _) rfl rfl h.1 h.2.1 h.2.2.1 h.2.2.2.1 h.2.2.2.2.1 (Nat.le_of_ble_eq_true rfl) ?_
  have h := h.2.2.2.2.2
  have h := h _ rfl
  refine ab_aload_n' hG 15 _ _ _ _ 1 _ dX4_copyFrom_15 rfl ?_
  refine ab_gR hG 16 _ _ _ _ 15 4 1 t1 (6, t1) dX4_copyFrom_16 (List.Mem.tail _ (List.Mem.head _)) rfl ?_
  refine ab_iconst' hG 19 _ _ _ _ 0 0 dX4_copyFrom_19 (by decide) ?_
  refine ab_aload_n' hG 20 _ _ _ _ 0 _ dX4_copyFrom_20 rfl ?_
  refine ab_gR hG 21 _ _ _ _ 15 4 1 t0 (6, t0) dX4_copyFrom_21 (List.Mem.tail _ (List.Mem.head _)) rfl ?_
  refine ab_iconst' hG 24 _ _ _ _ 0 0 dX4_copyFrom_24 (by decide) ?_
  refine ab_bipush' hG 25 _ _ _ _ 24 24 dX4_copyFrom_25 (by decide) ?_
  refine ab_acopy' hG 27 _ _ _ _ 40 6 t1 6 t0 24 24 _ _ _ dX4_copyFrom_27 (List.Mem.head _) rfl rfl h.1 h.2.1 h.2.2.1 h.2.2.2.1 h.2.2.2.2.1 (Nat.le_of_ble_eq_true rfl) ?_
  have h := h.2.2.2.2.2
  have h := h _ rfl
  refine ab_aload_n' hG 30 _ _ _ _ 1 _ dX4_copyFrom_30 rfl ?_
  refine ab_gR hG 31 _ _ _ _ 18 4 2 t1 (7, t1) dX4_copyFrom_31 (List.Mem.tail _ (List.Mem.tail _ (List.Mem.head _))) rfl ?_
  refine ab_iconst' hG 34 _ _ _ _ 0 0 dX4_copyFrom_34 (by decide) ?_
  refine ab_aload_n' hG 35 _ _ _ _ 0 _ dX4_copyFrom_35 rfl ?_
  refine ab_gR hG 36 _ _ _ _ 18 4 2 t0 (7, t0) dX4_copyFrom_36 (List.Mem.tail _ (List.Mem.tail _ (List.Mem.head _))) rfl ?_
  refine ab_iconst' hG 39 _ _ _ _ 0 0 dX4_copyFrom_39 (by decide) ?_
  refine ab_bipush' hG 40 _ _ _ _ 24 24 dX4_copyFrom_40 (by decide) ?_
  refine ab_acopy' hG 42 _ _ _ _ 40 7 t1 7 t0 24 24 _ _ _ dX4_copyFrom_42 (List.Mem.head _) rfl rfl h.1 h.2.1 h.2.2.1 h.2.2.2.1 h.2.2.2.2.1 (Nat.le_of_ble_eq_true rfl) ?_
  have h := h.2.2.2.2.2
  have h := h _ rfl
  refine ab_aload_n' hG 45 _ _ _ _ 1 _ dX4_copyFrom_45 rfl ?_
  refine ab_gR hG 46 _ _ _ _ 21 4 3 t1 (8, t1) dX4_copyFrom_46 (List.Mem.tail _ (List.Mem.tail _ (List.Mem.tail _ (List.Mem.head _)))) rfl ?_
  refine ab_iconst' hG 49 _ _ _ _ 0 0 dX4_copyFrom_49 (by decide) ?_
  refine ab_aload_n' hG 50 _ _ _ _ 0 _ dX4_copyFrom_50 rfl ?_
  refine ab_gR hG 51 _ _ _ _ 21 4 3 t0 (8, t0) dX4_copyFrom_51 (List.Mem.tail _ (List.Mem.tail _ (List.Mem.tail _ (List.Mem.head _)))) rfl ?_
  refine ab_iconst' hG 54 _ _ _ _ 0 0 dX4_copyFrom_54 (by decide) ?_
  refine ab_bipush' hG 55 _ _ _ _ 24 24 dX4_copyFrom_55 (by decide) ?_
  refine ab_acopy' hG 57 _ _ _ _ 40 8 t1 8 t0 24 24 _ _ _ dX4_copyFrom_57 (List.Mem.head _) rfl rfl h.1 h.2.1 h.2.2.1 h.2.2.2.1 h.2.2.2.2.1 (Nat.le_of_ble_eq_true rfl) ?_
  have h := h.2.2.2.2.2
  have h := h _ rfl
  refine ab_aload_n' hG 60 _ _ _ _ 0 _ dX4_copyFrom_60 rfl ?_
  refine ab_aload_n' hG 61 _ _ _ _ 1 _ dX4_copyFrom_61 rfl ?_
  refine ab_gI hG 62 _ _ _ _ 36 4 4 t1 dX4_copyFrom_62 (List.Mem.tail _ (List.Mem.tail _ (List.Mem.tail _ (List.Mem.tail _ (List.Mem.head _))))) rfl ?_
  refine ab_putfield' hG 65 _ _ _ _ 36 4 4 t0 _ dX4_copyFrom_65 (List.Mem.head _) ?_
  have h := h _ rfl
  exact ab_return_' hG 68 _ _ _ dX4_copyFrom_68 rfl (by decide) h
theorem bl_X4_clear_0 {Q : ab_Po} {G : ab_Gt} (hG : ab_Cl M_X4_clear Q G) (t0 : Nat) (S : ab_S) (h : Sp_J7_fill_53178 [(.inr (7, t0)), (.inl (-2 : Int32))] S (ab_back Q G 9 [some (.inr (4, t0))] [] 0)) : G 0 [some (.inr (4, t0))] [] S 0 := by
  refine ab_aload_n' hG 0 _ _ _ _ 0 _ dX4_clear_0 rfl ?_
  refine ab_gR hG 1 _ _ _ _ 18 4 2 t0 (7, t0) dX4_clear_1 (List.Mem.head _) rfl ?_
  refine ab_bipush' hG 4 _ _ _ _ (-2) (-2) dX4_clear_4 (by decide) ?_
  exact ab_invs' hG 6 _ [_, _] _ _ 0 30 _ 2 0 0 _ dX4_clear_6 rfl rfl (Nat.le_of_ble_eq_true rfl) (Nat.le_of_ble_eq_true rfl) h
theorem bl_X4_clear_9 {Q : ab_Po} {G : ab_Gt} (hG : ab_Cl M_X4_clear Q G) (t0 : Nat) (S : ab_S) (h : Sp_J7_fill_53178 [(.inr (8, t0)), (.inl (-2 : Int32))] S (ab_back Q G 18 [some (.inr (4, t0))] [] 0)) : G 9 [some (.inr (4, t0))] [] S 0 := by
  refine ab_aload_n' hG 9 _ _ _ _ 0 _ dX4_clear_9 rfl ?_
  refine ab_gR hG 10 _ _ _ _ 21 4 3 t0 (8, t0) dX4_clear_10 (List.Mem.tail _ (List.Mem.head _)) rfl ?_
  refine ab_bipush' hG 13 _ _ _ _ (-2) (-2) dX4_clear_13 (by decide) ?_
  exact ab_invs' hG 15 _ [_, _] _ _ 0 30 _ 2 0 0 _ dX4_clear_15 rfl rfl (Nat.le_of_ble_eq_true rfl) (Nat.le_of_ble_eq_true rfl) h
theorem bl_X4_clear_18 {Q : ab_Po} {G : ab_Gt} (hG : ab_Cl M_X4_clear Q G) (t0 : Nat) (S : ab_S) (h : (∀ S1 : ab_S, S1 = ab_su S 4 t0 4 (0 : Int32) → Q (.inl none) S1)) : G 18 [some (.inr (4, t0))] [] S 0 := by
  refine ab_aload_n' hG 18 _ _ _ _ 0 _ dX4_clear_18 rfl ?_
  refine ab_iconst' hG 19 _ _ _ _ 0 0 dX4_clear_19 (by decide) ?_
  refine ab_putfield' hG 20 _ _ _ _ 36 4 4 t0 _ dX4_clear_20 (List.Mem.head _) ?_
  have h := h _ rfl
  exact ab_return_' hG 23 _ _ _ dX4_clear_23 rfl (by decide) h
theorem bl_X4_holds_0 {Q : ab_Po} {G : ab_Gt} (hG : ab_Cl M_X4_holds Q G) (t0 : Nat) (x1 : Int32) (S : ab_S) (h : (x1 < 0 → Q (.inl (some (0 : Int32))) S) ∧ (¬ x1 < 0 → ((24 : Int32) ≤ x1 → Q (.inl (some (0 : Int32))) S) ∧ (¬ (24 : Int32) ≤ x1 → vp_in x1 24 ∧ ((S 8 t0 x1.toNatClampNeg) = (-2 : Int32) → Q (.inl (some (0 : Int32))) S) ∧ (¬ (S 8 t0 x1.toNatClampNeg) = (-2 : Int32) → Q (.inl (some (1 : Int32))) S)))) : G 0 [some (.inr (4, t0)), some (.inl x1)] [] S 0 := by
  refine ab_iload_n' hG 0 _ _ _ _ 1 _ dX4_holds_0 rfl ?_
  refine ab_if_lt' hG 1 _ _ _ _ (24) 25 _ dX4_holds_1 (by decide) (fun hc => ?_) (fun hc => ?_)
  · have h := h.1 hc
    refine ab_iconst' hG 25 _ _ _ _ 0 0 dX4_holds_25 (by decide) ?_
    exact ab_ireturn' hG 26 _ _ _ _ dX4_holds_26 (Or.inr ⟨rfl, Or.inl rfl⟩) (by decide) h
  · have h := h.2 hc
    refine ab_iload_n' hG 4 _ _ _ _ 1 _ dX4_holds_4 rfl ?_
    refine ab_bipush' hG 5 _ _ _ _ 24 24 dX4_holds_5 (by decide) ?_
    refine ab_icmp_ge' hG 7 _ _ _ _ (18) 25 _ _ dX4_holds_7 (by decide) (fun hc => ?_) (fun hc => ?_)
    · have h := h.1 hc
      refine ab_iconst' hG 25 _ _ _ _ 0 0 dX4_holds_25 (by decide) ?_
      exact ab_ireturn' hG 26 _ _ _ _ dX4_holds_26 (Or.inr ⟨rfl, Or.inl rfl⟩) (by decide) h
    · have h := h.2 hc
      refine ab_aload_n' hG 10 _ _ _ _ 0 _ dX4_holds_10 rfl ?_
      refine ab_gR hG 11 _ _ _ _ 21 4 3 t0 (8, t0) dX4_holds_11 (List.Mem.head _) rfl ?_
      refine ab_iload_n' hG 14 _ _ _ _ 1 _ dX4_holds_14 rfl ?_
      refine ab_iaload' hG 15 _ _ _ _ 8 t0 24 _ dX4_holds_15 rfl h.1 ?_
      have h := h.2
      refine ab_bipush' hG 16 _ _ _ _ (-2) (-2) dX4_holds_16 (by decide) ?_
      refine ab_icmp_eq' hG 18 _ _ _ _ (7) 25 _ _ dX4_holds_18 (by decide) (fun hc => ?_) (fun hc => ?_)
      · have h := h.1 hc
        refine ab_iconst' hG 25 _ _ _ _ 0 0 dX4_holds_25 (by decide) ?_
        exact ab_ireturn' hG 26 _ _ _ _ dX4_holds_26 (Or.inr ⟨rfl, Or.inl rfl⟩) (by decide) h
      · have h := h.2 hc
        refine ab_iconst' hG 21 _ _ _ _ 1 1 dX4_holds_21 (by decide) ?_
        refine ab_goto' hG 22 _ _ _ _ (4) 26 dX4_holds_22 (by decide) ?_
        exact ab_ireturn' hG 26 _ _ _ _ dX4_holds_26 (Or.inr ⟨rfl, Or.inr rfl⟩) (by decide) h
theorem bl_X4_hasAsIn_0 {Q : ab_Po} {G : ab_Gt} (hG : ab_Cl M_X4_hasAsIn Q G) (t0 : Nat) (t1 : Nat) (x2 : Int32) (S : ab_S) (h : vp_in x2 24 ∧ vp_in x2 24 ∧ ((S 8 t0 x2.toNatClampNeg) = (S 8 t1 x2.toNatClampNeg) → vp_in x2 24 ∧ vp_in x2 24 ∧ ((S 7 t0 x2.toNatClampNeg) = (S 7 t1 x2.toNatClampNeg) → Q (.inl (some (1 : Int32))) S) ∧ (¬ (S 7 t0 x2.toNatClampNeg) = (S 7 t1 x2.toNatClampNeg) → Q (.inl (some (0 : Int32))) S)) ∧ (¬ (S 8 t0 x2.toNatClampNeg) = (S 8 t1 x2.toNatClampNeg) → Q (.inl (some (0 : Int32))) S)) : G 0 [some (.inr (4, t0)), some (.inr (4, t1)), some (.inl x2)] [] S 0 := by
  refine ab_aload_n' hG 0 _ _ _ _ 0 _ dX4_hasAsIn_0 rfl ?_
  refine ab_gR hG 1 _ _ _ _ 21 4 3 t0 (8, t0) dX4_hasAsIn_1 (List.Mem.head _) rfl ?_
  refine ab_iload_n' hG 4 _ _ _ _ 2 _ dX4_hasAsIn_4 rfl ?_
  refine ab_iaload' hG 5 _ _ _ _ 8 t0 24 _ dX4_hasAsIn_5 rfl h.1 ?_
  have h := h.2
  refine ab_aload_n' hG 6 _ _ _ _ 1 _ dX4_hasAsIn_6 rfl ?_
  refine ab_gR hG 7 _ _ _ _ 21 4 3 t1 (8, t1) dX4_hasAsIn_7 (List.Mem.head _) rfl ?_
  refine ab_iload_n' hG 10 _ _ _ _ 2 _ dX4_hasAsIn_10 rfl ?_
  refine ab_iaload' hG 11 _ _ _ _ 8 t1 24 _ dX4_hasAsIn_11 rfl h.1 ?_
  have h := h.2
  refine ab_icmp_ne' hG 12 _ _ _ _ (22) 34 _ _ dX4_hasAsIn_12 (by decide) (fun hc => ?_) (fun hc => ?_)
  · have h := h.2 hc
    refine ab_iconst' hG 34 _ _ _ _ 0 0 dX4_hasAsIn_34 (by decide) ?_
    exact ab_ireturn' hG 35 _ _ _ _ dX4_hasAsIn_35 (Or.inr ⟨rfl, Or.inl rfl⟩) (by decide) h
  · have h := h.1 hc
    refine ab_aload_n' hG 15 _ _ _ _ 0 _ dX4_hasAsIn_15 rfl ?_
    refine ab_gR hG 16 _ _ _ _ 18 4 2 t0 (7, t0) dX4_hasAsIn_16 (List.Mem.tail _ (List.Mem.head _)) rfl ?_
    refine ab_iload_n' hG 19 _ _ _ _ 2 _ dX4_hasAsIn_19 rfl ?_
    refine ab_iaload' hG 20 _ _ _ _ 7 t0 24 _ dX4_hasAsIn_20 rfl h.1 ?_
    have h := h.2
    refine ab_aload_n' hG 21 _ _ _ _ 1 _ dX4_hasAsIn_21 rfl ?_
    refine ab_gR hG 22 _ _ _ _ 18 4 2 t1 (7, t1) dX4_hasAsIn_22 (List.Mem.tail _ (List.Mem.head _)) rfl ?_
    refine ab_iload_n' hG 25 _ _ _ _ 2 _ dX4_hasAsIn_25 rfl ?_
    refine ab_iaload' hG 26 _ _ _ _ 7 t1 24 _ dX4_hasAsIn_26 rfl h.1 ?_
    have h := h.2
    refine ab_icmp_ne' hG 27 _ _ _ _ (7) 34 _ _ dX4_hasAsIn_27 (by decide) (fun hc => ?_) (fun hc => ?_)
    · have h := h.2 hc
      refine ab_iconst' hG 34 _ _ _ _ 0 0 dX4_hasAsIn_34 (by decide) ?_
      exact ab_ireturn' hG 35 _ _ _ _ dX4_hasAsIn_35 (Or.inr ⟨rfl, Or.inl rfl⟩) (by decide) h
    · have h := h.1 hc
      refine ab_iconst' hG 30 _ _ _ _ 1 1 dX4_hasAsIn_30 (by decide) ?_
      refine ab_goto' hG 31 _ _ _ _ (4) 35 dX4_hasAsIn_31 (by decide) ?_
      exact ab_ireturn' hG 35 _ _ _ _ dX4_hasAsIn_35 (Or.inr ⟨rfl, Or.inr rfl⟩) (by decide) h
theorem bl_X4_renumberFrom_0 {Q : ab_Po} {G : ab_Gt} (hG : ab_Cl M_X4_renumberFrom Q G) (t0 : Nat) (x1 : Int32) (S : ab_S) (h : G 2 [some (.inr (4, t0)), some (.inl x1), some (.inl x1)] [] S 0) : G 0 [some (.inr (4, t0)), some (.inl x1), none] [] S 0 := by
  refine ab_iload_n' hG 0 _ _ _ _ 1 _ dX4_renumberFrom_0 rfl ?_
  refine ab_istore_n' hG 1 _ _ _ _ 2 _ dX4_renumberFrom_1 (Nat.le_of_ble_eq_true rfl) ?_
  exact h
theorem bl_X4_renumberFrom_2 {Q : ab_Po} {G : ab_Gt} (hG : ab_Cl M_X4_renumberFrom Q G) (t0 : Nat) (x1 : Int32) (x2 : Int32) (S : ab_S) (h : ((S 4 t0 4) ≤ x2 → Q (.inl none) S) ∧ (¬ (S 4 t0 4) ≤ x2 → vp_in x2 24 ∧ vp_in (S 5 t0 x2.toNatClampNeg) 24 ∧ (∀ S1 : ab_S, S1 = ab_su S 6 t0 (S 5 t0 x2.toNatClampNeg).toNatClampNeg x2 → G 2 [some (.inr (4, t0)), some (.inl x1), some (.inl (x2 + 1))] [] S1 0))) : G 2 [some (.inr (4, t0)), some (.inl x1), some (.inl x2)] [] S 0 := by
  refine ab_iload_n' hG 2 _ _ _ _ 2 _ dX4_renumberFrom_2 rfl ?_
  refine ab_aload_n' hG 3 _ _ _ _ 0 _ dX4_renumberFrom_3 rfl ?_
  refine ab_gI hG 4 _ _ _ _ 36 4 4 t0 dX4_renumberFrom_4 (List.Mem.head _) rfl ?_
  refine ab_icmp_ge' hG 7 _ _ _ _ (21) 28 _ _ dX4_renumberFrom_7 (by decide) (fun hc => ?_) (fun hc => ?_)
  · have h := h.1 hc
    exact ab_return_' hG 28 _ _ _ dX4_renumberFrom_28 rfl (by decide) h
  · have h := h.2 hc
    refine ab_aload_n' hG 10 _ _ _ _ 0 _ dX4_renumberFrom_10 rfl ?_
    refine ab_gR hG 11 _ _ _ _ 15 4 1 t0 (6, t0) dX4_renumberFrom_11 (List.Mem.tail _ (List.Mem.head _)) rfl ?_
    refine ab_aload_n' hG 14 _ _ _ _ 0 _ dX4_renumberFrom_14 rfl ?_
    refine ab_gR hG 15 _ _ _ _ 9 4 0 t0 (5, t0) dX4_renumberFrom_15 (List.Mem.tail _ (List.Mem.tail _ (List.Mem.head _))) rfl ?_
    refine ab_iload_n' hG 18 _ _ _ _ 2 _ dX4_renumberFrom_18 rfl ?_
    refine ab_iaload' hG 19 _ _ _ _ 5 t0 24 _ dX4_renumberFrom_19 rfl h.1 ?_
    have h := h.2
    refine ab_iload_n' hG 20 _ _ _ _ 2 _ dX4_renumberFrom_20 rfl ?_
    refine ab_iastore' hG 21 _ _ _ _ 6 t0 24 _ _ dX4_renumberFrom_21 rfl h.1 ?_
    have h := h.2
    have h := h _ rfl
    refine ab_iinc' hG 22 _ _ _ _ 2 1 _ _ dX4_renumberFrom_22 rfl rfl ?_
    refine ab_goto' hG 25 _ _ _ _ (-23) 2 dX4_renumberFrom_25 (by decide) ?_
    exact h
theorem bl_X4_putCarried_0 {Q : ab_Po} {G : ab_Gt} (hG : ab_Cl M_X4_putCarried Q G) (t0 : Nat) (x1 : Int32) (x2 : Int32) (S : ab_S) (h : ¬ x1 < 0 ∧ ¬ (x1 + x2) < 0 ∧ ¬ ((S 4 t0 4) - x1) < 0 ∧ x1.toNatClampNeg + ((S 4 t0 4) - x1).toNatClampNeg ≤ 24 ∧ (x1 + x2).toNatClampNeg + ((S 4 t0 4) - x1).toNatClampNeg ≤ 24 ∧ (∀ S1 : ab_S, S1 = ab_sr S 5 t0 (va_cpy (S 5 t0) (S 5 t0) x1.toNatClampNeg (x1 + x2).toNatClampNeg ((S 4 t0 4) - x1).toNatClampNeg) → ¬ (0 : Int32) < 0 ∧ ¬ x1 < 0 ∧ ¬ x2 < 0 ∧ (0 : Int32).toNatClampNeg + x2.toNatClampNeg ≤ 24 ∧ x1.toNatClampNeg + x2.toNatClampNeg ≤ 24 ∧ (∀ S2 : ab_S, S2 = ab_sr S1 5 t0 (va_cpy (S1 9 t0) (S1 5 t0) (0 : Int32).toNatClampNeg x1.toNatClampNeg x2.toNatClampNeg) → (∀ S3 : ab_S, S3 = ab_su S2 4 t0 4 ((S2 4 t0 4) + x2) → Sp_X4_renumberFrom [(.inr (4, t0)), (.inl x1)] S3 (ab_back Q G 50 [some (.inr (4, t0)), some (.inl x1), some (.inl x2)] [] 0))))) : G 0 [some (.inr (4, t0)), some (.inl x1), some (.inl x2)] [] S 0 := by
  refine ab_aload_n' hG 0 _ _ _ _ 0 _ dX4_putCarried_0 rfl ?_
  refine ab_gR hG 1 _ _ _ _ 9 4 0 t0 (5, t0) dX4_putCarried_1 (List.Mem.head _) rfl ?_
  refine ab_iload_n' hG 4 _ _ _ _ 1 _ dX4_putCarried_4 rfl ?_
  refine ab_aload_n' hG 5 _ _ _ _ 0 _ dX4_putCarried_5 rfl ?_
  refine ab_gR hG 6 _ _ _ _ 9 4 0 t0 (5, t0) dX4_putCarried_6 (List.Mem.head _) rfl ?_
  refine ab_iload_n' hG 9 _ _ _ _ 1 _ dX4_putCarried_9 rfl ?_
  refine ab_iload_n' hG 10 _ _ _ _ 2 _ dX4_putCarried_10 rfl ?_
  refine ab_iadd' hG 11 _ _ _ _ _ _ dX4_putCarried_11 ?_
  refine ab_aload_n' hG 12 _ _ _ _ 0 _ dX4_putCarried_12 rfl ?_
  refine ab_gI hG 13 _ _ _ _ 36 4 4 t0 dX4_putCarried_13 (List.Mem.tail _ (List.Mem.head _)) rfl ?_
  refine ab_iload_n' hG 16 _ _ _ _ 1 _ dX4_putCarried_16 rfl ?_
  refine ab_isub' hG 17 _ _ _ _ _ _ dX4_putCarried_17 ?_
  refine ab_acopy' hG 18 _ _ _ _ 40 5 t0 5 t0 24 24 _ _ _ dX4_putCarried_18 (List.Mem.head _) rfl rfl h.1 h.2.1 h.2.2.1 h.2.2.2.1 h.2.2.2.2.1 (Nat.le_of_ble_eq_true rfl) ?_
  have h := h.2.2.2.2.2
  have h := h _ rfl
  refine ab_aload_n' hG 21 _ _ _ _ 0 _ dX4_putCarried_21 rfl ?_
  refine ab_gR hG 22 _ _ _ _ 24 4 5 t0 (9, t0) dX4_putCarried_22 (List.Mem.tail _ (List.Mem.tail _ (List.Mem.head _))) rfl ?_
  refine ab_iconst' hG 25 _ _ _ _ 0 0 dX4_putCarried_25 (by decide) ?_
  refine ab_aload_n' hG 26 _ _ _ _ 0 _ dX4_putCarried_26 rfl ?_
  refine ab_gR hG 27 _ _ _ _ 9 4 0 t0 (5, t0) dX4_putCarried_27 (List.Mem.head _) rfl ?_
  refine ab_iload_n' hG 30 _ _ _ _ 1 _ dX4_putCarried_30 rfl ?_
  refine ab_iload_n' hG 31 _ _ _ _ 2 _ dX4_putCarried_31 rfl ?_
  refine ab_acopy' hG 32 _ _ _ _ 40 9 t0 5 t0 24 24 _ _ _ dX4_putCarried_32 (List.Mem.head _) rfl rfl h.1 h.2.1 h.2.2.1 h.2.2.2.1 h.2.2.2.2.1 (Nat.le_of_ble_eq_true rfl) ?_
  have h := h.2.2.2.2.2
  have h := h _ rfl
  refine ab_aload_n' hG 35 _ _ _ _ 0 _ dX4_putCarried_35 rfl ?_
  refine ab_dup' hG 36 _ _ _ _ _ dX4_putCarried_36 ?_
  refine ab_gI hG 37 _ _ _ _ 36 4 4 t0 dX4_putCarried_37 (List.Mem.tail _ (List.Mem.head _)) rfl ?_
  refine ab_iload_n' hG 40 _ _ _ _ 2 _ dX4_putCarried_40 rfl ?_
  refine ab_iadd' hG 41 _ _ _ _ _ _ dX4_putCarried_41 ?_
  refine ab_putfield' hG 42 _ _ _ _ 36 4 4 t0 _ dX4_putCarried_42 (List.Mem.head _) ?_
  have h := h _ rfl
  refine ab_aload_n' hG 45 _ _ _ _ 0 _ dX4_putCarried_45 rfl ?_
  refine ab_iload_n' hG 46 _ _ _ _ 1 _ dX4_putCarried_46 rfl ?_
  exact ab_invv' hG 47 _ [_] _ _ 0 71 _ 1 0 0 _ (4, _) dX4_putCarried_47 rfl rfl rfl rfl (Nat.le_of_ble_eq_true rfl) (Nat.le_of_ble_eq_true rfl) h
theorem bl_X4_putCarried_50 {Q : ab_Po} {G : ab_Gt} (hG : ab_Cl M_X4_putCarried Q G) (t0 : Nat) (x1 : Int32) (x2 : Int32) (S : ab_S) (h : Q (.inl none) S) : G 50 [some (.inr (4, t0)), some (.inl x1), some (.inl x2)] [] S 0 := by
  exact ab_return_' hG 50 _ _ _ dX4_putCarried_50 rfl (by decide) h
theorem bl_X4_putInto_0 {Q : ab_Po} {G : ab_Gt} (hG : ab_Cl M_X4_putInto Q G) (t0 : Nat) (x1 : Int32) (x2 : Int32) (S : ab_S) (h : vp_in (0 : Int32) 24 ∧ (∀ S1 : ab_S, S1 = ab_su S 9 t0 (0 : Int32).toNatClampNeg x2 → Sp_X4_putCarried [(.inr (4, t0)), (.inl x1), (.inl (1 : Int32))] S1 (ab_back Q G 13 [some (.inr (4, t0)), some (.inl x1), some (.inl x2)] [] 0))) : G 0 [some (.inr (4, t0)), some (.inl x1), some (.inl x2)] [] S 0 := by
  refine ab_aload_n' hG 0 _ _ _ _ 0 _ dX4_putInto_0 rfl ?_
  refine ab_gR hG 1 _ _ _ _ 24 4 5 t0 (9, t0) dX4_putInto_1 (List.Mem.head _) rfl ?_
  refine ab_iconst' hG 4 _ _ _ _ 0 0 dX4_putInto_4 (by decide) ?_
  refine ab_iload_n' hG 5 _ _ _ _ 2 _ dX4_putInto_5 rfl ?_
  refine ab_iastore' hG 6 _ _ _ _ 9 t0 24 _ _ dX4_putInto_6 rfl h.1 ?_
  have h := h.2
  have h := h _ rfl
  refine ab_aload_n' hG 7 _ _ _ _ 0 _ dX4_putInto_7 rfl ?_
  refine ab_iload_n' hG 8 _ _ _ _ 1 _ dX4_putInto_8 rfl ?_
  refine ab_iconst' hG 9 _ _ _ _ 1 1 dX4_putInto_9 (by decide) ?_
  exact ab_invv' hG 10 _ [_, _] _ _ 0 68 _ 2 0 0 _ (4, _) dX4_putInto_10 rfl rfl rfl rfl (Nat.le_of_ble_eq_true rfl) (Nat.le_of_ble_eq_true rfl) h
theorem bl_X4_putInto_13 {Q : ab_Po} {G : ab_Gt} (hG : ab_Cl M_X4_putInto Q G) (t0 : Nat) (x1 : Int32) (x2 : Int32) (S : ab_S) (h : Q (.inl none) S) : G 13 [some (.inr (4, t0)), some (.inl x1), some (.inl x2)] [] S 0 := by
  exact ab_return_' hG 13 _ _ _ dX4_putInto_13 rfl (by decide) h
theorem bl_X4_isSameAs_0 {Q : ab_Po} {G : ab_Gt} (hG : ab_Cl M_X4_isSameAs Q G) (t0 : Nat) (t1 : Nat) (S : ab_S) (h : ((S 4 t0 4) = (S 4 t1 4) → G 15 [some (.inr (4, t0)), some (.inr (4, t1)), some (.inl (0 : Int32)), none] [] S 0) ∧ (¬ (S 4 t0 4) = (S 4 t1 4) → Q (.inl (some (0 : Int32))) S)) : G 0 [some (.inr (4, t0)), some (.inr (4, t1)), none, none] [] S 0 := by
  refine ab_aload_n' hG 0 _ _ _ _ 0 _ dX4_isSameAs_0 rfl ?_
  refine ab_gI hG 1 _ _ _ _ 36 4 4 t0 dX4_isSameAs_1 (List.Mem.head _) rfl ?_
  refine ab_aload_n' hG 4 _ _ _ _ 1 _ dX4_isSameAs_4 rfl ?_
  refine ab_gI hG 5 _ _ _ _ 36 4 4 t1 dX4_isSameAs_5 (List.Mem.head _) rfl ?_
  refine ab_icmp_eq' hG 8 _ _ _ _ (5) 13 _ _ dX4_isSameAs_8 (by decide) (fun hc => ?_) (fun hc => ?_)
  · have h := h.1 hc
    refine ab_iconst' hG 13 _ _ _ _ 0 0 dX4_isSameAs_13 (by decide) ?_
    refine ab_istore_n' hG 14 _ _ _ _ 2 _ dX4_isSameAs_14 (Nat.le_of_ble_eq_true rfl) ?_
    exact h
  · have h := h.2 hc
    refine ab_iconst' hG 11 _ _ _ _ 0 0 dX4_isSameAs_11 (by decide) ?_
    exact ab_ireturn' hG 12 _ _ _ _ dX4_isSameAs_12 (Or.inr ⟨rfl, Or.inl rfl⟩) (by decide) h
theorem bl_X4_isSameAs_15 {Q : ab_Po} {G : ab_Gt} (hG : ab_Cl M_X4_isSameAs Q G) (t0 : Nat) (t1 : Nat) (x2 : Int32) (S : ab_S) (h : ((S 4 t0 4) ≤ x2 → Q (.inl (some (1 : Int32))) S) ∧ (¬ (S 4 t0 4) ≤ x2 → vp_in x2 24 ∧ vp_in x2 24 ∧ ((S 5 t1 x2.toNatClampNeg) = (S 5 t0 x2.toNatClampNeg) → Sp_X4_hasAsIn [(.inr (4, t0)), (.inr (4, t1)), (.inl (S 5 t0 x2.toNatClampNeg))] S (ab_back Q G 46 [some (.inr (4, t0)), some (.inr (4, t1)), some (.inl x2), some (.inl (S 5 t0 x2.toNatClampNeg))] [] 0)) ∧ (¬ (S 5 t1 x2.toNatClampNeg) = (S 5 t0 x2.toNatClampNeg) → Q (.inl (some (0 : Int32))) S))) : G 15 [some (.inr (4, t0)), some (.inr (4, t1)), some (.inl x2), none] [] S 0 := by
  refine ab_iload_n' hG 15 _ _ _ _ 2 _ dX4_isSameAs_15 rfl ?_
  refine ab_aload_n' hG 16 _ _ _ _ 0 _ dX4_isSameAs_16 rfl ?_
  refine ab_gI hG 17 _ _ _ _ 36 4 4 t0 dX4_isSameAs_17 (List.Mem.head _) rfl ?_
  refine ab_icmp_ge' hG 20 _ _ _ _ (37) 57 _ _ dX4_isSameAs_20 (by decide) (fun hc => ?_) (fun hc => ?_)
  · have h := h.1 hc
    refine ab_iconst' hG 57 _ _ _ _ 1 1 dX4_isSameAs_57 (by decide) ?_
    exact ab_ireturn' hG 58 _ _ _ _ dX4_isSameAs_58 (Or.inr ⟨rfl, Or.inr rfl⟩) (by decide) h
  · have h := h.2 hc
    refine ab_aload_n' hG 23 _ _ _ _ 0 _ dX4_isSameAs_23 rfl ?_
    refine ab_gR hG 24 _ _ _ _ 9 4 0 t0 (5, t0) dX4_isSameAs_24 (List.Mem.tail _ (List.Mem.head _)) rfl ?_
    refine ab_iload_n' hG 27 _ _ _ _ 2 _ dX4_isSameAs_27 rfl ?_
    refine ab_iaload' hG 28 _ _ _ _ 5 t0 24 _ dX4_isSameAs_28 rfl h.1 ?_
    have h := h.2
    refine ab_istore_n' hG 29 _ _ _ _ 3 _ dX4_isSameAs_29 (Nat.le_of_ble_eq_true rfl) ?_
    refine ab_aload_n' hG 30 _ _ _ _ 1 _ dX4_isSameAs_30 rfl ?_
    refine ab_gR hG 31 _ _ _ _ 9 4 0 t1 (5, t1) dX4_isSameAs_31 (List.Mem.tail _ (List.Mem.head _)) rfl ?_
    refine ab_iload_n' hG 34 _ _ _ _ 2 _ dX4_isSameAs_34 rfl ?_
    refine ab_iaload' hG 35 _ _ _ _ 5 t1 24 _ dX4_isSameAs_35 rfl h.1 ?_
    have h := h.2
    refine ab_iload_n' hG 36 _ _ _ _ 3 _ dX4_isSameAs_36 rfl ?_
    refine ab_icmp_ne' hG 37 _ _ _ _ (12) 49 _ _ dX4_isSameAs_37 (by decide) (fun hc => ?_) (fun hc => ?_)
    · have h := h.2 hc
      refine ab_iconst' hG 49 _ _ _ _ 0 0 dX4_isSameAs_49 (by decide) ?_
      exact ab_ireturn' hG 50 _ _ _ _ dX4_isSameAs_50 (Or.inr ⟨rfl, Or.inl rfl⟩) (by decide) h
    · have h := h.1 hc
      refine ab_aload_n' hG 40 _ _ _ _ 0 _ dX4_isSameAs_40 rfl ?_
      refine ab_aload_n' hG 41 _ _ _ _ 1 _ dX4_isSameAs_41 rfl ?_
      refine ab_iload_n' hG 42 _ _ _ _ 3 _ dX4_isSameAs_42 rfl ?_
      exact ab_invv' hG 43 _ [_, _] _ _ 0 46 _ 2 1 0 _ (4, _) dX4_isSameAs_43 rfl rfl rfl rfl (Nat.le_of_ble_eq_true rfl) (Nat.le_of_ble_eq_true rfl) h
theorem bl_X4_isSameAs_46 {Q : ab_Po} {G : ab_Gt} (hG : ab_Cl M_X4_isSameAs Q G) (t0 : Nat) (t1 : Nat) (x2 : Int32) (x3 : Int32) (xs0 : Int32) (S : ab_S) (h : (xs0 = 0 → Q (.inl (some (0 : Int32))) S) ∧ (¬ xs0 = 0 → G 15 [some (.inr (4, t0)), some (.inr (4, t1)), some (.inl (x2 + 1)), none] [] S 0)) : G 46 [some (.inr (4, t0)), some (.inr (4, t1)), some (.inl x2), some (.inl x3)] [(.inl xs0)] S 0 := by
  refine ab_if_ne' hG 46 _ _ _ _ (5) 51 _ dX4_isSameAs_46 (by decide) (fun hc => ?_) (fun hc => ?_)
  · have h := h.2 hc
    refine ab_iinc' hG 51 _ _ _ _ 2 1 _ _ dX4_isSameAs_51 rfl rfl ?_
    refine ab_goto' hG 54 _ _ _ _ (-39) 15 dX4_isSameAs_54 (by decide) ?_
    refine ab_forget' hG _ _ _ _ _ 3 ?_
    exact h
  · have h := h.1 hc
    refine ab_iconst' hG 49 _ _ _ _ 0 0 dX4_isSameAs_49 (by decide) ?_
    exact ab_ireturn' hG 50 _ _ _ _ dX4_isSameAs_50 (Or.inr ⟨rfl, Or.inl rfl⟩) (by decide) h
theorem bl_X4_isWithin_0 {Q : ab_Po} {G : ab_Gt} (hG : ab_Cl M_X4_isWithin Q G) (t0 : Nat) (x1 : Int32) (x2 : Int32) (S : ab_S) (h : vp_in x1 24 ∧ vp_in x2 24 ∧ ((S 6 t0 x1.toNatClampNeg) < (S 6 t0 x2.toNatClampNeg) → Q (.inl (some (0 : Int32))) S) ∧ (¬ (S 6 t0 x1.toNatClampNeg) < (S 6 t0 x2.toNatClampNeg) → vp_in x1 24 ∧ vp_in x2 24 ∧ Sp_X4_endOf [(.inr (4, t0)), (.inl (S 6 t0 x2.toNatClampNeg))] S (ab_back Q G 31 [some (.inr (4, t0)), some (.inl x1), some (.inl x2)] [(.inl (S 6 t0 x1.toNatClampNeg))] 0))) : G 0 [some (.inr (4, t0)), some (.inl x1), some (.inl x2)] [] S 0 := by
  refine ab_aload_n' hG 0 _ _ _ _ 0 _ dX4_isWithin_0 rfl ?_
  refine ab_gR hG 1 _ _ _ _ 15 4 1 t0 (6, t0) dX4_isWithin_1 (List.Mem.head _) rfl ?_
  refine ab_iload_n' hG 4 _ _ _ _ 1 _ dX4_isWithin_4 rfl ?_
  refine ab_iaload' hG 5 _ _ _ _ 6 t0 24 _ dX4_isWithin_5 rfl h.1 ?_
  have h := h.2
  refine ab_aload_n' hG 6 _ _ _ _ 0 _ dX4_isWithin_6 rfl ?_
  refine ab_gR hG 7 _ _ _ _ 15 4 1 t0 (6, t0) dX4_isWithin_7 (List.Mem.head _) rfl ?_
  refine ab_iload_n' hG 10 _ _ _ _ 2 _ dX4_isWithin_10 rfl ?_
  refine ab_iaload' hG 11 _ _ _ _ 6 t0 24 _ dX4_isWithin_11 rfl h.1 ?_
  have h := h.2
  refine ab_icmp_lt' hG 12 _ _ _ _ (26) 38 _ _ dX4_isWithin_12 (by decide) (fun hc => ?_) (fun hc => ?_)
  · have h := h.1 hc
    refine ab_iconst' hG 38 _ _ _ _ 0 0 dX4_isWithin_38 (by decide) ?_
    exact ab_ireturn' hG 39 _ _ _ _ dX4_isWithin_39 (Or.inr ⟨rfl, Or.inl rfl⟩) (by decide) h
  · have h := h.2 hc
    refine ab_aload_n' hG 15 _ _ _ _ 0 _ dX4_isWithin_15 rfl ?_
    refine ab_gR hG 16 _ _ _ _ 15 4 1 t0 (6, t0) dX4_isWithin_16 (List.Mem.head _) rfl ?_
    refine ab_iload_n' hG 19 _ _ _ _ 1 _ dX4_isWithin_19 rfl ?_
    refine ab_iaload' hG 20 _ _ _ _ 6 t0 24 _ dX4_isWithin_20 rfl h.1 ?_
    have h := h.2
    refine ab_aload_n' hG 21 _ _ _ _ 0 _ dX4_isWithin_21 rfl ?_
    refine ab_aload_n' hG 22 _ _ _ _ 0 _ dX4_isWithin_22 rfl ?_
    refine ab_gR hG 23 _ _ _ _ 15 4 1 t0 (6, t0) dX4_isWithin_23 (List.Mem.head _) rfl ?_
    refine ab_iload_n' hG 26 _ _ _ _ 2 _ dX4_isWithin_26 rfl ?_
    refine ab_iaload' hG 27 _ _ _ _ 6 t0 24 _ dX4_isWithin_27 rfl h.1 ?_
    have h := h.2
    exact ab_invv' hG 28 _ [_] _ _ 0 50 _ 1 1 0 _ (4, _) dX4_isWithin_28 rfl rfl rfl rfl (Nat.le_of_ble_eq_true rfl) (Nat.le_of_ble_eq_true rfl) h
theorem bl_X4_isWithin_31 {Q : ab_Po} {G : ab_Gt} (hG : ab_Cl M_X4_isWithin Q G) (t0 : Nat) (x1 : Int32) (x2 : Int32) (xs0 : Int32) (xs1 : Int32) (S : ab_S) (h : (xs0 ≤ xs1 → Q (.inl (some (0 : Int32))) S) ∧ (¬ xs0 ≤ xs1 → Q (.inl (some (1 : Int32))) S)) : G 31 [some (.inr (4, t0)), some (.inl x1), some (.inl x2)] [(.inl xs0), (.inl xs1)] S 0 := by
  refine ab_icmp_ge' hG 31 _ _ _ _ (7) 38 _ _ dX4_isWithin_31 (by decide) (fun hc => ?_) (fun hc => ?_)
  · have h := h.1 hc
    refine ab_iconst' hG 38 _ _ _ _ 0 0 dX4_isWithin_38 (by decide) ?_
    exact ab_ireturn' hG 39 _ _ _ _ dX4_isWithin_39 (Or.inr ⟨rfl, Or.inl rfl⟩) (by decide) h
  · have h := h.2 hc
    refine ab_iconst' hG 34 _ _ _ _ 1 1 dX4_isWithin_34 (by decide) ?_
    refine ab_goto' hG 35 _ _ _ _ (4) 39 dX4_isWithin_35 (by decide) ?_
    exact ab_ireturn' hG 39 _ _ _ _ dX4_isWithin_39 (Or.inr ⟨rfl, Or.inr rfl⟩) (by decide) h
theorem bl_X4_childCount_0 {Q : ab_Po} {G : ab_Gt} (hG : ab_Cl M_X4_childCount Q G) (t0 : Nat) (x1 : Int32) (S : ab_S) (h : vp_in x1 24 ∧ G 11 [some (.inr (4, t0)), some (.inl x1), some (.inl (0 : Int32)), some (.inl ((S 6 t0 x1.toNatClampNeg) + (1 : Int32)))] [] S 0) : G 0 [some (.inr (4, t0)), some (.inl x1), none, none] [] S 0 := by
  refine ab_iconst' hG 0 _ _ _ _ 0 0 dX4_childCount_0 (by decide) ?_
  refine ab_istore_n' hG 1 _ _ _ _ 2 _ dX4_childCount_1 (Nat.le_of_ble_eq_true rfl) ?_
  refine ab_aload_n' hG 2 _ _ _ _ 0 _ dX4_childCount_2 rfl ?_
  refine ab_gR hG 3 _ _ _ _ 15 4 1 t0 (6, t0) dX4_childCount_3 (List.Mem.head _) rfl ?_
  refine ab_iload_n' hG 6 _ _ _ _ 1 _ dX4_childCount_6 rfl ?_
  refine ab_iaload' hG 7 _ _ _ _ 6 t0 24 _ dX4_childCount_7 rfl h.1 ?_
  have h := h.2
  refine ab_iconst' hG 8 _ _ _ _ 1 1 dX4_childCount_8 (by decide) ?_
  refine ab_iadd' hG 9 _ _ _ _ _ _ dX4_childCount_9 ?_
  refine ab_istore_n' hG 10 _ _ _ _ 3 _ dX4_childCount_10 (Nat.le_of_ble_eq_true rfl) ?_
  exact h
theorem bl_X4_childCount_11 {Q : ab_Po} {G : ab_Gt} (hG : ab_Cl M_X4_childCount Q G) (t0 : Nat) (x1 : Int32) (x2 : Int32) (x3 : Int32) (S : ab_S) (h : ((S 4 t0 4) ≤ x3 → Q (.inl (some x2)) S) ∧ (¬ (S 4 t0 4) ≤ x3 → vp_in x3 24 ∧ vp_in (S 5 t0 x3.toNatClampNeg) 24 ∧ ((S 7 t0 (S 5 t0 x3.toNatClampNeg).toNatClampNeg) = x1 → G 11 [some (.inr (4, t0)), some (.inl x1), some (.inl (x2 + 1)), some (.inl (x3 + 1))] [] S 0) ∧ (¬ (S 7 t0 (S 5 t0 x3.toNatClampNeg).toNatClampNeg) = x1 → G 11 [some (.inr (4, t0)), some (.inl x1), some (.inl x2), some (.inl (x3 + 1))] [] S 0))) : G 11 [some (.inr (4, t0)), some (.inl x1), some (.inl x2), some (.inl x3)] [] S 0 := by
  refine ab_iload_n' hG 11 _ _ _ _ 3 _ dX4_childCount_11 rfl ?_
  refine ab_aload_n' hG 12 _ _ _ _ 0 _ dX4_childCount_12 rfl ?_
  refine ab_gI hG 13 _ _ _ _ 36 4 4 t0 dX4_childCount_13 (List.Mem.tail _ (List.Mem.head _)) rfl ?_
  refine ab_icmp_ge' hG 16 _ _ _ _ (27) 43 _ _ dX4_childCount_16 (by decide) (fun hc => ?_) (fun hc => ?_)
  · have h := h.1 hc
    refine ab_iload_n' hG 43 _ _ _ _ 2 _ dX4_childCount_43 rfl ?_
    exact ab_ireturn' hG 44 _ _ _ _ dX4_childCount_44 (Or.inl rfl) (by decide) h
  · have h := h.2 hc
    refine ab_aload_n' hG 19 _ _ _ _ 0 _ dX4_childCount_19 rfl ?_
    refine ab_gR hG 20 _ _ _ _ 18 4 2 t0 (7, t0) dX4_childCount_20 (List.Mem.tail _ (List.Mem.tail _ (List.Mem.head _))) rfl ?_
    refine ab_aload_n' hG 23 _ _ _ _ 0 _ dX4_childCount_23 rfl ?_
    refine ab_gR hG 24 _ _ _ _ 9 4 0 t0 (5, t0) dX4_childCount_24 (List.Mem.tail _ (List.Mem.tail _ (List.Mem.tail _ (List.Mem.head _)))) rfl ?_
    refine ab_iload_n' hG 27 _ _ _ _ 3 _ dX4_childCount_27 rfl ?_
    refine ab_iaload' hG 28 _ _ _ _ 5 t0 24 _ dX4_childCount_28 rfl h.1 ?_
    have h := h.2
    refine ab_iaload' hG 29 _ _ _ _ 7 t0 24 _ dX4_childCount_29 rfl h.1 ?_
    have h := h.2
    refine ab_iload_n' hG 30 _ _ _ _ 1 _ dX4_childCount_30 rfl ?_
    refine ab_icmp_ne' hG 31 _ _ _ _ (6) 37 _ _ dX4_childCount_31 (by decide) (fun hc => ?_) (fun hc => ?_)
    · have h := h.2 hc
      refine ab_iinc' hG 37 _ _ _ _ 3 1 _ _ dX4_childCount_37 rfl rfl ?_
      refine ab_goto' hG 40 _ _ _ _ (-29) 11 dX4_childCount_40 (by decide) ?_
      exact h
    · have h := h.1 hc
      refine ab_iinc' hG 34 _ _ _ _ 2 1 _ _ dX4_childCount_34 rfl rfl ?_
      refine ab_iinc' hG 37 _ _ _ _ 3 1 _ _ dX4_childCount_37 rfl rfl ?_
      refine ab_goto' hG 40 _ _ _ _ (-29) 11 dX4_childCount_40 (by decide) ?_
      exact h
theorem bl_X4_slotFor_0 {Q : ab_Po} {G : ab_Gt} (hG : ab_Cl M_X4_slotFor Q G) (t0 : Nat) (x1 : Int32) (x2 : Int32) (S : ab_S) (h : vp_in x1 24 ∧ G 12 [some (.inr (4, t0)), some (.inl x1), some (.inl x2), some (.inl (0 : Int32)), some (.inl ((S 6 t0 x1.toNatClampNeg) + (1 : Int32)))] [] S 0) : G 0 [some (.inr (4, t0)), some (.inl x1), some (.inl x2), none, none] [] S 0 := by
  refine ab_iconst' hG 0 _ _ _ _ 0 0 dX4_slotFor_0 (by decide) ?_
  refine ab_istore_n' hG 1 _ _ _ _ 3 _ dX4_slotFor_1 (Nat.le_of_ble_eq_true rfl) ?_
  refine ab_aload_n' hG 2 _ _ _ _ 0 _ dX4_slotFor_2 rfl ?_
  refine ab_gR hG 3 _ _ _ _ 15 4 1 t0 (6, t0) dX4_slotFor_3 (List.Mem.head _) rfl ?_
  refine ab_iload_n' hG 6 _ _ _ _ 1 _ dX4_slotFor_6 rfl ?_
  refine ab_iaload' hG 7 _ _ _ _ 6 t0 24 _ dX4_slotFor_7 rfl h.1 ?_
  have h := h.2
  refine ab_iconst' hG 8 _ _ _ _ 1 1 dX4_slotFor_8 (by decide) ?_
  refine ab_iadd' hG 9 _ _ _ _ _ _ dX4_slotFor_9 ?_
  refine ab_istore' hG 10 _ _ _ _ 4 _ dX4_slotFor_10 (Nat.le_of_ble_eq_true rfl) ?_
  exact h
theorem bl_X4_slotFor_12 {Q : ab_Po} {G : ab_Gt} (hG : ab_Cl M_X4_slotFor Q G) (t0 : Nat) (x1 : Int32) (x2 : Int32) (x3 : Int32) (x4 : Int32) (S : ab_S) (h : ((S 4 t0 4) ≤ x4 → vp_in x1 24 ∧ Sp_X4_endOf [(.inr (4, t0)), (.inl (S 6 t0 x1.toNatClampNeg))] S (ab_back Q G 64 [some (.inr (4, t0)), some (.inl x1), some (.inl x2), some (.inl x3), some (.inl x4)] [] 0)) ∧ (¬ (S 4 t0 4) ≤ x4 → vp_in x4 24 ∧ vp_in (S 5 t0 x4.toNatClampNeg) 24 ∧ ((S 7 t0 (S 5 t0 x4.toNatClampNeg).toNatClampNeg) = x1 → (x3 = x2 → Q (.inl (some x4)) S) ∧ (¬ x3 = x2 → G 12 [some (.inr (4, t0)), some (.inl x1), some (.inl x2), some (.inl (x3 + 1)), some (.inl (x4 + 1))] [] S 0)) ∧ (¬ (S 7 t0 (S 5 t0 x4.toNatClampNeg).toNatClampNeg) = x1 → G 12 [some (.inr (4, t0)), some (.inl x1), some (.inl x2), some (.inl x3), some (.inl (x4 + 1))] [] S 0))) : G 12 [some (.inr (4, t0)), some (.inl x1), some (.inl x2), some (.inl x3), some (.inl x4)] [] S 0 := by
  refine ab_iload' hG 12 _ _ _ _ 4 _ dX4_slotFor_12 rfl ?_
  refine ab_aload_n' hG 14 _ _ _ _ 0 _ dX4_slotFor_14 rfl ?_
  refine ab_gI hG 15 _ _ _ _ 36 4 4 t0 dX4_slotFor_15 (List.Mem.tail _ (List.Mem.head _)) rfl ?_
  refine ab_icmp_ge' hG 18 _ _ _ _ (36) 54 _ _ dX4_slotFor_18 (by decide) (fun hc => ?_) (fun hc => ?_)
  · have h := h.1 hc
    refine ab_aload_n' hG 54 _ _ _ _ 0 _ dX4_slotFor_54 rfl ?_
    refine ab_aload_n' hG 55 _ _ _ _ 0 _ dX4_slotFor_55 rfl ?_
    refine ab_gR hG 56 _ _ _ _ 15 4 1 t0 (6, t0) dX4_slotFor_56 (List.Mem.head _) rfl ?_
    refine ab_iload_n' hG 59 _ _ _ _ 1 _ dX4_slotFor_59 rfl ?_
    refine ab_iaload' hG 60 _ _ _ _ 6 t0 24 _ dX4_slotFor_60 rfl h.1 ?_
    have h := h.2
    exact ab_invv' hG 61 _ [_] _ _ 0 50 _ 1 1 0 _ (4, _) dX4_slotFor_61 rfl rfl rfl rfl (Nat.le_of_ble_eq_true rfl) (Nat.le_of_ble_eq_true rfl) h
  · have h := h.2 hc
    refine ab_aload_n' hG 21 _ _ _ _ 0 _ dX4_slotFor_21 rfl ?_
    refine ab_gR hG 22 _ _ _ _ 18 4 2 t0 (7, t0) dX4_slotFor_22 (List.Mem.tail _ (List.Mem.tail _ (List.Mem.head _))) rfl ?_
    refine ab_aload_n' hG 25 _ _ _ _ 0 _ dX4_slotFor_25 rfl ?_
    refine ab_gR hG 26 _ _ _ _ 9 4 0 t0 (5, t0) dX4_slotFor_26 (List.Mem.tail _ (List.Mem.tail _ (List.Mem.tail _ (List.Mem.head _)))) rfl ?_
    refine ab_iload' hG 29 _ _ _ _ 4 _ dX4_slotFor_29 rfl ?_
    refine ab_iaload' hG 31 _ _ _ _ 5 t0 24 _ dX4_slotFor_31 rfl h.1 ?_
    have h := h.2
    refine ab_iaload' hG 32 _ _ _ _ 7 t0 24 _ dX4_slotFor_32 rfl h.1 ?_
    have h := h.2
    refine ab_iload_n' hG 33 _ _ _ _ 1 _ dX4_slotFor_33 rfl ?_
    refine ab_icmp_ne' hG 34 _ _ _ _ (14) 48 _ _ dX4_slotFor_34 (by decide) (fun hc => ?_) (fun hc => ?_)
    · have h := h.2 hc
      refine ab_iinc' hG 48 _ _ _ _ 4 1 _ _ dX4_slotFor_48 rfl rfl ?_
      refine ab_goto' hG 51 _ _ _ _ (-39) 12 dX4_slotFor_51 (by decide) ?_
      exact h
    · have h := h.1 hc
      refine ab_iload_n' hG 37 _ _ _ _ 3 _ dX4_slotFor_37 rfl ?_
      refine ab_iload_n' hG 38 _ _ _ _ 2 _ dX4_slotFor_38 rfl ?_
      refine ab_icmp_ne' hG 39 _ _ _ _ (6) 45 _ _ dX4_slotFor_39 (by decide) (fun hc => ?_) (fun hc => ?_)
      · have h := h.2 hc
        refine ab_iinc' hG 45 _ _ _ _ 3 1 _ _ dX4_slotFor_45 rfl rfl ?_
        refine ab_iinc' hG 48 _ _ _ _ 4 1 _ _ dX4_slotFor_48 rfl rfl ?_
        refine ab_goto' hG 51 _ _ _ _ (-39) 12 dX4_slotFor_51 (by decide) ?_
        exact h
      · have h := h.1 hc
        refine ab_iload' hG 42 _ _ _ _ 4 _ dX4_slotFor_42 rfl ?_
        exact ab_ireturn' hG 44 _ _ _ _ dX4_slotFor_44 (Or.inl rfl) (by decide) h
theorem bl_X4_slotFor_64 {Q : ab_Po} {G : ab_Gt} (hG : ab_Cl M_X4_slotFor Q G) (t0 : Nat) (x1 : Int32) (x2 : Int32) (x3 : Int32) (x4 : Int32) (xs0 : Int32) (S : ab_S) (h : Q (.inl (some xs0)) S) : G 64 [some (.inr (4, t0)), some (.inl x1), some (.inl x2), some (.inl x3), some (.inl x4)] [(.inl xs0)] S 0 := by
  exact ab_ireturn' hG 64 _ _ _ _ dX4_slotFor_64 (Or.inl rfl) (by decide) h
theorem bl_X4_plant_0 {Q : ab_Po} {G : ab_Gt} (hG : ab_Cl M_X4_plant Q G) (t0 : Nat) (x1 : Int32) (x2 : Int32) (S : ab_S) (h : vp_in x1 24 ∧ (∀ S1 : ab_S, S1 = ab_su S 7 t0 x1.toNatClampNeg (-1 : Int32) → vp_in x1 24 ∧ (∀ S2 : ab_S, S2 = ab_su S1 8 t0 x1.toNatClampNeg x2 → Sp_X4_putInto [(.inr (4, t0)), (.inl (0 : Int32)), (.inl x1)] S2 (ab_back Q G 20 [some (.inr (4, t0)), some (.inl x1), some (.inl x2)] [] 0)))) : G 0 [some (.inr (4, t0)), some (.inl x1), some (.inl x2)] [] S 0 := by
  refine ab_aload_n' hG 0 _ _ _ _ 0 _ dX4_plant_0 rfl ?_
  refine ab_gR hG 1 _ _ _ _ 18 4 2 t0 (7, t0) dX4_plant_1 (List.Mem.head _) rfl ?_
  refine ab_iload_n' hG 4 _ _ _ _ 1 _ dX4_plant_4 rfl ?_
  refine ab_iconst' hG 5 _ _ _ _ (-1) (-1) dX4_plant_5 (by decide) ?_
  refine ab_iastore' hG 6 _ _ _ _ 7 t0 24 _ _ dX4_plant_6 rfl h.1 ?_
  have h := h.2
  have h := h _ rfl
  refine ab_aload_n' hG 7 _ _ _ _ 0 _ dX4_plant_7 rfl ?_
  refine ab_gR hG 8 _ _ _ _ 21 4 3 t0 (8, t0) dX4_plant_8 (List.Mem.tail _ (List.Mem.head _)) rfl ?_
  refine ab_iload_n' hG 11 _ _ _ _ 1 _ dX4_plant_11 rfl ?_
  refine ab_iload_n' hG 12 _ _ _ _ 2 _ dX4_plant_12 rfl ?_
  refine ab_iastore' hG 13 _ _ _ _ 8 t0 24 _ _ dX4_plant_13 rfl h.1 ?_
  have h := h.2
  have h := h _ rfl
  refine ab_aload_n' hG 14 _ _ _ _ 0 _ dX4_plant_14 rfl ?_
  refine ab_iconst' hG 15 _ _ _ _ 0 0 dX4_plant_15 (by decide) ?_
  refine ab_iload_n' hG 16 _ _ _ _ 1 _ dX4_plant_16 rfl ?_
  exact ab_invv' hG 17 _ [_, _] _ _ 0 57 _ 2 0 0 _ (4, _) dX4_plant_17 rfl rfl rfl rfl (Nat.le_of_ble_eq_true rfl) (Nat.le_of_ble_eq_true rfl) h
theorem bl_X4_plant_20 {Q : ab_Po} {G : ab_Gt} (hG : ab_Cl M_X4_plant Q G) (t0 : Nat) (x1 : Int32) (x2 : Int32) (S : ab_S) (h : Q (.inl none) S) : G 20 [some (.inr (4, t0)), some (.inl x1), some (.inl x2)] [] S 0 := by
  exact ab_return_' hG 20 _ _ _ dX4_plant_20 rfl (by decide) h
theorem bl_X4_attach_0 {Q : ab_Po} {G : ab_Gt} (hG : ab_Cl M_X4_attach Q G) (t0 : Nat) (x1 : Int32) (x2 : Int32) (x3 : Int32) (x4 : Int32) (S : ab_S) (h : vp_in x1 24 ∧ (∀ S1 : ab_S, S1 = ab_su S 7 t0 x1.toNatClampNeg x3 → vp_in x1 24 ∧ (∀ S2 : ab_S, S2 = ab_su S1 8 t0 x1.toNatClampNeg x2 → Sp_X4_slotFor [(.inr (4, t0)), (.inl x3), (.inl x4)] S2 (ab_back Q G 22 [some (.inr (4, t0)), some (.inl x1), some (.inl x2), some (.inl x3), some (.inl x4)] [(.inr (4, t0))] 0)))) : G 0 [some (.inr (4, t0)), some (.inl x1), some (.inl x2), some (.inl x3), some (.inl x4)] [] S 0 := by
  refine ab_aload_n' hG 0 _ _ _ _ 0 _ dX4_attach_0 rfl ?_
  refine ab_gR hG 1 _ _ _ _ 18 4 2 t0 (7, t0) dX4_attach_1 (List.Mem.head _) rfl ?_
  refine ab_iload_n' hG 4 _ _ _ _ 1 _ dX4_attach_4 rfl ?_
  refine ab_iload_n' hG 5 _ _ _ _ 3 _ dX4_attach_5 rfl ?_
  refine ab_iastore' hG 6 _ _ _ _ 7 t0 24 _ _ dX4_attach_6 rfl h.1 ?_
  have h := h.2
  have h := h _ rfl
  refine ab_aload_n' hG 7 _ _ _ _ 0 _ dX4_attach_7 rfl ?_
  refine ab_gR hG 8 _ _ _ _ 21 4 3 t0 (8, t0) dX4_attach_8 (List.Mem.tail _ (List.Mem.head _)) rfl ?_
  refine ab_iload_n' hG 11 _ _ _ _ 1 _ dX4_attach_11 rfl ?_
  refine ab_iload_n' hG 12 _ _ _ _ 2 _ dX4_attach_12 rfl ?_
  refine ab_iastore' hG 13 _ _ _ _ 8 t0 24 _ _ dX4_attach_13 rfl h.1 ?_
  have h := h.2
  have h := h _ rfl
  refine ab_aload_n' hG 14 _ _ _ _ 0 _ dX4_attach_14 rfl ?_
  refine ab_aload_n' hG 15 _ _ _ _ 0 _ dX4_attach_15 rfl ?_
  refine ab_iload_n' hG 16 _ _ _ _ 3 _ dX4_attach_16 rfl ?_
  refine ab_iload' hG 17 _ _ _ _ 4 _ dX4_attach_17 rfl ?_
  exact ab_invv' hG 19 _ [_, _] _ _ 0 61 _ 2 1 0 _ (4, _) dX4_attach_19 rfl rfl rfl rfl (Nat.le_of_ble_eq_true rfl) (Nat.le_of_ble_eq_true rfl) h
theorem bl_X4_attach_22 {Q : ab_Po} {G : ab_Gt} (hG : ab_Cl M_X4_attach Q G) (t0 : Nat) (x1 : Int32) (x2 : Int32) (x3 : Int32) (x4 : Int32) (xs0 : Int32) (ts1 : Nat) (S : ab_S) (h : Sp_X4_putInto [(.inr (4, ts1)), (.inl xs0), (.inl x1)] S (ab_back Q G 26 [some (.inr (4, t0)), some (.inl x1), some (.inl x2), some (.inl x3), some (.inl x4)] [] 0)) : G 22 [some (.inr (4, t0)), some (.inl x1), some (.inl x2), some (.inl x3), some (.inl x4)] [(.inl xs0), (.inr (4, ts1))] S 0 := by
  refine ab_iload_n' hG 22 _ _ _ _ 1 _ dX4_attach_22 rfl ?_
  exact ab_invv' hG 23 _ [_, _] _ _ 0 57 _ 2 0 0 _ (4, _) dX4_attach_23 rfl rfl rfl rfl (Nat.le_of_ble_eq_true rfl) (Nat.le_of_ble_eq_true rfl) h
theorem bl_X4_attach_26 {Q : ab_Po} {G : ab_Gt} (hG : ab_Cl M_X4_attach Q G) (t0 : Nat) (x1 : Int32) (x2 : Int32) (x3 : Int32) (x4 : Int32) (S : ab_S) (h : Q (.inl none) S) : G 26 [some (.inr (4, t0)), some (.inl x1), some (.inl x2), some (.inl x3), some (.inl x4)] [] S 0 := by
  exact ab_return_' hG 26 _ _ _ dX4_attach_26 rfl (by decide) h
theorem bl_X4_takeOut_0 {Q : ab_Po} {G : ab_Gt} (hG : ab_Cl M_X4_takeOut Q G) (t0 : Nat) (x1 : Int32) (S : ab_S) (h : vp_in x1 24 ∧ Sp_X4_endOf [(.inr (4, t0)), (.inl (S 6 t0 x1.toNatClampNeg))] S (ab_back Q G 12 [some (.inr (4, t0)), some (.inl x1), some (.inl (S 6 t0 x1.toNatClampNeg)), none] [] 0)) : G 0 [some (.inr (4, t0)), some (.inl x1), none, none] [] S 0 := by
  refine ab_aload_n' hG 0 _ _ _ _ 0 _ dX4_takeOut_0 rfl ?_
  refine ab_gR hG 1 _ _ _ _ 15 4 1 t0 (6, t0) dX4_takeOut_1 (List.Mem.head _) rfl ?_
  refine ab_iload_n' hG 4 _ _ _ _ 1 _ dX4_takeOut_4 rfl ?_
  refine ab_iaload' hG 5 _ _ _ _ 6 t0 24 _ dX4_takeOut_5 rfl h.1 ?_
  have h := h.2
  refine ab_istore_n' hG 6 _ _ _ _ 2 _ dX4_takeOut_6 (Nat.le_of_ble_eq_true rfl) ?_
  refine ab_aload_n' hG 7 _ _ _ _ 0 _ dX4_takeOut_7 rfl ?_
  refine ab_iload_n' hG 8 _ _ _ _ 2 _ dX4_takeOut_8 rfl ?_
  exact ab_invv' hG 9 _ [_] _ _ 0 50 _ 1 1 0 _ (4, _) dX4_takeOut_9 rfl rfl rfl rfl (Nat.le_of_ble_eq_true rfl) (Nat.le_of_ble_eq_true rfl) h
theorem bl_X4_takeOut_12 {Q : ab_Po} {G : ab_Gt} (hG : ab_Cl M_X4_takeOut Q G) (t0 : Nat) (x1 : Int32) (x2 : Int32) (xs0 : Int32) (S : ab_S) (h : ¬ x2 < 0 ∧ ¬ (0 : Int32) < 0 ∧ ¬ (xs0 - x2) < 0 ∧ x2.toNatClampNeg + (xs0 - x2).toNatClampNeg ≤ 24 ∧ (0 : Int32).toNatClampNeg + (xs0 - x2).toNatClampNeg ≤ 24 ∧ (∀ S1 : ab_S, S1 = ab_sr S 9 t0 (va_cpy (S 5 t0) (S 9 t0) x2.toNatClampNeg (0 : Int32).toNatClampNeg (xs0 - x2).toNatClampNeg) → ¬ xs0 < 0 ∧ ¬ x2 < 0 ∧ ¬ ((S1 4 t0 4) - xs0) < 0 ∧ xs0.toNatClampNeg + ((S1 4 t0 4) - xs0).toNatClampNeg ≤ 24 ∧ x2.toNatClampNeg + ((S1 4 t0 4) - xs0).toNatClampNeg ≤ 24 ∧ (∀ S2 : ab_S, S2 = ab_sr S1 5 t0 (va_cpy (S1 5 t0) (S1 5 t0) xs0.toNatClampNeg x2.toNatClampNeg ((S1 4 t0 4) - xs0).toNatClampNeg) → (∀ S3 : ab_S, S3 = ab_su S2 4 t0 4 ((S2 4 t0 4) - (xs0 - x2)) → Sp_X4_renumberFrom [(.inr (4, t0)), (.inl x2)] S3 (ab_back Q G 65 [some (.inr (4, t0)), some (.inl x1), some (.inl x2), some (.inl xs0)] [] 0))))) : G 12 [some (.inr (4, t0)), some (.inl x1), some (.inl x2), none] [(.inl xs0)] S 0 := by
  refine ab_istore_n' hG 12 _ _ _ _ 3 _ dX4_takeOut_12 (Nat.le_of_ble_eq_true rfl) ?_
  refine ab_aload_n' hG 13 _ _ _ _ 0 _ dX4_takeOut_13 rfl ?_
  refine ab_gR hG 14 _ _ _ _ 9 4 0 t0 (5, t0) dX4_takeOut_14 (List.Mem.tail _ (List.Mem.head _)) rfl ?_
  refine ab_iload_n' hG 17 _ _ _ _ 2 _ dX4_takeOut_17 rfl ?_
  refine ab_aload_n' hG 18 _ _ _ _ 0 _ dX4_takeOut_18 rfl ?_
  refine ab_gR hG 19 _ _ _ _ 24 4 5 t0 (9, t0) dX4_takeOut_19 (List.Mem.tail _ (List.Mem.tail _ (List.Mem.head _))) rfl ?_
  refine ab_iconst' hG 22 _ _ _ _ 0 0 dX4_takeOut_22 (by decide) ?_
  refine ab_iload_n' hG 23 _ _ _ _ 3 _ dX4_takeOut_23 rfl ?_
  refine ab_iload_n' hG 24 _ _ _ _ 2 _ dX4_takeOut_24 rfl ?_
  refine ab_isub' hG 25 _ _ _ _ _ _ dX4_takeOut_25 ?_
  refine ab_acopy' hG 26 _ _ _ _ 40 5 t0 9 t0 24 24 _ _ _ dX4_takeOut_26 (List.Mem.head _) rfl rfl h.1 h.2.1 h.2.2.1 h.2.2.2.1 h.2.2.2.2.1 (Nat.le_of_ble_eq_true rfl) ?_
  have h := h.2.2.2.2.2
  have h := h _ rfl
  refine ab_aload_n' hG 29 _ _ _ _ 0 _ dX4_takeOut_29 rfl ?_
  refine ab_gR hG 30 _ _ _ _ 9 4 0 t0 (5, t0) dX4_takeOut_30 (List.Mem.tail _ (List.Mem.head _)) rfl ?_
  refine ab_iload_n' hG 33 _ _ _ _ 3 _ dX4_takeOut_33 rfl ?_
  refine ab_aload_n' hG 34 _ _ _ _ 0 _ dX4_takeOut_34 rfl ?_
  refine ab_gR hG 35 _ _ _ _ 9 4 0 t0 (5, t0) dX4_takeOut_35 (List.Mem.tail _ (List.Mem.head _)) rfl ?_
  refine ab_iload_n' hG 38 _ _ _ _ 2 _ dX4_takeOut_38 rfl ?_
  refine ab_aload_n' hG 39 _ _ _ _ 0 _ dX4_takeOut_39 rfl ?_
  refine ab_gI hG 40 _ _ _ _ 36 4 4 t0 dX4_takeOut_40 (List.Mem.tail _ (List.Mem.tail _ (List.Mem.tail _ (List.Mem.head _)))) rfl ?_
  refine ab_iload_n' hG 43 _ _ _ _ 3 _ dX4_takeOut_43 rfl ?_
  refine ab_isub' hG 44 _ _ _ _ _ _ dX4_takeOut_44 ?_
  refine ab_acopy' hG 45 _ _ _ _ 40 5 t0 5 t0 24 24 _ _ _ dX4_takeOut_45 (List.Mem.head _) rfl rfl h.1 h.2.1 h.2.2.1 h.2.2.2.1 h.2.2.2.2.1 (Nat.le_of_ble_eq_true rfl) ?_
  have h := h.2.2.2.2.2
  have h := h _ rfl
  refine ab_aload_n' hG 48 _ _ _ _ 0 _ dX4_takeOut_48 rfl ?_
  refine ab_dup' hG 49 _ _ _ _ _ dX4_takeOut_49 ?_
  refine ab_gI hG 50 _ _ _ _ 36 4 4 t0 dX4_takeOut_50 (List.Mem.tail _ (List.Mem.tail _ (List.Mem.tail _ (List.Mem.head _)))) rfl ?_
  refine ab_iload_n' hG 53 _ _ _ _ 3 _ dX4_takeOut_53 rfl ?_
  refine ab_iload_n' hG 54 _ _ _ _ 2 _ dX4_takeOut_54 rfl ?_
  refine ab_isub' hG 55 _ _ _ _ _ _ dX4_takeOut_55 ?_
  refine ab_isub' hG 56 _ _ _ _ _ _ dX4_takeOut_56 ?_
  refine ab_putfield' hG 57 _ _ _ _ 36 4 4 t0 _ dX4_takeOut_57 (List.Mem.head _) ?_
  have h := h _ rfl
  refine ab_aload_n' hG 60 _ _ _ _ 0 _ dX4_takeOut_60 rfl ?_
  refine ab_iload_n' hG 61 _ _ _ _ 2 _ dX4_takeOut_61 rfl ?_
  exact ab_invv' hG 62 _ [_] _ _ 0 71 _ 1 0 0 _ (4, _) dX4_takeOut_62 rfl rfl rfl rfl (Nat.le_of_ble_eq_true rfl) (Nat.le_of_ble_eq_true rfl) h
theorem bl_X4_takeOut_65 {Q : ab_Po} {G : ab_Gt} (hG : ab_Cl M_X4_takeOut Q G) (t0 : Nat) (x1 : Int32) (x2 : Int32) (x3 : Int32) (S : ab_S) (h : Q (.inl (some (x3 - x2))) S) : G 65 [some (.inr (4, t0)), some (.inl x1), some (.inl x2), some (.inl x3)] [] S 0 := by
  refine ab_iload_n' hG 65 _ _ _ _ 3 _ dX4_takeOut_65 rfl ?_
  refine ab_iload_n' hG 66 _ _ _ _ 2 _ dX4_takeOut_66 rfl ?_
  refine ab_isub' hG 67 _ _ _ _ _ _ dX4_takeOut_67 ?_
  exact ab_ireturn' hG 68 _ _ _ _ dX4_takeOut_68 (Or.inl rfl) (by decide) h
theorem bl_X4_prune_0 {Q : ab_Po} {G : ab_Gt} (hG : ab_Cl M_X4_prune Q G) (t0 : Nat) (x1 : Int32) (S : ab_S) (h : Sp_X4_takeOut [(.inr (4, t0)), (.inl x1)] S (ab_back Q G 5 [some (.inr (4, t0)), some (.inl x1), none, none] [] 0)) : G 0 [some (.inr (4, t0)), some (.inl x1), none, none] [] S 0 := by
  refine ab_aload_n' hG 0 _ _ _ _ 0 _ dX4_prune_0 rfl ?_
  refine ab_iload_n' hG 1 _ _ _ _ 1 _ dX4_prune_1 rfl ?_
  exact ab_invv' hG 2 _ [_] _ _ 0 65 _ 1 1 0 _ (4, _) dX4_prune_2 rfl rfl rfl rfl (Nat.le_of_ble_eq_true rfl) (Nat.le_of_ble_eq_true rfl) h
theorem bl_X4_prune_5 {Q : ab_Po} {G : ab_Gt} (hG : ab_Cl M_X4_prune Q G) (t0 : Nat) (x1 : Int32) (xs0 : Int32) (S : ab_S) (h : G 8 [some (.inr (4, t0)), some (.inl x1), some (.inl xs0), some (.inl (0 : Int32))] [] S 0) : G 5 [some (.inr (4, t0)), some (.inl x1), none, none] [(.inl xs0)] S 0 := by
  refine ab_istore_n' hG 5 _ _ _ _ 2 _ dX4_prune_5 (Nat.le_of_ble_eq_true rfl) ?_
  refine ab_iconst' hG 6 _ _ _ _ 0 0 dX4_prune_6 (by decide) ?_
  refine ab_istore_n' hG 7 _ _ _ _ 3 _ dX4_prune_7 (Nat.le_of_ble_eq_true rfl) ?_
  exact h
theorem bl_X4_prune_8 {Q : ab_Po} {G : ab_Gt} (hG : ab_Cl M_X4_prune Q G) (t0 : Nat) (x1 : Int32) (x2 : Int32) (x3 : Int32) (S : ab_S) (h : (x2 ≤ x3 → Q (.inl (some x2)) S) ∧ (¬ x2 ≤ x3 → vp_in x3 24 ∧ vp_in (S 9 t0 x3.toNatClampNeg) 24 ∧ (∀ S1 : ab_S, S1 = ab_su S 7 t0 (S 9 t0 x3.toNatClampNeg).toNatClampNeg (-2 : Int32) → vp_in x3 24 ∧ vp_in (S1 9 t0 x3.toNatClampNeg) 24 ∧ (∀ S2 : ab_S, S2 = ab_su S1 8 t0 (S1 9 t0 x3.toNatClampNeg).toNatClampNeg (-2 : Int32) → G 8 [some (.inr (4, t0)), some (.inl x1), some (.inl x2), some (.inl (x3 + 1))] [] S2 0)))) : G 8 [some (.inr (4, t0)), some (.inl x1), some (.inl x2), some (.inl x3)] [] S 0 := by
  refine ab_iload_n' hG 8 _ _ _ _ 3 _ dX4_prune_8 rfl ?_
  refine ab_iload_n' hG 9 _ _ _ _ 2 _ dX4_prune_9 rfl ?_
  refine ab_icmp_ge' hG 10 _ _ _ _ (35) 45 _ _ dX4_prune_10 (by decide) (fun hc => ?_) (fun hc => ?_)
  · have h := h.1 hc
    refine ab_iload_n' hG 45 _ _ _ _ 2 _ dX4_prune_45 rfl ?_
    exact ab_ireturn' hG 46 _ _ _ _ dX4_prune_46 (Or.inl rfl) (by decide) h
  · have h := h.2 hc
    refine ab_aload_n' hG 13 _ _ _ _ 0 _ dX4_prune_13 rfl ?_
    refine ab_gR hG 14 _ _ _ _ 18 4 2 t0 (7, t0) dX4_prune_14 (List.Mem.head _) rfl ?_
    refine ab_aload_n' hG 17 _ _ _ _ 0 _ dX4_prune_17 rfl ?_
    refine ab_gR hG 18 _ _ _ _ 24 4 5 t0 (9, t0) dX4_prune_18 (List.Mem.tail _ (List.Mem.head _)) rfl ?_
    refine ab_iload_n' hG 21 _ _ _ _ 3 _ dX4_prune_21 rfl ?_
    refine ab_iaload' hG 22 _ _ _ _ 9 t0 24 _ dX4_prune_22 rfl h.1 ?_
    have h := h.2
    refine ab_bipush' hG 23 _ _ _ _ (-2) (-2) dX4_prune_23 (by decide) ?_
    refine ab_iastore' hG 25 _ _ _ _ 7 t0 24 _ _ dX4_prune_25 rfl h.1 ?_
    have h := h.2
    have h := h _ rfl
    refine ab_aload_n' hG 26 _ _ _ _ 0 _ dX4_prune_26 rfl ?_
    refine ab_gR hG 27 _ _ _ _ 21 4 3 t0 (8, t0) dX4_prune_27 (List.Mem.tail _ (List.Mem.tail _ (List.Mem.head _))) rfl ?_
    refine ab_aload_n' hG 30 _ _ _ _ 0 _ dX4_prune_30 rfl ?_
    refine ab_gR hG 31 _ _ _ _ 24 4 5 t0 (9, t0) dX4_prune_31 (List.Mem.tail _ (List.Mem.head _)) rfl ?_
    refine ab_iload_n' hG 34 _ _ _ _ 3 _ dX4_prune_34 rfl ?_
    refine ab_iaload' hG 35 _ _ _ _ 9 t0 24 _ dX4_prune_35 rfl h.1 ?_
    have h := h.2
    refine ab_bipush' hG 36 _ _ _ _ (-2) (-2) dX4_prune_36 (by decide) ?_
    refine ab_iastore' hG 38 _ _ _ _ 8 t0 24 _ _ dX4_prune_38 rfl h.1 ?_
    have h := h.2
    have h := h _ rfl
    refine ab_iinc' hG 39 _ _ _ _ 3 1 _ _ dX4_prune_39 rfl rfl ?_
    refine ab_goto' hG 42 _ _ _ _ (-34) 8 dX4_prune_42 (by decide) ?_
    exact h
theorem bl_X4_transplant_0 {Q : ab_Po} {G : ab_Gt} (hG : ab_Cl M_X4_transplant Q G) (t0 : Nat) (x1 : Int32) (x2 : Int32) (x3 : Int32) (S : ab_S) (h : Sp_X4_takeOut [(.inr (4, t0)), (.inl x1)] S (ab_back Q G 5 [some (.inr (4, t0)), some (.inl x1), some (.inl x2), some (.inl x3), none, none] [] 0)) : G 0 [some (.inr (4, t0)), some (.inl x1), some (.inl x2), some (.inl x3), none, none] [] S 0 := by
  refine ab_aload_n' hG 0 _ _ _ _ 0 _ dX4_transplant_0 rfl ?_
  refine ab_iload_n' hG 1 _ _ _ _ 1 _ dX4_transplant_1 rfl ?_
  exact ab_invv' hG 2 _ [_] _ _ 0 65 _ 1 1 0 _ (4, _) dX4_transplant_2 rfl rfl rfl rfl (Nat.le_of_ble_eq_true rfl) (Nat.le_of_ble_eq_true rfl) h
theorem bl_X4_transplant_5 {Q : ab_Po} {G : ab_Gt} (hG : ab_Cl M_X4_transplant Q G) (t0 : Nat) (x1 : Int32) (x2 : Int32) (x3 : Int32) (xs0 : Int32) (S : ab_S) (h : Sp_X4_slotFor [(.inr (4, t0)), (.inl x2), (.inl x3)] S (ab_back Q G 13 [some (.inr (4, t0)), some (.inl x1), some (.inl x2), some (.inl x3), some (.inl xs0), none] [] 0)) : G 5 [some (.inr (4, t0)), some (.inl x1), some (.inl x2), some (.inl x3), none, none] [(.inl xs0)] S 0 := by
  refine ab_istore' hG 5 _ _ _ _ 4 _ dX4_transplant_5 (Nat.le_of_ble_eq_true rfl) ?_
  refine ab_aload_n' hG 7 _ _ _ _ 0 _ dX4_transplant_7 rfl ?_
  refine ab_iload_n' hG 8 _ _ _ _ 2 _ dX4_transplant_8 rfl ?_
  refine ab_iload_n' hG 9 _ _ _ _ 3 _ dX4_transplant_9 rfl ?_
  exact ab_invv' hG 10 _ [_, _] _ _ 0 61 _ 2 1 0 _ (4, _) dX4_transplant_10 rfl rfl rfl rfl (Nat.le_of_ble_eq_true rfl) (Nat.le_of_ble_eq_true rfl) h
theorem bl_X4_transplant_13 {Q : ab_Po} {G : ab_Gt} (hG : ab_Cl M_X4_transplant Q G) (t0 : Nat) (x1 : Int32) (x2 : Int32) (x3 : Int32) (x4 : Int32) (xs0 : Int32) (S : ab_S) (h : vp_in x1 24 ∧ (∀ S1 : ab_S, S1 = ab_su S 7 t0 x1.toNatClampNeg x2 → Sp_X4_putCarried [(.inr (4, t0)), (.inl xs0), (.inl x4)] S1 (ab_back Q G 30 [some (.inr (4, t0)), some (.inl x1), some (.inl x2), some (.inl x3), some (.inl x4), some (.inl xs0)] [] 0))) : G 13 [some (.inr (4, t0)), some (.inl x1), some (.inl x2), some (.inl x3), some (.inl x4), none] [(.inl xs0)] S 0 := by
  refine ab_istore' hG 13 _ _ _ _ 5 _ dX4_transplant_13 (Nat.le_of_ble_eq_true rfl) ?_
  refine ab_aload_n' hG 15 _ _ _ _ 0 _ dX4_transplant_15 rfl ?_
  refine ab_gR hG 16 _ _ _ _ 18 4 2 t0 (7, t0) dX4_transplant_16 (List.Mem.head _) rfl ?_
  refine ab_iload_n' hG 19 _ _ _ _ 1 _ dX4_transplant_19 rfl ?_
  refine ab_iload_n' hG 20 _ _ _ _ 2 _ dX4_transplant_20 rfl ?_
  refine ab_iastore' hG 21 _ _ _ _ 7 t0 24 _ _ dX4_transplant_21 rfl h.1 ?_
  have h := h.2
  have h := h _ rfl
  refine ab_aload_n' hG 22 _ _ _ _ 0 _ dX4_transplant_22 rfl ?_
  refine ab_iload' hG 23 _ _ _ _ 5 _ dX4_transplant_23 rfl ?_
  refine ab_iload' hG 25 _ _ _ _ 4 _ dX4_transplant_25 rfl ?_
  exact ab_invv' hG 27 _ [_, _] _ _ 0 68 _ 2 0 0 _ (4, _) dX4_transplant_27 rfl rfl rfl rfl (Nat.le_of_ble_eq_true rfl) (Nat.le_of_ble_eq_true rfl) h
theorem bl_X4_transplant_30 {Q : ab_Po} {G : ab_Gt} (hG : ab_Cl M_X4_transplant Q G) (t0 : Nat) (x1 : Int32) (x2 : Int32) (x3 : Int32) (x4 : Int32) (x5 : Int32) (S : ab_S) (h : Q (.inl none) S) : G 30 [some (.inr (4, t0)), some (.inl x1), some (.inl x2), some (.inl x3), some (.inl x4), some (.inl x5)] [] S 0 := by
  exact ab_return_' hG 30 _ _ _ dX4_transplant_30 rfl (by decide) h
theorem bl_X4_pick_0 {Q : ab_Po} {G : ab_Gt} (hG : ab_Cl M_X4_pick Q G) (t0 : Nat) (x1 : Int32) (x2 : Int32) (S : ab_S) (h : G 5 [some (.inr (4, t0)), some (.inl x1), some (.inl x2), some (.inl (0 : Int32)), some (.inl (0 : Int32))] [] S 0) : G 0 [some (.inr (4, t0)), some (.inl x1), some (.inl x2), none, none] [] S 0 := by
  refine ab_iconst' hG 0 _ _ _ _ 0 0 dX4_pick_0 (by decide) ?_
  refine ab_istore_n' hG 1 _ _ _ _ 3 _ dX4_pick_1 (Nat.le_of_ble_eq_true rfl) ?_
  refine ab_iconst' hG 2 _ _ _ _ 0 0 dX4_pick_2 (by decide) ?_
  refine ab_istore' hG 3 _ _ _ _ 4 _ dX4_pick_3 (Nat.le_of_ble_eq_true rfl) ?_
  exact h
theorem bl_X4_pick_5 {Q : ab_Po} {G : ab_Gt} (hG : ab_Cl M_X4_pick Q G) (t0 : Nat) (x1 : Int32) (x2 : Int32) (x3 : Int32) (x4 : Int32) (S : ab_S) (h : ((S 4 t0 4) ≤ x4 → Q (.inl (some (-1 : Int32))) S) ∧ (¬ (S 4 t0 4) ≤ x4 → vp_in x4 24 ∧ Sp_X5_isIn [(.inl x1), (.inl (S 5 t0 x4.toNatClampNeg))] S (ab_back (fun _ _ => False) G 25 [some (.inr (4, t0)), some (.inl x1), some (.inl x2), some (.inl x3), some (.inl x4)] [] 0))) : G 5 [some (.inr (4, t0)), some (.inl x1), some (.inl x2), some (.inl x3), some (.inl x4)] [] S 0 := by
  refine ab_iload' hG 5 _ _ _ _ 4 _ dX4_pick_5 rfl ?_
  refine ab_aload_n' hG 7 _ _ _ _ 0 _ dX4_pick_7 rfl ?_
  refine ab_gI hG 8 _ _ _ _ 36 4 4 t0 dX4_pick_8 (List.Mem.head _) rfl ?_
  refine ab_icmp_ge' hG 11 _ _ _ _ (39) 50 _ _ dX4_pick_11 (by decide) (fun hc => ?_) (fun hc => ?_)
  · have h := h.1 hc
    refine ab_iconst' hG 50 _ _ _ _ (-1) (-1) dX4_pick_50 (by decide) ?_
    exact ab_ireturn' hG 51 _ _ _ _ dX4_pick_51 (Or.inl rfl) (by decide) h
  · have h := h.2 hc
    refine ab_iload_n' hG 14 _ _ _ _ 1 _ dX4_pick_14 rfl ?_
    refine ab_aload_n' hG 15 _ _ _ _ 0 _ dX4_pick_15 rfl ?_
    refine ab_gR hG 16 _ _ _ _ 9 4 0 t0 (5, t0) dX4_pick_16 (List.Mem.tail _ (List.Mem.head _)) rfl ?_
    refine ab_iload' hG 19 _ _ _ _ 4 _ dX4_pick_19 rfl ?_
    refine ab_iaload' hG 21 _ _ _ _ 5 t0 24 _ dX4_pick_21 rfl h.1 ?_
    have h := h.2
    exact ab_invn' hG 22 _ [_, _] _ _ 0 75 _ 2 1 0 _ dX4_pick_22 rfl rfl (Nat.le_of_ble_eq_true rfl) (Nat.le_of_ble_eq_true rfl) h
theorem bl_X4_pick_25 {Q : ab_Po} {G : ab_Gt} (hG : ab_Cl M_X4_pick Q G) (t0 : Nat) (x1 : Int32) (x2 : Int32) (x3 : Int32) (x4 : Int32) (xs0 : Int32) (S : ab_S) (h : (xs0 = 0 → G 5 [some (.inr (4, t0)), some (.inl x1), some (.inl x2), some (.inl x3), some (.inl (x4 + 1))] [] S 0) ∧ (¬ xs0 = 0 → (x3 = x2 → vp_in x4 24 ∧ Q (.inl (some (S 5 t0 x4.toNatClampNeg))) S) ∧ (¬ x3 = x2 → G 5 [some (.inr (4, t0)), some (.inl x1), some (.inl x2), some (.inl (x3 + 1)), some (.inl (x4 + 1))] [] S 0))) : G 25 [some (.inr (4, t0)), some (.inl x1), some (.inl x2), some (.inl x3), some (.inl x4)] [(.inl xs0)] S 0 := by
  refine ab_if_eq' hG 25 _ _ _ _ (19) 44 _ dX4_pick_25 (by decide) (fun hc => ?_) (fun hc => ?_)
  · have h := h.1 hc
    refine ab_iinc' hG 44 _ _ _ _ 4 1 _ _ dX4_pick_44 rfl rfl ?_
    refine ab_goto' hG 47 _ _ _ _ (-42) 5 dX4_pick_47 (by decide) ?_
    exact h
  · have h := h.2 hc
    refine ab_iload_n' hG 28 _ _ _ _ 3 _ dX4_pick_28 rfl ?_
    refine ab_iload_n' hG 29 _ _ _ _ 2 _ dX4_pick_29 rfl ?_
    refine ab_icmp_ne' hG 30 _ _ _ _ (11) 41 _ _ dX4_pick_30 (by decide) (fun hc => ?_) (fun hc => ?_)
    · have h := h.2 hc
      refine ab_iinc' hG 41 _ _ _ _ 3 1 _ _ dX4_pick_41 rfl rfl ?_
      refine ab_iinc' hG 44 _ _ _ _ 4 1 _ _ dX4_pick_44 rfl rfl ?_
      refine ab_goto' hG 47 _ _ _ _ (-42) 5 dX4_pick_47 (by decide) ?_
      exact h
    · have h := h.1 hc
      refine ab_aload_n' hG 33 _ _ _ _ 0 _ dX4_pick_33 rfl ?_
      refine ab_gR hG 34 _ _ _ _ 9 4 0 t0 (5, t0) dX4_pick_34 (List.Mem.tail _ (List.Mem.head _)) rfl ?_
      refine ab_iload' hG 37 _ _ _ _ 4 _ dX4_pick_37 rfl ?_
      refine ab_iaload' hG 39 _ _ _ _ 5 t0 24 _ dX4_pick_39 rfl h.1 ?_
      have h := h.2
      exact ab_ireturn' hG 40 _ _ _ _ dX4_pick_40 (Or.inl rfl) (by decide) h
theorem bl_X4_areAlike_0 {Q : ab_Po} {G : ab_Gt} (hG : ab_Cl M_X4_areAlike Q G) (t0 : Nat) (x1 : Int32) (x2 : Int32) (S : ab_S) (h : Sp_X4_endOf [(.inr (4, t0)), (.inl x1)] S (ab_back Q G 5 [some (.inr (4, t0)), some (.inl x1), some (.inl x2), none, none, none, none] [] 0)) : G 0 [some (.inr (4, t0)), some (.inl x1), some (.inl x2), none, none, none, none] [] S 0 := by
  refine ab_aload_n' hG 0 _ _ _ _ 0 _ dX4_areAlike_0 rfl ?_
  refine ab_iload_n' hG 1 _ _ _ _ 1 _ dX4_areAlike_1 rfl ?_
  exact ab_invv' hG 2 _ [_] _ _ 0 50 _ 1 1 0 _ (4, _) dX4_areAlike_2 rfl rfl rfl rfl (Nat.le_of_ble_eq_true rfl) (Nat.le_of_ble_eq_true rfl) h
theorem bl_X4_areAlike_5 {Q : ab_Po} {G : ab_Gt} (hG : ab_Cl M_X4_areAlike Q G) (t0 : Nat) (x1 : Int32) (x2 : Int32) (xs0 : Int32) (S : ab_S) (h : Sp_X4_endOf [(.inr (4, t0)), (.inl x2)] S (ab_back Q G 13 [some (.inr (4, t0)), some (.inl x1), some (.inl x2), some (.inl (xs0 - x1)), none, none, none] [] 0)) : G 5 [some (.inr (4, t0)), some (.inl x1), some (.inl x2), none, none, none, none] [(.inl xs0)] S 0 := by
  refine ab_iload_n' hG 5 _ _ _ _ 1 _ dX4_areAlike_5 rfl ?_
  refine ab_isub' hG 6 _ _ _ _ _ _ dX4_areAlike_6 ?_
  refine ab_istore_n' hG 7 _ _ _ _ 3 _ dX4_areAlike_7 (Nat.le_of_ble_eq_true rfl) ?_
  refine ab_aload_n' hG 8 _ _ _ _ 0 _ dX4_areAlike_8 rfl ?_
  refine ab_iload_n' hG 9 _ _ _ _ 2 _ dX4_areAlike_9 rfl ?_
  exact ab_invv' hG 10 _ [_] _ _ 0 50 _ 1 1 0 _ (4, _) dX4_areAlike_10 rfl rfl rfl rfl (Nat.le_of_ble_eq_true rfl) (Nat.le_of_ble_eq_true rfl) h
theorem bl_X4_areAlike_13 {Q : ab_Po} {G : ab_Gt} (hG : ab_Cl M_X4_areAlike Q G) (t0 : Nat) (x1 : Int32) (x2 : Int32) (x3 : Int32) (xs0 : Int32) (S : ab_S) (h : ((xs0 - x2) = x3 → vp_in x1 24 ∧ vp_in (S 5 t0 x1.toNatClampNeg) 24 ∧ vp_in x2 24 ∧ vp_in (S 5 t0 x2.toNatClampNeg) 24 ∧ ((S 8 t0 (S 5 t0 x1.toNatClampNeg).toNatClampNeg) = (S 8 t0 (S 5 t0 x2.toNatClampNeg).toNatClampNeg) → G 49 [some (.inr (4, t0)), some (.inl x1), some (.inl x2), some (.inl x3), some (.inl (1 : Int32)), none, none] [] S 0) ∧ (¬ (S 8 t0 (S 5 t0 x1.toNatClampNeg).toNatClampNeg) = (S 8 t0 (S 5 t0 x2.toNatClampNeg).toNatClampNeg) → Q (.inl (some (0 : Int32))) S)) ∧ (¬ (xs0 - x2) = x3 → Q (.inl (some (0 : Int32))) S)) : G 13 [some (.inr (4, t0)), some (.inl x1), some (.inl x2), some (.inl x3), none, none, none] [(.inl xs0)] S 0 := by
  refine ab_iload_n' hG 13 _ _ _ _ 2 _ dX4_areAlike_13 rfl ?_
  refine ab_isub' hG 14 _ _ _ _ _ _ dX4_areAlike_14 ?_
  refine ab_iload_n' hG 15 _ _ _ _ 3 _ dX4_areAlike_15 rfl ?_
  refine ab_icmp_ne' hG 16 _ _ _ _ (28) 44 _ _ dX4_areAlike_16 (by decide) (fun hc => ?_) (fun hc => ?_)
  · have h := h.2 hc
    refine ab_iconst' hG 44 _ _ _ _ 0 0 dX4_areAlike_44 (by decide) ?_
    exact ab_ireturn' hG 45 _ _ _ _ dX4_areAlike_45 (Or.inr ⟨rfl, Or.inl rfl⟩) (by decide) h
  · have h := h.1 hc
    refine ab_aload_n' hG 19 _ _ _ _ 0 _ dX4_areAlike_19 rfl ?_
    refine ab_gR hG 20 _ _ _ _ 21 4 3 t0 (8, t0) dX4_areAlike_20 (List.Mem.head _) rfl ?_
    refine ab_aload_n' hG 23 _ _ _ _ 0 _ dX4_areAlike_23 rfl ?_
    refine ab_gR hG 24 _ _ _ _ 9 4 0 t0 (5, t0) dX4_areAlike_24 (List.Mem.tail _ (List.Mem.head _)) rfl ?_
    refine ab_iload_n' hG 27 _ _ _ _ 1 _ dX4_areAlike_27 rfl ?_
    refine ab_iaload' hG 28 _ _ _ _ 5 t0 24 _ dX4_areAlike_28 rfl h.1 ?_
    have h := h.2
    refine ab_iaload' hG 29 _ _ _ _ 8 t0 24 _ dX4_areAlike_29 rfl h.1 ?_
    have h := h.2
    refine ab_aload_n' hG 30 _ _ _ _ 0 _ dX4_areAlike_30 rfl ?_
    refine ab_gR hG 31 _ _ _ _ 21 4 3 t0 (8, t0) dX4_areAlike_31 (List.Mem.head _) rfl ?_
    refine ab_aload_n' hG 34 _ _ _ _ 0 _ dX4_areAlike_34 rfl ?_
    refine ab_gR hG 35 _ _ _ _ 9 4 0 t0 (5, t0) dX4_areAlike_35 (List.Mem.tail _ (List.Mem.head _)) rfl ?_
    refine ab_iload_n' hG 38 _ _ _ _ 2 _ dX4_areAlike_38 rfl ?_
    refine ab_iaload' hG 39 _ _ _ _ 5 t0 24 _ dX4_areAlike_39 rfl h.1 ?_
    have h := h.2
    refine ab_iaload' hG 40 _ _ _ _ 8 t0 24 _ dX4_areAlike_40 rfl h.1 ?_
    have h := h.2
    refine ab_icmp_eq' hG 41 _ _ _ _ (5) 46 _ _ dX4_areAlike_41 (by decide) (fun hc => ?_) (fun hc => ?_)
    · have h := h.1 hc
      refine ab_iconst' hG 46 _ _ _ _ 1 1 dX4_areAlike_46 (by decide) ?_
      refine ab_istore' hG 47 _ _ _ _ 4 _ dX4_areAlike_47 (Nat.le_of_ble_eq_true rfl) ?_
      exact h
    · have h := h.2 hc
      refine ab_iconst' hG 44 _ _ _ _ 0 0 dX4_areAlike_44 (by decide) ?_
      exact ab_ireturn' hG 45 _ _ _ _ dX4_areAlike_45 (Or.inr ⟨rfl, Or.inl rfl⟩) (by decide) h
theorem bl_X4_areAlike_49 {Q : ab_Po} {G : ab_Gt} (hG : ab_Cl M_X4_areAlike Q G) (t0 : Nat) (x1 : Int32) (x2 : Int32) (x3 : Int32) (x4 : Int32) (S : ab_S) (h : (x3 ≤ x4 → Q (.inl (some (1 : Int32))) S) ∧ (¬ x3 ≤ x4 → vp_in (x1 + x4) 24 ∧ vp_in (S 5 t0 (x1 + x4).toNatClampNeg) 24 ∧ vp_in (x2 + x4) 24 ∧ vp_in (S 5 t0 (x2 + x4).toNatClampNeg) 24 ∧ ((S 8 t0 (S 5 t0 (x1 + x4).toNatClampNeg).toNatClampNeg) = (S 8 t0 (S 5 t0 (x2 + x4).toNatClampNeg).toNatClampNeg) → Sp_X4_parentSpot [(.inr (4, t0)), (.inl (x1 + x4))] S (ab_back Q G 101 [some (.inr (4, t0)), some (.inl x1), some (.inl x2), some (.inl x3), some (.inl x4), some (.inl (1 : Int32)), none] [] 0)) ∧ (¬ (S 8 t0 (S 5 t0 (x1 + x4).toNatClampNeg).toNatClampNeg) = (S 8 t0 (S 5 t0 (x2 + x4).toNatClampNeg).toNatClampNeg) → Sp_X4_parentSpot [(.inr (4, t0)), (.inl (x1 + x4))] S (ab_back Q G 101 [some (.inr (4, t0)), some (.inl x1), some (.inl x2), some (.inl x3), some (.inl x4), some (.inl (0 : Int32)), none] [] 0)))) : G 49 [some (.inr (4, t0)), some (.inl x1), some (.inl x2), some (.inl x3), some (.inl x4), none, none] [] S 0 := by
  refine ab_iload' hG 49 _ _ _ _ 4 _ dX4_areAlike_49 rfl ?_
  refine ab_iload_n' hG 51 _ _ _ _ 3 _ dX4_areAlike_51 rfl ?_
  refine ab_icmp_ge' hG 52 _ _ _ _ (89) 141 _ _ dX4_areAlike_52 (by decide) (fun hc => ?_) (fun hc => ?_)
  · have h := h.1 hc
    refine ab_iconst' hG 141 _ _ _ _ 1 1 dX4_areAlike_141 (by decide) ?_
    exact ab_ireturn' hG 142 _ _ _ _ dX4_areAlike_142 (Or.inr ⟨rfl, Or.inr rfl⟩) (by decide) h
  · have h := h.2 hc
    refine ab_aload_n' hG 55 _ _ _ _ 0 _ dX4_areAlike_55 rfl ?_
    refine ab_gR hG 56 _ _ _ _ 21 4 3 t0 (8, t0) dX4_areAlike_56 (List.Mem.head _) rfl ?_
    refine ab_aload_n' hG 59 _ _ _ _ 0 _ dX4_areAlike_59 rfl ?_
    refine ab_gR hG 60 _ _ _ _ 9 4 0 t0 (5, t0) dX4_areAlike_60 (List.Mem.tail _ (List.Mem.head _)) rfl ?_
    refine ab_iload_n' hG 63 _ _ _ _ 1 _ dX4_areAlike_63 rfl ?_
    refine ab_iload' hG 64 _ _ _ _ 4 _ dX4_areAlike_64 rfl ?_
    refine ab_iadd' hG 66 _ _ _ _ _ _ dX4_areAlike_66 ?_
    refine ab_iaload' hG 67 _ _ _ _ 5 t0 24 _ dX4_areAlike_67 rfl h.1 ?_
    have h := h.2
    refine ab_iaload' hG 68 _ _ _ _ 8 t0 24 _ dX4_areAlike_68 rfl h.1 ?_
    have h := h.2
    refine ab_aload_n' hG 69 _ _ _ _ 0 _ dX4_areAlike_69 rfl ?_
    refine ab_gR hG 70 _ _ _ _ 21 4 3 t0 (8, t0) dX4_areAlike_70 (List.Mem.head _) rfl ?_
    refine ab_aload_n' hG 73 _ _ _ _ 0 _ dX4_areAlike_73 rfl ?_
    refine ab_gR hG 74 _ _ _ _ 9 4 0 t0 (5, t0) dX4_areAlike_74 (List.Mem.tail _ (List.Mem.head _)) rfl ?_
    refine ab_iload_n' hG 77 _ _ _ _ 2 _ dX4_areAlike_77 rfl ?_
    refine ab_iload' hG 78 _ _ _ _ 4 _ dX4_areAlike_78 rfl ?_
    refine ab_iadd' hG 80 _ _ _ _ _ _ dX4_areAlike_80 ?_
    refine ab_iaload' hG 81 _ _ _ _ 5 t0 24 _ dX4_areAlike_81 rfl h.1 ?_
    have h := h.2
    refine ab_iaload' hG 82 _ _ _ _ 8 t0 24 _ dX4_areAlike_82 rfl h.1 ?_
    have h := h.2
    refine ab_icmp_ne' hG 83 _ _ _ _ (7) 90 _ _ dX4_areAlike_83 (by decide) (fun hc => ?_) (fun hc => ?_)
    · have h := h.2 hc
      refine ab_iconst' hG 90 _ _ _ _ 0 0 dX4_areAlike_90 (by decide) ?_
      refine ab_istore' hG 91 _ _ _ _ 5 _ dX4_areAlike_91 (Nat.le_of_ble_eq_true rfl) ?_
      refine ab_aload_n' hG 93 _ _ _ _ 0 _ dX4_areAlike_93 rfl ?_
      refine ab_iload_n' hG 94 _ _ _ _ 1 _ dX4_areAlike_94 rfl ?_
      refine ab_iload' hG 95 _ _ _ _ 4 _ dX4_areAlike_95 rfl ?_
      refine ab_iadd' hG 97 _ _ _ _ _ _ dX4_areAlike_97 ?_
      exact ab_invv' hG 98 _ [_] _ _ 0 54 _ 1 1 0 _ (4, _) dX4_areAlike_98 rfl rfl rfl rfl (Nat.le_of_ble_eq_true rfl) (Nat.le_of_ble_eq_true rfl) h
    · have h := h.1 hc
      refine ab_iconst' hG 86 _ _ _ _ 1 1 dX4_areAlike_86 (by decide) ?_
      refine ab_goto' hG 87 _ _ _ _ (4) 91 dX4_areAlike_87 (by decide) ?_
      refine ab_istore' hG 91 _ _ _ _ 5 _ dX4_areAlike_91 (Nat.le_of_ble_eq_true rfl) ?_
      refine ab_aload_n' hG 93 _ _ _ _ 0 _ dX4_areAlike_93 rfl ?_
      refine ab_iload_n' hG 94 _ _ _ _ 1 _ dX4_areAlike_94 rfl ?_
      refine ab_iload' hG 95 _ _ _ _ 4 _ dX4_areAlike_95 rfl ?_
      refine ab_iadd' hG 97 _ _ _ _ _ _ dX4_areAlike_97 ?_
      exact ab_invv' hG 98 _ [_] _ _ 0 54 _ 1 1 0 _ (4, _) dX4_areAlike_98 rfl rfl rfl rfl (Nat.le_of_ble_eq_true rfl) (Nat.le_of_ble_eq_true rfl) h
theorem bl_X4_areAlike_101 {Q : ab_Po} {G : ab_Gt} (hG : ab_Cl M_X4_areAlike Q G) (t0 : Nat) (x1 : Int32) (x2 : Int32) (x3 : Int32) (x4 : Int32) (x5 : Int32) (xs0 : Int32) (S : ab_S) (h : Sp_X4_parentSpot [(.inr (4, t0)), (.inl (x2 + x4))] S (ab_back Q G 111 [some (.inr (4, t0)), some (.inl x1), some (.inl x2), some (.inl x3), some (.inl x4), some (.inl x5), none] [(.inl (xs0 - x1))] 0)) : G 101 [some (.inr (4, t0)), some (.inl x1), some (.inl x2), some (.inl x3), some (.inl x4), some (.inl x5), none] [(.inl xs0)] S 0 := by
  refine ab_iload_n' hG 101 _ _ _ _ 1 _ dX4_areAlike_101 rfl ?_
  refine ab_isub' hG 102 _ _ _ _ _ _ dX4_areAlike_102 ?_
  refine ab_aload_n' hG 103 _ _ _ _ 0 _ dX4_areAlike_103 rfl ?_
  refine ab_iload_n' hG 104 _ _ _ _ 2 _ dX4_areAlike_104 rfl ?_
  refine ab_iload' hG 105 _ _ _ _ 4 _ dX4_areAlike_105 rfl ?_
  refine ab_iadd' hG 107 _ _ _ _ _ _ dX4_areAlike_107 ?_
  exact ab_invv' hG 108 _ [_] _ _ 0 54 _ 1 1 0 _ (4, _) dX4_areAlike_108 rfl rfl rfl rfl (Nat.le_of_ble_eq_true rfl) (Nat.le_of_ble_eq_true rfl) h
theorem bl_X4_areAlike_111 {Q : ab_Po} {G : ab_Gt} (hG : ab_Cl M_X4_areAlike Q G) (t0 : Nat) (x1 : Int32) (x2 : Int32) (x3 : Int32) (x4 : Int32) (x5 : Int32) (xs0 : Int32) (xs1 : Int32) (S : ab_S) (h : (xs1 = (xs0 - x2) → (x5 = 0 → Q (.inl (some (0 : Int32))) S) ∧ (¬ x5 = 0 → ((1 : Int32) = 0 → Q (.inl (some (0 : Int32))) S) ∧ (¬ (1 : Int32) = 0 → G 49 [some (.inr (4, t0)), some (.inl x1), some (.inl x2), some (.inl x3), some (.inl (x4 + 1)), none, none] [] S 0))) ∧ (¬ xs1 = (xs0 - x2) → (x5 = 0 → Q (.inl (some (0 : Int32))) S) ∧ (¬ x5 = 0 → ((0 : Int32) = 0 → Q (.inl (some (0 : Int32))) S) ∧ (¬ (0 : Int32) = 0 → G 49 [some (.inr (4, t0)), some (.inl x1), some (.inl x2), some (.inl x3), some (.inl (x4 + 1)), none, none] [] S 0)))) : G 111 [some (.inr (4, t0)), some (.inl x1), some (.inl x2), some (.inl x3), some (.inl x4), some (.inl x5), none] [(.inl xs0), (.inl xs1)] S 0 := by
  refine ab_iload_n' hG 111 _ _ _ _ 2 _ dX4_areAlike_111 rfl ?_
  refine ab_isub' hG 112 _ _ _ _ _ _ dX4_areAlike_112 ?_
  refine ab_icmp_ne' hG 113 _ _ _ _ (7) 120 _ _ dX4_areAlike_113 (by decide) (fun hc => ?_) (fun hc => ?_)
  · have h := h.2 hc
    refine ab_iconst' hG 120 _ _ _ _ 0 0 dX4_areAlike_120 (by decide) ?_
    refine ab_istore' hG 121 _ _ _ _ 6 _ dX4_areAlike_121 (Nat.le_of_ble_eq_true rfl) ?_
    refine ab_iload' hG 123 _ _ _ _ 5 _ dX4_areAlike_123 rfl ?_
    refine ab_if_eq' hG 125 _ _ _ _ (8) 133 _ dX4_areAlike_125 (by decide) (fun hc => ?_) (fun hc => ?_)
    · have h := h.1 hc
      refine ab_iconst' hG 133 _ _ _ _ 0 0 dX4_areAlike_133 (by decide) ?_
      exact ab_ireturn' hG 134 _ _ _ _ dX4_areAlike_134 (Or.inr ⟨rfl, Or.inl rfl⟩) (by decide) h
    · have h := h.2 hc
      refine ab_iload' hG 128 _ _ _ _ 6 _ dX4_areAlike_128 rfl ?_
      refine ab_if_ne' hG 130 _ _ _ _ (5) 135 _ dX4_areAlike_130 (by decide) (fun hc => ?_) (fun hc => ?_)
      · have h := h.2 hc
        refine ab_iinc' hG 135 _ _ _ _ 4 1 _ _ dX4_areAlike_135 rfl rfl ?_
        refine ab_goto' hG 138 _ _ _ _ (-89) 49 dX4_areAlike_138 (by decide) ?_
        refine ab_forget' hG _ _ _ _ _ 5 ?_
        refine ab_forget' hG _ _ _ _ _ 6 ?_
        exact h
      · have h := h.1 hc
        refine ab_iconst' hG 133 _ _ _ _ 0 0 dX4_areAlike_133 (by decide) ?_
        exact ab_ireturn' hG 134 _ _ _ _ dX4_areAlike_134 (Or.inr ⟨rfl, Or.inl rfl⟩) (by decide) h
  · have h := h.1 hc
    refine ab_iconst' hG 116 _ _ _ _ 1 1 dX4_areAlike_116 (by decide) ?_
    refine ab_goto' hG 117 _ _ _ _ (4) 121 dX4_areAlike_117 (by decide) ?_
    refine ab_istore' hG 121 _ _ _ _ 6 _ dX4_areAlike_121 (Nat.le_of_ble_eq_true rfl) ?_
    refine ab_iload' hG 123 _ _ _ _ 5 _ dX4_areAlike_123 rfl ?_
    refine ab_if_eq' hG 125 _ _ _ _ (8) 133 _ dX4_areAlike_125 (by decide) (fun hc => ?_) (fun hc => ?_)
    · have h := h.1 hc
      refine ab_iconst' hG 133 _ _ _ _ 0 0 dX4_areAlike_133 (by decide) ?_
      exact ab_ireturn' hG 134 _ _ _ _ dX4_areAlike_134 (Or.inr ⟨rfl, Or.inl rfl⟩) (by decide) h
    · have h := h.2 hc
      refine ab_iload' hG 128 _ _ _ _ 6 _ dX4_areAlike_128 rfl ?_
      refine ab_if_ne' hG 130 _ _ _ _ (5) 135 _ dX4_areAlike_130 (by decide) (fun hc => ?_) (fun hc => ?_)
      · have h := h.2 hc
        refine ab_iinc' hG 135 _ _ _ _ 4 1 _ _ dX4_areAlike_135 rfl rfl ?_
        refine ab_goto' hG 138 _ _ _ _ (-89) 49 dX4_areAlike_138 (by decide) ?_
        refine ab_forget' hG _ _ _ _ _ 5 ?_
        refine ab_forget' hG _ _ _ _ _ 6 ?_
        exact h
      · have h := h.1 hc
        refine ab_iconst' hG 133 _ _ _ _ 0 0 dX4_areAlike_133 (by decide) ?_
        exact ab_ireturn' hG 134 _ _ _ _ dX4_areAlike_134 (Or.inr ⟨rfl, Or.inl rfl⟩) (by decide) h
theorem bl_X4_firstAlike_0 {Q : ab_Po} {G : ab_Gt} (hG : ab_Cl M_X4_firstAlike Q G) (t0 : Nat) (x1 : Int32) (S : ab_S) (h : G 2 [some (.inr (4, t0)), some (.inl x1), some (.inl (0 : Int32))] [] S 0) : G 0 [some (.inr (4, t0)), some (.inl x1), none] [] S 0 := by
  refine ab_iconst' hG 0 _ _ _ _ 0 0 dX4_firstAlike_0 (by decide) ?_
  refine ab_istore_n' hG 1 _ _ _ _ 2 _ dX4_firstAlike_1 (Nat.le_of_ble_eq_true rfl) ?_
  exact h
theorem bl_X4_firstAlike_2 {Q : ab_Po} {G : ab_Gt} (hG : ab_Cl M_X4_firstAlike Q G) (t0 : Nat) (x1 : Int32) (x2 : Int32) (S : ab_S) (h : vp_in x1 24 ∧ ((S 6 t0 x1.toNatClampNeg) ≤ x2 → Q (.inl (some x1)) S) ∧ (¬ (S 6 t0 x1.toNatClampNeg) ≤ x2 → vp_in x1 24 ∧ Sp_X4_areAlike [(.inr (4, t0)), (.inl x2), (.inl (S 6 t0 x1.toNatClampNeg))] S (ab_back Q G 23 [some (.inr (4, t0)), some (.inl x1), some (.inl x2)] [] 0))) : G 2 [some (.inr (4, t0)), some (.inl x1), some (.inl x2)] [] S 0 := by
  refine ab_iload_n' hG 2 _ _ _ _ 2 _ dX4_firstAlike_2 rfl ?_
  refine ab_aload_n' hG 3 _ _ _ _ 0 _ dX4_firstAlike_3 rfl ?_
  refine ab_gR hG 4 _ _ _ _ 15 4 1 t0 (6, t0) dX4_firstAlike_4 (List.Mem.head _) rfl ?_
  refine ab_iload_n' hG 7 _ _ _ _ 1 _ dX4_firstAlike_7 rfl ?_
  refine ab_iaload' hG 8 _ _ _ _ 6 t0 24 _ dX4_firstAlike_8 rfl h.1 ?_
  have h := h.2
  refine ab_icmp_ge' hG 9 _ _ _ _ (30) 39 _ _ dX4_firstAlike_9 (by decide) (fun hc => ?_) (fun hc => ?_)
  · have h := h.1 hc
    refine ab_iload_n' hG 39 _ _ _ _ 1 _ dX4_firstAlike_39 rfl ?_
    exact ab_ireturn' hG 40 _ _ _ _ dX4_firstAlike_40 (Or.inl rfl) (by decide) h
  · have h := h.2 hc
    refine ab_aload_n' hG 12 _ _ _ _ 0 _ dX4_firstAlike_12 rfl ?_
    refine ab_iload_n' hG 13 _ _ _ _ 2 _ dX4_firstAlike_13 rfl ?_
    refine ab_aload_n' hG 14 _ _ _ _ 0 _ dX4_firstAlike_14 rfl ?_
    refine ab_gR hG 15 _ _ _ _ 15 4 1 t0 (6, t0) dX4_firstAlike_15 (List.Mem.head _) rfl ?_
    refine ab_iload_n' hG 18 _ _ _ _ 1 _ dX4_firstAlike_18 rfl ?_
    refine ab_iaload' hG 19 _ _ _ _ 6 t0 24 _ dX4_firstAlike_19 rfl h.1 ?_
    have h := h.2
    exact ab_invv' hG 20 _ [_, _] _ _ 0 79 _ 2 1 0 _ (4, _) dX4_firstAlike_20 rfl rfl rfl rfl (Nat.le_of_ble_eq_true rfl) (Nat.le_of_ble_eq_true rfl) h
theorem bl_X4_firstAlike_23 {Q : ab_Po} {G : ab_Gt} (hG : ab_Cl M_X4_firstAlike Q G) (t0 : Nat) (x1 : Int32) (x2 : Int32) (xs0 : Int32) (S : ab_S) (h : (xs0 = 0 → G 2 [some (.inr (4, t0)), some (.inl x1), some (.inl (x2 + 1))] [] S 0) ∧ (¬ xs0 = 0 → vp_in x2 24 ∧ Q (.inl (some (S 5 t0 x2.toNatClampNeg))) S)) : G 23 [some (.inr (4, t0)), some (.inl x1), some (.inl x2)] [(.inl xs0)] S 0 := by
  refine ab_if_eq' hG 23 _ _ _ _ (10) 33 _ dX4_firstAlike_23 (by decide) (fun hc => ?_) (fun hc => ?_)
  · have h := h.1 hc
    refine ab_iinc' hG 33 _ _ _ _ 2 1 _ _ dX4_firstAlike_33 rfl rfl ?_
    refine ab_goto' hG 36 _ _ _ _ (-34) 2 dX4_firstAlike_36 (by decide) ?_
    exact h
  · have h := h.2 hc
    refine ab_aload_n' hG 26 _ _ _ _ 0 _ dX4_firstAlike_26 rfl ?_
    refine ab_gR hG 27 _ _ _ _ 9 4 0 t0 (5, t0) dX4_firstAlike_27 (List.Mem.tail _ (List.Mem.head _)) rfl ?_
    refine ab_iload_n' hG 30 _ _ _ _ 2 _ dX4_firstAlike_30 rfl ?_
    refine ab_iaload' hG 31 _ _ _ _ 5 t0 24 _ dX4_firstAlike_31 rfl h.1 ?_
    have h := h.2
    exact ab_ireturn' hG 32 _ _ _ _ dX4_firstAlike_32 (Or.inl rfl) (by decide) h
