theorem bl_X6_thrown_0 {Q : ab_Po} {G : ab_Gt} (hG : ab_Cl M_X6_thrown Q G)  (S : ab_S) (h : Q (.inl (some (S 21 0 0))) S) : G 0 [some (.inr (21, 0))] [] S 0 := by
  refine ab_aload_n' hG 0 _ _ _ _ 0 _ dX6_thrown_0 rfl ?_
  refine ab_gI hG 1 _ _ _ _ 82 21 0 0 dX6_thrown_1 (List.Mem.head _) rfl ?_
  exact ab_ireturn' hG 4 _ _ _ _ dX6_thrown_4 (Or.inl rfl) (by decide) h
theorem bl_X6_fail_0 {Q : ab_Po} {G : ab_Gt} (hG : ab_Cl M_X6_fail Q G) (x1 : Int32) (S : ab_S) (h : (∀ S1 : ab_S, S1 = ab_su S 21 0 0 x1 → Q (.inl (some (0 : Int32))) S1)) : G 0 [some (.inr (21, 0)), some (.inl x1)] [] S 0 := by
  refine ab_aload_n' hG 0 _ _ _ _ 0 _ dX6_fail_0 rfl ?_
  refine ab_iload_n' hG 1 _ _ _ _ 1 _ dX6_fail_1 rfl ?_
  refine ab_putfield' hG 2 _ _ _ _ 82 21 0 0 _ dX6_fail_2 (List.Mem.head _) ?_
  have h := h _ rfl
  refine ab_iconst' hG 5 _ _ _ _ 0 0 dX6_fail_5 (by decide) ?_
  exact ab_ireturn' hG 6 _ _ _ _ dX6_fail_6 (Or.inl rfl) (by decide) h
theorem bl_X6_copy_0 {Q : ab_Po} {G : ab_Gt} (hG : ab_Cl M_X6_copy Q G) (x1 : Int32) (x2 : Int32) (S : ab_S) (h : G 2 [some (.inr (21, 0)), some (.inl x1), some (.inl x2), some (.inl (0 : Int32))] [] S 0) : G 0 [some (.inr (21, 0)), some (.inl x1), some (.inl x2), none] [] S 0 := by
  refine ab_iconst' hG 0 _ _ _ _ 0 0 dX6_copy_0 (by decide) ?_
  refine ab_istore_n' hG 1 _ _ _ _ 3 _ dX6_copy_1 (Nat.le_of_ble_eq_true rfl) ?_
  exact h
theorem bl_X6_copy_2 {Q : ab_Po} {G : ab_Gt} (hG : ab_Cl M_X6_copy Q G) (x1 : Int32) (x2 : Int32) (x3 : Int32) (S : ab_S) (h : ((24 : Int32) ≤ x3 → Q (.inl none) S) ∧ (¬ (24 : Int32) ≤ x3 → vp_in (((24 : Int32) * x1) + x3) 336 ∧ vp_in (((24 : Int32) * x2) + x3) 336 ∧ (∀ S1 : ab_S, S1 = ab_su S 22 0 (((24 : Int32) * x2) + x3).toNatClampNeg (vp_nar .boolean (S 22 0 (((24 : Int32) * x1) + x3).toNatClampNeg)) → vp_in (((24 : Int32) * x1) + x3) 336 ∧ vp_in (((24 : Int32) * x2) + x3) 336 ∧ (∀ S2 : ab_S, S2 = ab_su S1 23 0 (((24 : Int32) * x2) + x3).toNatClampNeg (S1 23 0 (((24 : Int32) * x1) + x3).toNatClampNeg) → vp_in (((24 : Int32) * x1) + x3) 336 ∧ vp_in (((24 : Int32) * x2) + x3) 336 ∧ (∀ S3 : ab_S, S3 = ab_su S2 24 0 (((24 : Int32) * x2) + x3).toNatClampNeg (S2 24 0 (((24 : Int32) * x1) + x3).toNatClampNeg) → vp_in (((24 : Int32) * x1) + x3) 336 ∧ vp_in (((24 : Int32) * x2) + x3) 336 ∧ (∀ S4 : ab_S, S4 = ab_su S3 25 0 (((24 : Int32) * x2) + x3).toNatClampNeg (S3 25 0 (((24 : Int32) * x1) + x3).toNatClampNeg) → G 2 [some (.inr (21, 0)), some (.inl x1), some (.inl x2), some (.inl (x3 + 1))] [] S4 0)))))) : G 2 [some (.inr (21, 0)), some (.inl x1), some (.inl x2), some (.inl x3)] [] S 0 := by
  refine ab_iload_n' hG 2 _ _ _ _ 3 _ dX6_copy_2 rfl ?_
  refine ab_bipush' hG 3 _ _ _ _ 24 24 dX6_copy_3 (by decide) ?_
  refine ab_icmp_ge' hG 5 _ _ _ _ (97) 102 _ _ dX6_copy_5 (by decide) (fun hc => ?_) (fun hc => ?_)
  · have h := h.1 hc
    exact ab_return_' hG 102 _ _ _ dX6_copy_102 rfl (by decide) h
  · have h := h.2 hc
    refine ab_aload_n' hG 8 _ _ _ _ 0 _ dX6_copy_8 rfl ?_
    refine ab_gR hG 9 _ _ _ _ 7 21 1 0 (22, 0) dX6_copy_9 (List.Mem.head _) rfl ?_
    refine ab_bipush' hG 12 _ _ _ _ 24 24 dX6_copy_12 (by decide) ?_
    refine ab_iload_n' hG 14 _ _ _ _ 2 _ dX6_copy_14 rfl ?_
    refine ab_imul' hG 15 _ _ _ _ _ _ dX6_copy_15 ?_
    refine ab_iload_n' hG 16 _ _ _ _ 3 _ dX6_copy_16 rfl ?_
    refine ab_iadd' hG 17 _ _ _ _ _ _ dX6_copy_17 ?_
    refine ab_aload_n' hG 18 _ _ _ _ 0 _ dX6_copy_18 rfl ?_
    refine ab_gR hG 19 _ _ _ _ 7 21 1 0 (22, 0) dX6_copy_19 (List.Mem.head _) rfl ?_
    refine ab_bipush' hG 22 _ _ _ _ 24 24 dX6_copy_22 (by decide) ?_
    refine ab_iload_n' hG 24 _ _ _ _ 1 _ dX6_copy_24 rfl ?_
    refine ab_imul' hG 25 _ _ _ _ _ _ dX6_copy_25 ?_
    refine ab_iload_n' hG 26 _ _ _ _ 3 _ dX6_copy_26 rfl ?_
    refine ab_iadd' hG 27 _ _ _ _ _ _ dX6_copy_27 ?_
    refine ab_baload' hG 28 _ _ _ _ 22 0 336 _ dX6_copy_28 rfl h.1 ?_
    have h := h.2
    refine ab_bastore' hG 29 _ _ _ _ 22 0 336 _ _ dX6_copy_29 rfl h.1 ?_
    have h := h.2
    have h := h _ rfl
    refine ab_aload_n' hG 30 _ _ _ _ 0 _ dX6_copy_30 rfl ?_
    refine ab_gR hG 31 _ _ _ _ 13 21 2 0 (23, 0) dX6_copy_31 (List.Mem.tail _ (List.Mem.head _)) rfl ?_
    refine ab_bipush' hG 34 _ _ _ _ 24 24 dX6_copy_34 (by decide) ?_
    refine ab_iload_n' hG 36 _ _ _ _ 2 _ dX6_copy_36 rfl ?_
    refine ab_imul' hG 37 _ _ _ _ _ _ dX6_copy_37 ?_
    refine ab_iload_n' hG 38 _ _ _ _ 3 _ dX6_copy_38 rfl ?_
    refine ab_iadd' hG 39 _ _ _ _ _ _ dX6_copy_39 ?_
    refine ab_aload_n' hG 40 _ _ _ _ 0 _ dX6_copy_40 rfl ?_
    refine ab_gR hG 41 _ _ _ _ 13 21 2 0 (23, 0) dX6_copy_41 (List.Mem.tail _ (List.Mem.head _)) rfl ?_
    refine ab_bipush' hG 44 _ _ _ _ 24 24 dX6_copy_44 (by decide) ?_
    refine ab_iload_n' hG 46 _ _ _ _ 1 _ dX6_copy_46 rfl ?_
    refine ab_imul' hG 47 _ _ _ _ _ _ dX6_copy_47 ?_
    refine ab_iload_n' hG 48 _ _ _ _ 3 _ dX6_copy_48 rfl ?_
    refine ab_iadd' hG 49 _ _ _ _ _ _ dX6_copy_49 ?_
    refine ab_iaload' hG 50 _ _ _ _ 23 0 336 _ dX6_copy_50 rfl h.1 ?_
    have h := h.2
    refine ab_iastore' hG 51 _ _ _ _ 23 0 336 _ _ dX6_copy_51 rfl h.1 ?_
    have h := h.2
    have h := h _ rfl
    refine ab_aload_n' hG 52 _ _ _ _ 0 _ dX6_copy_52 rfl ?_
    refine ab_gR hG 53 _ _ _ _ 17 21 3 0 (24, 0) dX6_copy_53 (List.Mem.tail _ (List.Mem.tail _ (List.Mem.head _))) rfl ?_
    refine ab_bipush' hG 56 _ _ _ _ 24 24 dX6_copy_56 (by decide) ?_
    refine ab_iload_n' hG 58 _ _ _ _ 2 _ dX6_copy_58 rfl ?_
    refine ab_imul' hG 59 _ _ _ _ _ _ dX6_copy_59 ?_
    refine ab_iload_n' hG 60 _ _ _ _ 3 _ dX6_copy_60 rfl ?_
    refine ab_iadd' hG 61 _ _ _ _ _ _ dX6_copy_61 ?_
    refine ab_aload_n' hG 62 _ _ _ _ 0 _ dX6_copy_62 rfl ?_
    refine ab_gR hG 63 _ _ _ _ 17 21 3 0 (24, 0) dX6_copy_63 (List.Mem.tail _ (List.Mem.tail _ (List.Mem.head _))) rfl ?_
    refine ab_bipush' hG 66 _ _ _ _ 24 24 dX6_copy_66 (by decide) ?_
    refine ab_iload_n' hG 68 _ _ _ _ 1 _ dX6_copy_68 rfl ?_
    refine ab_imul' hG 69 _ _ _ _ _ _ dX6_copy_69 ?_
    refine ab_iload_n' hG 70 _ _ _ _ 3 _ dX6_copy_70 rfl ?_
    refine ab_iadd' hG 71 _ _ _ _ _ _ dX6_copy_71 ?_
    refine ab_iaload' hG 72 _ _ _ _ 24 0 336 _ dX6_copy_72 rfl h.1 ?_
    have h := h.2
    refine ab_iastore' hG 73 _ _ _ _ 24 0 336 _ _ dX6_copy_73 rfl h.1 ?_
    have h := h.2
    have h := h _ rfl
    refine ab_aload_n' hG 74 _ _ _ _ 0 _ dX6_copy_74 rfl ?_
    refine ab_gR hG 75 _ _ _ _ 20 21 4 0 (25, 0) dX6_copy_75 (List.Mem.tail _ (List.Mem.tail _ (List.Mem.tail _ (List.Mem.head _)))) rfl ?_
    refine ab_bipush' hG 78 _ _ _ _ 24 24 dX6_copy_78 (by decide) ?_
    refine ab_iload_n' hG 80 _ _ _ _ 2 _ dX6_copy_80 rfl ?_
    refine ab_imul' hG 81 _ _ _ _ _ _ dX6_copy_81 ?_
    refine ab_iload_n' hG 82 _ _ _ _ 3 _ dX6_copy_82 rfl ?_
    refine ab_iadd' hG 83 _ _ _ _ _ _ dX6_copy_83 ?_
    refine ab_aload_n' hG 84 _ _ _ _ 0 _ dX6_copy_84 rfl ?_
    refine ab_gR hG 85 _ _ _ _ 20 21 4 0 (25, 0) dX6_copy_85 (List.Mem.tail _ (List.Mem.tail _ (List.Mem.tail _ (List.Mem.head _)))) rfl ?_
    refine ab_bipush' hG 88 _ _ _ _ 24 24 dX6_copy_88 (by decide) ?_
    refine ab_iload_n' hG 90 _ _ _ _ 1 _ dX6_copy_90 rfl ?_
    refine ab_imul' hG 91 _ _ _ _ _ _ dX6_copy_91 ?_
    refine ab_iload_n' hG 92 _ _ _ _ 3 _ dX6_copy_92 rfl ?_
    refine ab_iadd' hG 93 _ _ _ _ _ _ dX6_copy_93 ?_
    refine ab_iaload' hG 94 _ _ _ _ 25 0 336 _ dX6_copy_94 rfl h.1 ?_
    have h := h.2
    refine ab_iastore' hG 95 _ _ _ _ 25 0 336 _ _ dX6_copy_95 rfl h.1 ?_
    have h := h.2
    have h := h _ rfl
    refine ab_iinc' hG 96 _ _ _ _ 3 1 _ _ dX6_copy_96 rfl rfl ?_
    refine ab_goto' hG 99 _ _ _ _ (-97) 2 dX6_copy_99 (by decide) ?_
    exact h
theorem bl_X6_has_0 {Q : ab_Po} {G : ab_Gt} (hG : ab_Cl M_X6_has Q G) (x1 : Int32) (x2 : Int32) (S : ab_S) (h : (x2 < 0 → Q (.inl (some (0 : Int32))) S) ∧ (¬ x2 < 0 → ((24 : Int32) ≤ x2 → Q (.inl (some (0 : Int32))) S) ∧ (¬ (24 : Int32) ≤ x2 → vp_in (((24 : Int32) * x1) + x2) 336 ∧ ((S 22 0 (((24 : Int32) * x1) + x2).toNatClampNeg) = 0 → Q (.inl (some (0 : Int32))) S) ∧ (¬ (S 22 0 (((24 : Int32) * x1) + x2).toNatClampNeg) = 0 → Q (.inl (some (1 : Int32))) S)))) : G 0 [some (.inr (21, 0)), some (.inl x1), some (.inl x2)] [] S 0 := by
  refine ab_iload_n' hG 0 _ _ _ _ 2 _ dX6_has_0 rfl ?_
  refine ab_if_lt' hG 1 _ _ _ _ (27) 28 _ dX6_has_1 (by decide) (fun hc => ?_) (fun hc => ?_)
  · have h := h.1 hc
    refine ab_iconst' hG 28 _ _ _ _ 0 0 dX6_has_28 (by decide) ?_
    exact ab_ireturn' hG 29 _ _ _ _ dX6_has_29 (Or.inr ⟨rfl, Or.inl rfl⟩) (by decide) h
  · have h := h.2 hc
    refine ab_iload_n' hG 4 _ _ _ _ 2 _ dX6_has_4 rfl ?_
    refine ab_bipush' hG 5 _ _ _ _ 24 24 dX6_has_5 (by decide) ?_
    refine ab_icmp_ge' hG 7 _ _ _ _ (21) 28 _ _ dX6_has_7 (by decide) (fun hc => ?_) (fun hc => ?_)
    · have h := h.1 hc
      refine ab_iconst' hG 28 _ _ _ _ 0 0 dX6_has_28 (by decide) ?_
      exact ab_ireturn' hG 29 _ _ _ _ dX6_has_29 (Or.inr ⟨rfl, Or.inl rfl⟩) (by decide) h
    · have h := h.2 hc
      refine ab_aload_n' hG 10 _ _ _ _ 0 _ dX6_has_10 rfl ?_
      refine ab_gR hG 11 _ _ _ _ 7 21 1 0 (22, 0) dX6_has_11 (List.Mem.head _) rfl ?_
      refine ab_bipush' hG 14 _ _ _ _ 24 24 dX6_has_14 (by decide) ?_
      refine ab_iload_n' hG 16 _ _ _ _ 1 _ dX6_has_16 rfl ?_
      refine ab_imul' hG 17 _ _ _ _ _ _ dX6_has_17 ?_
      refine ab_iload_n' hG 18 _ _ _ _ 2 _ dX6_has_18 rfl ?_
      refine ab_iadd' hG 19 _ _ _ _ _ _ dX6_has_19 ?_
      refine ab_baload' hG 20 _ _ _ _ 22 0 336 _ dX6_has_20 rfl h.1 ?_
      have h := h.2
      refine ab_if_eq' hG 21 _ _ _ _ (7) 28 _ dX6_has_21 (by decide) (fun hc => ?_) (fun hc => ?_)
      · have h := h.1 hc
        refine ab_iconst' hG 28 _ _ _ _ 0 0 dX6_has_28 (by decide) ?_
        exact ab_ireturn' hG 29 _ _ _ _ dX6_has_29 (Or.inr ⟨rfl, Or.inl rfl⟩) (by decide) h
      · have h := h.2 hc
        refine ab_iconst' hG 24 _ _ _ _ 1 1 dX6_has_24 (by decide) ?_
        refine ab_goto' hG 25 _ _ _ _ (4) 29 dX6_has_25 (by decide) ?_
        exact ab_ireturn' hG 29 _ _ _ _ dX6_has_29 (Or.inr ⟨rfl, Or.inr rfl⟩) (by decide) h
theorem bl_X6_isChild_0 {Q : ab_Po} {G : ab_Gt} (hG : ab_Cl M_X6_isChild Q G) (x1 : Int32) (x2 : Int32) (x3 : Int32) (S : ab_S) (h : vp_in (((24 : Int32) * x1) + x2) 336 ∧ ((S 22 0 (((24 : Int32) * x1) + x2).toNatClampNeg) = 0 → Q (.inl (some (0 : Int32))) S) ∧ (¬ (S 22 0 (((24 : Int32) * x1) + x2).toNatClampNeg) = 0 → vp_in (((24 : Int32) * x1) + x2) 336 ∧ ((S 24 0 (((24 : Int32) * x1) + x2).toNatClampNeg) = x3 → Q (.inl (some (1 : Int32))) S) ∧ (¬ (S 24 0 (((24 : Int32) * x1) + x2).toNatClampNeg) = x3 → Q (.inl (some (0 : Int32))) S))) : G 0 [some (.inr (21, 0)), some (.inl x1), some (.inl x2), some (.inl x3)] [] S 0 := by
  refine ab_aload_n' hG 0 _ _ _ _ 0 _ dX6_isChild_0 rfl ?_
  refine ab_gR hG 1 _ _ _ _ 7 21 1 0 (22, 0) dX6_isChild_1 (List.Mem.head _) rfl ?_
  refine ab_bipush' hG 4 _ _ _ _ 24 24 dX6_isChild_4 (by decide) ?_
  refine ab_iload_n' hG 6 _ _ _ _ 1 _ dX6_isChild_6 rfl ?_
  refine ab_imul' hG 7 _ _ _ _ _ _ dX6_isChild_7 ?_
  refine ab_iload_n' hG 8 _ _ _ _ 2 _ dX6_isChild_8 rfl ?_
  refine ab_iadd' hG 9 _ _ _ _ _ _ dX6_isChild_9 ?_
  refine ab_baload' hG 10 _ _ _ _ 22 0 336 _ dX6_isChild_10 rfl h.1 ?_
  have h := h.2
  refine ab_if_eq' hG 11 _ _ _ _ (22) 33 _ dX6_isChild_11 (by decide) (fun hc => ?_) (fun hc => ?_)
  · have h := h.1 hc
    refine ab_iconst' hG 33 _ _ _ _ 0 0 dX6_isChild_33 (by decide) ?_
    exact ab_ireturn' hG 34 _ _ _ _ dX6_isChild_34 (Or.inr ⟨rfl, Or.inl rfl⟩) (by decide) h
  · have h := h.2 hc
    refine ab_aload_n' hG 14 _ _ _ _ 0 _ dX6_isChild_14 rfl ?_
    refine ab_gR hG 15 _ _ _ _ 17 21 3 0 (24, 0) dX6_isChild_15 (List.Mem.tail _ (List.Mem.head _)) rfl ?_
    refine ab_bipush' hG 18 _ _ _ _ 24 24 dX6_isChild_18 (by decide) ?_
    refine ab_iload_n' hG 20 _ _ _ _ 1 _ dX6_isChild_20 rfl ?_
    refine ab_imul' hG 21 _ _ _ _ _ _ dX6_isChild_21 ?_
    refine ab_iload_n' hG 22 _ _ _ _ 2 _ dX6_isChild_22 rfl ?_
    refine ab_iadd' hG 23 _ _ _ _ _ _ dX6_isChild_23 ?_
    refine ab_iaload' hG 24 _ _ _ _ 24 0 336 _ dX6_isChild_24 rfl h.1 ?_
    have h := h.2
    refine ab_iload_n' hG 25 _ _ _ _ 3 _ dX6_isChild_25 rfl ?_
    refine ab_icmp_ne' hG 26 _ _ _ _ (7) 33 _ _ dX6_isChild_26 (by decide) (fun hc => ?_) (fun hc => ?_)
    · have h := h.2 hc
      refine ab_iconst' hG 33 _ _ _ _ 0 0 dX6_isChild_33 (by decide) ?_
      exact ab_ireturn' hG 34 _ _ _ _ dX6_isChild_34 (Or.inr ⟨rfl, Or.inl rfl⟩) (by decide) h
    · have h := h.1 hc
      refine ab_iconst' hG 29 _ _ _ _ 1 1 dX6_isChild_29 (by decide) ?_
      refine ab_goto' hG 30 _ _ _ _ (4) 34 dX6_isChild_30 (by decide) ?_
      exact ab_ireturn' hG 34 _ _ _ _ dX6_isChild_34 (Or.inr ⟨rfl, Or.inr rfl⟩) (by decide) h
theorem bl_X6_children_0 {Q : ab_Po} {G : ab_Gt} (hG : ab_Cl M_X6_children Q G) (x1 : Int32) (x2 : Int32) (S : ab_S) (h : G 5 [some (.inr (21, 0)), some (.inl x1), some (.inl x2), some (.inl (0 : Int32)), some (.inl (0 : Int32))] [] S 0) : G 0 [some (.inr (21, 0)), some (.inl x1), some (.inl x2), none, none] [] S 0 := by
  refine ab_iconst' hG 0 _ _ _ _ 0 0 dX6_children_0 (by decide) ?_
  refine ab_istore_n' hG 1 _ _ _ _ 3 _ dX6_children_1 (Nat.le_of_ble_eq_true rfl) ?_
  refine ab_iconst' hG 2 _ _ _ _ 0 0 dX6_children_2 (by decide) ?_
  refine ab_istore' hG 3 _ _ _ _ 4 _ dX6_children_3 (Nat.le_of_ble_eq_true rfl) ?_
  exact h
theorem bl_X6_children_5 {Q : ab_Po} {G : ab_Gt} (hG : ab_Cl M_X6_children Q G) (x1 : Int32) (x2 : Int32) (x3 : Int32) (x4 : Int32) (S : ab_S) (h : ((24 : Int32) ≤ x4 → Q (.inl (some x3)) S) ∧ (¬ (24 : Int32) ≤ x4 → Sp_X6_isChild [(.inr (21, 0)), (.inl x1), (.inl x4), (.inl x2)] S (ab_back Q G 20 [some (.inr (21, 0)), some (.inl x1), some (.inl x2), some (.inl x3), some (.inl x4)] [] 0))) : G 5 [some (.inr (21, 0)), some (.inl x1), some (.inl x2), some (.inl x3), some (.inl x4)] [] S 0 := by
  refine ab_iload' hG 5 _ _ _ _ 4 _ dX6_children_5 rfl ?_
  refine ab_bipush' hG 7 _ _ _ _ 24 24 dX6_children_7 (by decide) ?_
  refine ab_icmp_ge' hG 9 _ _ _ _ (28) 37 _ _ dX6_children_9 (by decide) (fun hc => ?_) (fun hc => ?_)
  · have h := h.1 hc
    refine ab_iload_n' hG 37 _ _ _ _ 3 _ dX6_children_37 rfl ?_
    exact ab_ireturn' hG 38 _ _ _ _ dX6_children_38 (Or.inl rfl) (by decide) h
  · have h := h.2 hc
    refine ab_aload_n' hG 12 _ _ _ _ 0 _ dX6_children_12 rfl ?_
    refine ab_iload_n' hG 13 _ _ _ _ 1 _ dX6_children_13 rfl ?_
    refine ab_iload' hG 14 _ _ _ _ 4 _ dX6_children_14 rfl ?_
    refine ab_iload_n' hG 16 _ _ _ _ 2 _ dX6_children_16 rfl ?_
    exact ab_invv' hG 17 _ [_, _, _] _ _ 0 85 _ 3 1 0 _ (21, _) dX6_children_17 rfl rfl rfl rfl (Nat.le_of_ble_eq_true rfl) (Nat.le_of_ble_eq_true rfl) h
theorem bl_X6_children_20 {Q : ab_Po} {G : ab_Gt} (hG : ab_Cl M_X6_children Q G) (x1 : Int32) (x2 : Int32) (x3 : Int32) (x4 : Int32) (xs0 : Int32) (S : ab_S) (h : (xs0 = 0 → G 5 [some (.inr (21, 0)), some (.inl x1), some (.inl x2), some (.inl x3), some (.inl (x4 + 1))] [] S 0) ∧ (¬ xs0 = 0 → G 5 [some (.inr (21, 0)), some (.inl x1), some (.inl x2), some (.inl (x3 + (1 : Int32))), some (.inl (x4 + 1))] [] S 0)) : G 20 [some (.inr (21, 0)), some (.inl x1), some (.inl x2), some (.inl x3), some (.inl x4)] [(.inl xs0)] S 0 := by
  refine ab_if_eq' hG 20 _ _ _ _ (9) 29 _ dX6_children_20 (by decide) (fun hc => ?_) (fun hc => ?_)
  · have h := h.1 hc
    refine ab_iload_n' hG 29 _ _ _ _ 3 _ dX6_children_29 rfl ?_
    refine ab_istore_n' hG 30 _ _ _ _ 3 _ dX6_children_30 (Nat.le_of_ble_eq_true rfl) ?_
    refine ab_iinc' hG 31 _ _ _ _ 4 1 _ _ dX6_children_31 rfl rfl ?_
    refine ab_goto' hG 34 _ _ _ _ (-29) 5 dX6_children_34 (by decide) ?_
    exact h
  · have h := h.2 hc
    refine ab_iload_n' hG 23 _ _ _ _ 3 _ dX6_children_23 rfl ?_
    refine ab_iconst' hG 24 _ _ _ _ 1 1 dX6_children_24 (by decide) ?_
    refine ab_iadd' hG 25 _ _ _ _ _ _ dX6_children_25 ?_
    refine ab_goto' hG 26 _ _ _ _ (4) 30 dX6_children_26 (by decide) ?_
    refine ab_istore_n' hG 30 _ _ _ _ 3 _ dX6_children_30 (Nat.le_of_ble_eq_true rfl) ?_
    refine ab_iinc' hG 31 _ _ _ _ 4 1 _ _ dX6_children_31 rfl rfl ?_
    refine ab_goto' hG 34 _ _ _ _ (-29) 5 dX6_children_34 (by decide) ?_
    exact h
theorem bl_X6_childAt_0 {Q : ab_Po} {G : ab_Gt} (hG : ab_Cl M_X6_childAt Q G) (x1 : Int32) (x2 : Int32) (x3 : Int32) (S : ab_S) (h : G 6 [some (.inr (21, 0)), some (.inl x1), some (.inl x2), some (.inl x3), some (.inl (-1 : Int32)), some (.inl (0 : Int32))] [] S 0) : G 0 [some (.inr (21, 0)), some (.inl x1), some (.inl x2), some (.inl x3), none, none] [] S 0 := by
  refine ab_iconst' hG 0 _ _ _ _ (-1) (-1) dX6_childAt_0 (by decide) ?_
  refine ab_istore' hG 1 _ _ _ _ 4 _ dX6_childAt_1 (Nat.le_of_ble_eq_true rfl) ?_
  refine ab_iconst' hG 3 _ _ _ _ 0 0 dX6_childAt_3 (by decide) ?_
  refine ab_istore' hG 4 _ _ _ _ 5 _ dX6_childAt_4 (Nat.le_of_ble_eq_true rfl) ?_
  exact h
theorem bl_X6_childAt_6 {Q : ab_Po} {G : ab_Gt} (hG : ab_Cl M_X6_childAt Q G) (x1 : Int32) (x2 : Int32) (x3 : Int32) (x4 : Int32) (x5 : Int32) (S : ab_S) (h : ((24 : Int32) ≤ x5 → Q (.inl (some x4)) S) ∧ (¬ (24 : Int32) ≤ x5 → Sp_X6_isChild [(.inr (21, 0)), (.inl x1), (.inl x5), (.inl x2)] S (ab_back Q G 21 [some (.inr (21, 0)), some (.inl x1), some (.inl x2), some (.inl x3), some (.inl x4), some (.inl x5)] [] 0))) : G 6 [some (.inr (21, 0)), some (.inl x1), some (.inl x2), some (.inl x3), some (.inl x4), some (.inl x5)] [] S 0 := by
  refine ab_iload' hG 6 _ _ _ _ 5 _ dX6_childAt_6 rfl ?_
  refine ab_bipush' hG 8 _ _ _ _ 24 24 dX6_childAt_8 (by decide) ?_
  refine ab_icmp_ge' hG 10 _ _ _ _ (45) 55 _ _ dX6_childAt_10 (by decide) (fun hc => ?_) (fun hc => ?_)
  · have h := h.1 hc
    refine ab_iload' hG 55 _ _ _ _ 4 _ dX6_childAt_55 rfl ?_
    exact ab_ireturn' hG 57 _ _ _ _ dX6_childAt_57 (Or.inl rfl) (by decide) h
  · have h := h.2 hc
    refine ab_aload_n' hG 13 _ _ _ _ 0 _ dX6_childAt_13 rfl ?_
    refine ab_iload_n' hG 14 _ _ _ _ 1 _ dX6_childAt_14 rfl ?_
    refine ab_iload' hG 15 _ _ _ _ 5 _ dX6_childAt_15 rfl ?_
    refine ab_iload_n' hG 17 _ _ _ _ 2 _ dX6_childAt_17 rfl ?_
    exact ab_invv' hG 18 _ [_, _, _] _ _ 0 85 _ 3 1 0 _ (21, _) dX6_childAt_18 rfl rfl rfl rfl (Nat.le_of_ble_eq_true rfl) (Nat.le_of_ble_eq_true rfl) h
theorem bl_X6_childAt_21 {Q : ab_Po} {G : ab_Gt} (hG : ab_Cl M_X6_childAt Q G) (x1 : Int32) (x2 : Int32) (x3 : Int32) (x4 : Int32) (x5 : Int32) (xs0 : Int32) (S : ab_S) (h : (xs0 = 0 → G 6 [some (.inr (21, 0)), some (.inl x1), some (.inl x2), some (.inl x3), some (.inl x4), some (.inl (x5 + 1))] [] S 0) ∧ (¬ xs0 = 0 → vp_in (((24 : Int32) * x1) + x5) 336 ∧ ((S 25 0 (((24 : Int32) * x1) + x5).toNatClampNeg) = x3 → G 6 [some (.inr (21, 0)), some (.inl x1), some (.inl x2), some (.inl x3), some (.inl x5), some (.inl (x5 + 1))] [] S 0) ∧ (¬ (S 25 0 (((24 : Int32) * x1) + x5).toNatClampNeg) = x3 → G 6 [some (.inr (21, 0)), some (.inl x1), some (.inl x2), some (.inl x3), some (.inl x4), some (.inl (x5 + 1))] [] S 0))) : G 21 [some (.inr (21, 0)), some (.inl x1), some (.inl x2), some (.inl x3), some (.inl x4), some (.inl x5)] [(.inl xs0)] S 0 := by
  refine ab_if_eq' hG 21 _ _ _ _ (24) 45 _ dX6_childAt_21 (by decide) (fun hc => ?_) (fun hc => ?_)
  · have h := h.1 hc
    refine ab_iload' hG 45 _ _ _ _ 4 _ dX6_childAt_45 rfl ?_
    refine ab_istore' hG 47 _ _ _ _ 4 _ dX6_childAt_47 (Nat.le_of_ble_eq_true rfl) ?_
    refine ab_iinc' hG 49 _ _ _ _ 5 1 _ _ dX6_childAt_49 rfl rfl ?_
    refine ab_goto' hG 52 _ _ _ _ (-46) 6 dX6_childAt_52 (by decide) ?_
    exact h
  · have h := h.2 hc
    refine ab_aload_n' hG 24 _ _ _ _ 0 _ dX6_childAt_24 rfl ?_
    refine ab_gR hG 25 _ _ _ _ 20 21 4 0 (25, 0) dX6_childAt_25 (List.Mem.head _) rfl ?_
    refine ab_bipush' hG 28 _ _ _ _ 24 24 dX6_childAt_28 (by decide) ?_
    refine ab_iload_n' hG 30 _ _ _ _ 1 _ dX6_childAt_30 rfl ?_
    refine ab_imul' hG 31 _ _ _ _ _ _ dX6_childAt_31 ?_
    refine ab_iload' hG 32 _ _ _ _ 5 _ dX6_childAt_32 rfl ?_
    refine ab_iadd' hG 34 _ _ _ _ _ _ dX6_childAt_34 ?_
    refine ab_iaload' hG 35 _ _ _ _ 25 0 336 _ dX6_childAt_35 rfl h.1 ?_
    have h := h.2
    refine ab_iload_n' hG 36 _ _ _ _ 3 _ dX6_childAt_36 rfl ?_
    refine ab_icmp_ne' hG 37 _ _ _ _ (8) 45 _ _ dX6_childAt_37 (by decide) (fun hc => ?_) (fun hc => ?_)
    · have h := h.2 hc
      refine ab_iload' hG 45 _ _ _ _ 4 _ dX6_childAt_45 rfl ?_
      refine ab_istore' hG 47 _ _ _ _ 4 _ dX6_childAt_47 (Nat.le_of_ble_eq_true rfl) ?_
      refine ab_iinc' hG 49 _ _ _ _ 5 1 _ _ dX6_childAt_49 rfl rfl ?_
      refine ab_goto' hG 52 _ _ _ _ (-46) 6 dX6_childAt_52 (by decide) ?_
      exact h
    · have h := h.1 hc
      refine ab_iload' hG 40 _ _ _ _ 5 _ dX6_childAt_40 rfl ?_
      refine ab_goto' hG 42 _ _ _ _ (5) 47 dX6_childAt_42 (by decide) ?_
      refine ab_istore' hG 47 _ _ _ _ 4 _ dX6_childAt_47 (Nat.le_of_ble_eq_true rfl) ?_
      refine ab_iinc' hG 49 _ _ _ _ 5 1 _ _ dX6_childAt_49 rfl rfl ?_
      refine ab_goto' hG 52 _ _ _ _ (-46) 6 dX6_childAt_52 (by decide) ?_
      exact h
theorem bl_X6_isAt_0 {Q : ab_Po} {G : ab_Gt} (hG : ab_Cl M_X6_isAt Q G) (x1 : Int32) (x2 : Int32) (x3 : Int32) (S : ab_S) (h : G 3 [some (.inr (21, 0)), some (.inl x1), some (.inl x2), some (.inl x3), some (.inl x2)] [] S 0) : G 0 [some (.inr (21, 0)), some (.inl x1), some (.inl x2), some (.inl x3), none] [] S 0 := by
  refine ab_iload_n' hG 0 _ _ _ _ 2 _ dX6_isAt_0 rfl ?_
  refine ab_istore' hG 1 _ _ _ _ 4 _ dX6_isAt_1 (Nat.le_of_ble_eq_true rfl) ?_
  exact h
theorem bl_X6_isAt_3 {Q : ab_Po} {G : ab_Gt} (hG : ab_Cl M_X6_isAt Q G) (x1 : Int32) (x2 : Int32) (x3 : Int32) (x4 : Int32) (S : ab_S) (h : (x4 < 0 → (x4 = x3 → Q (.inl (some (1 : Int32))) S) ∧ (¬ x4 = x3 → Q (.inl (some (0 : Int32))) S)) ∧ (¬ x4 < 0 → (x4 = x3 → (x4 = x3 → Q (.inl (some (1 : Int32))) S) ∧ (¬ x4 = x3 → Q (.inl (some (0 : Int32))) S)) ∧ (¬ x4 = x3 → vp_in (((24 : Int32) * x1) + x4) 336 ∧ G 3 [some (.inr (21, 0)), some (.inl x1), some (.inl x2), some (.inl x3), some (.inl (S 24 0 (((24 : Int32) * x1) + x4).toNatClampNeg))] [] S 0))) : G 3 [some (.inr (21, 0)), some (.inl x1), some (.inl x2), some (.inl x3), some (.inl x4)] [] S 0 := by
  refine ab_iload' hG 3 _ _ _ _ 4 _ dX6_isAt_3 rfl ?_
  refine ab_if_lt' hG 5 _ _ _ _ (26) 31 _ dX6_isAt_5 (by decide) (fun hc => ?_) (fun hc => ?_)
  · have h := h.1 hc
    refine ab_iload' hG 31 _ _ _ _ 4 _ dX6_isAt_31 rfl ?_
    refine ab_iload_n' hG 33 _ _ _ _ 3 _ dX6_isAt_33 rfl ?_
    refine ab_icmp_ne' hG 34 _ _ _ _ (7) 41 _ _ dX6_isAt_34 (by decide) (fun hc => ?_) (fun hc => ?_)
    · have h := h.2 hc
      refine ab_iconst' hG 41 _ _ _ _ 0 0 dX6_isAt_41 (by decide) ?_
      exact ab_ireturn' hG 42 _ _ _ _ dX6_isAt_42 (Or.inr ⟨rfl, Or.inl rfl⟩) (by decide) h
    · have h := h.1 hc
      refine ab_iconst' hG 37 _ _ _ _ 1 1 dX6_isAt_37 (by decide) ?_
      refine ab_goto' hG 38 _ _ _ _ (4) 42 dX6_isAt_38 (by decide) ?_
      exact ab_ireturn' hG 42 _ _ _ _ dX6_isAt_42 (Or.inr ⟨rfl, Or.inr rfl⟩) (by decide) h
  · have h := h.2 hc
    refine ab_iload' hG 8 _ _ _ _ 4 _ dX6_isAt_8 rfl ?_
    refine ab_iload_n' hG 10 _ _ _ _ 3 _ dX6_isAt_10 rfl ?_
    refine ab_icmp_eq' hG 11 _ _ _ _ (20) 31 _ _ dX6_isAt_11 (by decide) (fun hc => ?_) (fun hc => ?_)
    · have h := h.1 hc
      refine ab_iload' hG 31 _ _ _ _ 4 _ dX6_isAt_31 rfl ?_
      refine ab_iload_n' hG 33 _ _ _ _ 3 _ dX6_isAt_33 rfl ?_
      refine ab_icmp_ne' hG 34 _ _ _ _ (7) 41 _ _ dX6_isAt_34 (by decide) (fun hc => ?_) (fun hc => ?_)
      · have h := h.2 hc
        refine ab_iconst' hG 41 _ _ _ _ 0 0 dX6_isAt_41 (by decide) ?_
        exact ab_ireturn' hG 42 _ _ _ _ dX6_isAt_42 (Or.inr ⟨rfl, Or.inl rfl⟩) (by decide) h
      · have h := h.1 hc
        refine ab_iconst' hG 37 _ _ _ _ 1 1 dX6_isAt_37 (by decide) ?_
        refine ab_goto' hG 38 _ _ _ _ (4) 42 dX6_isAt_38 (by decide) ?_
        exact ab_ireturn' hG 42 _ _ _ _ dX6_isAt_42 (Or.inr ⟨rfl, Or.inr rfl⟩) (by decide) h
    · have h := h.2 hc
      refine ab_aload_n' hG 14 _ _ _ _ 0 _ dX6_isAt_14 rfl ?_
      refine ab_gR hG 15 _ _ _ _ 17 21 3 0 (24, 0) dX6_isAt_15 (List.Mem.head _) rfl ?_
      refine ab_bipush' hG 18 _ _ _ _ 24 24 dX6_isAt_18 (by decide) ?_
      refine ab_iload_n' hG 20 _ _ _ _ 1 _ dX6_isAt_20 rfl ?_
      refine ab_imul' hG 21 _ _ _ _ _ _ dX6_isAt_21 ?_
      refine ab_iload' hG 22 _ _ _ _ 4 _ dX6_isAt_22 rfl ?_
      refine ab_iadd' hG 24 _ _ _ _ _ _ dX6_isAt_24 ?_
      refine ab_iaload' hG 25 _ _ _ _ 24 0 336 _ dX6_isAt_25 rfl h.1 ?_
      have h := h.2
      refine ab_istore' hG 26 _ _ _ _ 4 _ dX6_isAt_26 (Nat.le_of_ble_eq_true rfl) ?_
      refine ab_goto' hG 28 _ _ _ _ (-25) 3 dX6_isAt_28 (by decide) ?_
      exact h
theorem bl_X6_shift_0 {Q : ab_Po} {G : ab_Gt} (hG : ab_Cl M_X6_shift Q G) (x1 : Int32) (x2 : Int32) (x3 : Int32) (x4 : Int32) (S : ab_S) (h : G 3 [some (.inr (21, 0)), some (.inl x1), some (.inl x2), some (.inl x3), some (.inl x4), some (.inl (0 : Int32))] [] S 0) : G 0 [some (.inr (21, 0)), some (.inl x1), some (.inl x2), some (.inl x3), some (.inl x4), none] [] S 0 := by
  refine ab_iconst' hG 0 _ _ _ _ 0 0 dX6_shift_0 (by decide) ?_
  refine ab_istore' hG 1 _ _ _ _ 5 _ dX6_shift_1 (Nat.le_of_ble_eq_true rfl) ?_
  exact h
theorem bl_X6_shift_3 {Q : ab_Po} {G : ab_Gt} (hG : ab_Cl M_X6_shift Q G) (x1 : Int32) (x2 : Int32) (x3 : Int32) (x4 : Int32) (x5 : Int32) (S : ab_S) (h : ((24 : Int32) ≤ x5 → Q (.inl none) S) ∧ (¬ (24 : Int32) ≤ x5 → Sp_X6_isChild [(.inr (21, 0)), (.inl x1), (.inl x5), (.inl x2)] S (ab_back Q G 18 [some (.inr (21, 0)), some (.inl x1), some (.inl x2), some (.inl x3), some (.inl x4), some (.inl x5)] [] 0))) : G 3 [some (.inr (21, 0)), some (.inl x1), some (.inl x2), some (.inl x3), some (.inl x4), some (.inl x5)] [] S 0 := by
  refine ab_iload' hG 3 _ _ _ _ 5 _ dX6_shift_3 rfl ?_
  refine ab_bipush' hG 5 _ _ _ _ 24 24 dX6_shift_5 (by decide) ?_
  refine ab_icmp_ge' hG 7 _ _ _ _ (63) 70 _ _ dX6_shift_7 (by decide) (fun hc => ?_) (fun hc => ?_)
  · have h := h.1 hc
    exact ab_return_' hG 70 _ _ _ dX6_shift_70 rfl (by decide) h
  · have h := h.2 hc
    refine ab_aload_n' hG 10 _ _ _ _ 0 _ dX6_shift_10 rfl ?_
    refine ab_iload_n' hG 11 _ _ _ _ 1 _ dX6_shift_11 rfl ?_
    refine ab_iload' hG 12 _ _ _ _ 5 _ dX6_shift_12 rfl ?_
    refine ab_iload_n' hG 14 _ _ _ _ 2 _ dX6_shift_14 rfl ?_
    exact ab_invv' hG 15 _ [_, _, _] _ _ 0 85 _ 3 1 0 _ (21, _) dX6_shift_15 rfl rfl rfl rfl (Nat.le_of_ble_eq_true rfl) (Nat.le_of_ble_eq_true rfl) h
theorem bl_X6_shift_18 {Q : ab_Po} {G : ab_Gt} (hG : ab_Cl M_X6_shift Q G) (x1 : Int32) (x2 : Int32) (x3 : Int32) (x4 : Int32) (x5 : Int32) (xs0 : Int32) (S : ab_S) (h : (xs0 = 0 → G 3 [some (.inr (21, 0)), some (.inl x1), some (.inl x2), some (.inl x3), some (.inl x4), some (.inl (x5 + 1))] [] S 0) ∧ (¬ xs0 = 0 → vp_in (((24 : Int32) * x1) + x5) 336 ∧ ((S 25 0 (((24 : Int32) * x1) + x5).toNatClampNeg) < x3 → G 3 [some (.inr (21, 0)), some (.inl x1), some (.inl x2), some (.inl x3), some (.inl x4), some (.inl (x5 + 1))] [] S 0) ∧ (¬ (S 25 0 (((24 : Int32) * x1) + x5).toNatClampNeg) < x3 → vp_in (((24 : Int32) * x1) + x5) 336 ∧ vp_in (((24 : Int32) * x1) + x5) 336 ∧ (∀ S1 : ab_S, S1 = ab_su S 25 0 (((24 : Int32) * x1) + x5).toNatClampNeg ((S 25 0 (((24 : Int32) * x1) + x5).toNatClampNeg) + x4) → G 3 [some (.inr (21, 0)), some (.inl x1), some (.inl x2), some (.inl x3), some (.inl x4), some (.inl (x5 + 1))] [] S1 0)))) : G 18 [some (.inr (21, 0)), some (.inl x1), some (.inl x2), some (.inl x3), some (.inl x4), some (.inl x5)] [(.inl xs0)] S 0 := by
  refine ab_if_eq' hG 18 _ _ _ _ (46) 64 _ dX6_shift_18 (by decide) (fun hc => ?_) (fun hc => ?_)
  · have h := h.1 hc
    refine ab_iinc' hG 64 _ _ _ _ 5 1 _ _ dX6_shift_64 rfl rfl ?_
    refine ab_goto' hG 67 _ _ _ _ (-64) 3 dX6_shift_67 (by decide) ?_
    exact h
  · have h := h.2 hc
    refine ab_aload_n' hG 21 _ _ _ _ 0 _ dX6_shift_21 rfl ?_
    refine ab_gR hG 22 _ _ _ _ 20 21 4 0 (25, 0) dX6_shift_22 (List.Mem.head _) rfl ?_
    refine ab_bipush' hG 25 _ _ _ _ 24 24 dX6_shift_25 (by decide) ?_
    refine ab_iload_n' hG 27 _ _ _ _ 1 _ dX6_shift_27 rfl ?_
    refine ab_imul' hG 28 _ _ _ _ _ _ dX6_shift_28 ?_
    refine ab_iload' hG 29 _ _ _ _ 5 _ dX6_shift_29 rfl ?_
    refine ab_iadd' hG 31 _ _ _ _ _ _ dX6_shift_31 ?_
    refine ab_iaload' hG 32 _ _ _ _ 25 0 336 _ dX6_shift_32 rfl h.1 ?_
    have h := h.2
    refine ab_iload_n' hG 33 _ _ _ _ 3 _ dX6_shift_33 rfl ?_
    refine ab_icmp_lt' hG 34 _ _ _ _ (30) 64 _ _ dX6_shift_34 (by decide) (fun hc => ?_) (fun hc => ?_)
    · have h := h.1 hc
      refine ab_iinc' hG 64 _ _ _ _ 5 1 _ _ dX6_shift_64 rfl rfl ?_
      refine ab_goto' hG 67 _ _ _ _ (-64) 3 dX6_shift_67 (by decide) ?_
      exact h
    · have h := h.2 hc
      refine ab_aload_n' hG 37 _ _ _ _ 0 _ dX6_shift_37 rfl ?_
      refine ab_gR hG 38 _ _ _ _ 20 21 4 0 (25, 0) dX6_shift_38 (List.Mem.head _) rfl ?_
      refine ab_bipush' hG 41 _ _ _ _ 24 24 dX6_shift_41 (by decide) ?_
      refine ab_iload_n' hG 43 _ _ _ _ 1 _ dX6_shift_43 rfl ?_
      refine ab_imul' hG 44 _ _ _ _ _ _ dX6_shift_44 ?_
      refine ab_iload' hG 45 _ _ _ _ 5 _ dX6_shift_45 rfl ?_
      refine ab_iadd' hG 47 _ _ _ _ _ _ dX6_shift_47 ?_
      refine ab_aload_n' hG 48 _ _ _ _ 0 _ dX6_shift_48 rfl ?_
      refine ab_gR hG 49 _ _ _ _ 20 21 4 0 (25, 0) dX6_shift_49 (List.Mem.head _) rfl ?_
      refine ab_bipush' hG 52 _ _ _ _ 24 24 dX6_shift_52 (by decide) ?_
      refine ab_iload_n' hG 54 _ _ _ _ 1 _ dX6_shift_54 rfl ?_
      refine ab_imul' hG 55 _ _ _ _ _ _ dX6_shift_55 ?_
      refine ab_iload' hG 56 _ _ _ _ 5 _ dX6_shift_56 rfl ?_
      refine ab_iadd' hG 58 _ _ _ _ _ _ dX6_shift_58 ?_
      refine ab_iaload' hG 59 _ _ _ _ 25 0 336 _ dX6_shift_59 rfl h.1 ?_
      have h := h.2
      refine ab_iload' hG 60 _ _ _ _ 4 _ dX6_shift_60 rfl ?_
      refine ab_iadd' hG 62 _ _ _ _ _ _ dX6_shift_62 ?_
      refine ab_iastore' hG 63 _ _ _ _ 25 0 336 _ _ dX6_shift_63 rfl h.1 ?_
      have h := h.2
      have h := h _ rfl
      refine ab_iinc' hG 64 _ _ _ _ 5 1 _ _ dX6_shift_64 rfl rfl ?_
      refine ab_goto' hG 67 _ _ _ _ (-64) 3 dX6_shift_67 (by decide) ?_
      exact h
theorem bl_X6_hang_0 {Q : ab_Po} {G : ab_Gt} (hG : ab_Cl M_X6_hang Q G) (x1 : Int32) (x2 : Int32) (x3 : Int32) (x4 : Int32) (S : ab_S) (h : Sp_X6_shift [(.inr (21, 0)), (.inl x1), (.inl x3), (.inl x4), (.inl (1 : Int32))] S (ab_back Q G 9 [some (.inr (21, 0)), some (.inl x1), some (.inl x2), some (.inl x3), some (.inl x4)] [] 0)) : G 0 [some (.inr (21, 0)), some (.inl x1), some (.inl x2), some (.inl x3), some (.inl x4)] [] S 0 := by
  refine ab_aload_n' hG 0 _ _ _ _ 0 _ dX6_hang_0 rfl ?_
  refine ab_iload_n' hG 1 _ _ _ _ 1 _ dX6_hang_1 rfl ?_
  refine ab_iload_n' hG 2 _ _ _ _ 3 _ dX6_hang_2 rfl ?_
  refine ab_iload' hG 3 _ _ _ _ 4 _ dX6_hang_3 rfl ?_
  refine ab_iconst' hG 5 _ _ _ _ 1 1 dX6_hang_5 (by decide) ?_
  exact ab_invv' hG 6 _ [_, _, _, _] _ _ 0 89 _ 4 0 0 _ (21, _) dX6_hang_6 rfl rfl rfl rfl (Nat.le_of_ble_eq_true rfl) (Nat.le_of_ble_eq_true rfl) h
theorem bl_X6_hang_9 {Q : ab_Po} {G : ab_Gt} (hG : ab_Cl M_X6_hang Q G) (x1 : Int32) (x2 : Int32) (x3 : Int32) (x4 : Int32) (S : ab_S) (h : vp_in (((24 : Int32) * x1) + x2) 336 ∧ (∀ S1 : ab_S, S1 = ab_su S 22 0 (((24 : Int32) * x1) + x2).toNatClampNeg (vp_nar .boolean (1 : Int32)) → vp_in (((24 : Int32) * x1) + x2) 336 ∧ (∀ S2 : ab_S, S2 = ab_su S1 24 0 (((24 : Int32) * x1) + x2).toNatClampNeg x3 → vp_in (((24 : Int32) * x1) + x2) 336 ∧ (∀ S3 : ab_S, S3 = ab_su S2 25 0 (((24 : Int32) * x1) + x2).toNatClampNeg x4 → Q (.inl none) S3)))) : G 9 [some (.inr (21, 0)), some (.inl x1), some (.inl x2), some (.inl x3), some (.inl x4)] [] S 0 := by
  refine ab_aload_n' hG 9 _ _ _ _ 0 _ dX6_hang_9 rfl ?_
  refine ab_gR hG 10 _ _ _ _ 7 21 1 0 (22, 0) dX6_hang_10 (List.Mem.head _) rfl ?_
  refine ab_bipush' hG 13 _ _ _ _ 24 24 dX6_hang_13 (by decide) ?_
  refine ab_iload_n' hG 15 _ _ _ _ 1 _ dX6_hang_15 rfl ?_
  refine ab_imul' hG 16 _ _ _ _ _ _ dX6_hang_16 ?_
  refine ab_iload_n' hG 17 _ _ _ _ 2 _ dX6_hang_17 rfl ?_
  refine ab_iadd' hG 18 _ _ _ _ _ _ dX6_hang_18 ?_
  refine ab_iconst' hG 19 _ _ _ _ 1 1 dX6_hang_19 (by decide) ?_
  refine ab_bastore' hG 20 _ _ _ _ 22 0 336 _ _ dX6_hang_20 rfl h.1 ?_
  have h := h.2
  have h := h _ rfl
  refine ab_aload_n' hG 21 _ _ _ _ 0 _ dX6_hang_21 rfl ?_
  refine ab_gR hG 22 _ _ _ _ 17 21 3 0 (24, 0) dX6_hang_22 (List.Mem.tail _ (List.Mem.head _)) rfl ?_
  refine ab_bipush' hG 25 _ _ _ _ 24 24 dX6_hang_25 (by decide) ?_
  refine ab_iload_n' hG 27 _ _ _ _ 1 _ dX6_hang_27 rfl ?_
  refine ab_imul' hG 28 _ _ _ _ _ _ dX6_hang_28 ?_
  refine ab_iload_n' hG 29 _ _ _ _ 2 _ dX6_hang_29 rfl ?_
  refine ab_iadd' hG 30 _ _ _ _ _ _ dX6_hang_30 ?_
  refine ab_iload_n' hG 31 _ _ _ _ 3 _ dX6_hang_31 rfl ?_
  refine ab_iastore' hG 32 _ _ _ _ 24 0 336 _ _ dX6_hang_32 rfl h.1 ?_
  have h := h.2
  have h := h _ rfl
  refine ab_aload_n' hG 33 _ _ _ _ 0 _ dX6_hang_33 rfl ?_
  refine ab_gR hG 34 _ _ _ _ 20 21 4 0 (25, 0) dX6_hang_34 (List.Mem.tail _ (List.Mem.tail _ (List.Mem.head _))) rfl ?_
  refine ab_bipush' hG 37 _ _ _ _ 24 24 dX6_hang_37 (by decide) ?_
  refine ab_iload_n' hG 39 _ _ _ _ 1 _ dX6_hang_39 rfl ?_
  refine ab_imul' hG 40 _ _ _ _ _ _ dX6_hang_40 ?_
  refine ab_iload_n' hG 41 _ _ _ _ 2 _ dX6_hang_41 rfl ?_
  refine ab_iadd' hG 42 _ _ _ _ _ _ dX6_hang_42 ?_
  refine ab_iload' hG 43 _ _ _ _ 4 _ dX6_hang_43 rfl ?_
  refine ab_iastore' hG 45 _ _ _ _ 25 0 336 _ _ dX6_hang_45 rfl h.1 ?_
  have h := h.2
  have h := h _ rfl
  exact ab_return_' hG 46 _ _ _ dX6_hang_46 rfl (by decide) h
theorem bl_X6_unhang_0 {Q : ab_Po} {G : ab_Gt} (hG : ab_Cl M_X6_unhang Q G) (x1 : Int32) (x2 : Int32) (S : ab_S) (h : vp_in (((24 : Int32) * x1) + x2) 336 ∧ (∀ S1 : ab_S, S1 = ab_su S 22 0 (((24 : Int32) * x1) + x2).toNatClampNeg (vp_nar .boolean (0 : Int32)) → vp_in (((24 : Int32) * x1) + x2) 336 ∧ vp_in (((24 : Int32) * x1) + x2) 336 ∧ Sp_X6_shift [(.inr (21, 0)), (.inl x1), (.inl (S1 24 0 (((24 : Int32) * x1) + x2).toNatClampNeg)), (.inl (S1 25 0 (((24 : Int32) * x1) + x2).toNatClampNeg)), (.inl (-1 : Int32))] S1 (ab_back Q G 40 [some (.inr (21, 0)), some (.inl x1), some (.inl x2)] [] 0))) : G 0 [some (.inr (21, 0)), some (.inl x1), some (.inl x2)] [] S 0 := by
  refine ab_aload_n' hG 0 _ _ _ _ 0 _ dX6_unhang_0 rfl ?_
  refine ab_gR hG 1 _ _ _ _ 7 21 1 0 (22, 0) dX6_unhang_1 (List.Mem.head _) rfl ?_
  refine ab_bipush' hG 4 _ _ _ _ 24 24 dX6_unhang_4 (by decide) ?_
  refine ab_iload_n' hG 6 _ _ _ _ 1 _ dX6_unhang_6 rfl ?_
  refine ab_imul' hG 7 _ _ _ _ _ _ dX6_unhang_7 ?_
  refine ab_iload_n' hG 8 _ _ _ _ 2 _ dX6_unhang_8 rfl ?_
  refine ab_iadd' hG 9 _ _ _ _ _ _ dX6_unhang_9 ?_
  refine ab_iconst' hG 10 _ _ _ _ 0 0 dX6_unhang_10 (by decide) ?_
  refine ab_bastore' hG 11 _ _ _ _ 22 0 336 _ _ dX6_unhang_11 rfl h.1 ?_
  have h := h.2
  have h := h _ rfl
  refine ab_aload_n' hG 12 _ _ _ _ 0 _ dX6_unhang_12 rfl ?_
  refine ab_iload_n' hG 13 _ _ _ _ 1 _ dX6_unhang_13 rfl ?_
  refine ab_aload_n' hG 14 _ _ _ _ 0 _ dX6_unhang_14 rfl ?_
  refine ab_gR hG 15 _ _ _ _ 17 21 3 0 (24, 0) dX6_unhang_15 (List.Mem.tail _ (List.Mem.head _)) rfl ?_
  refine ab_bipush' hG 18 _ _ _ _ 24 24 dX6_unhang_18 (by decide) ?_
  refine ab_iload_n' hG 20 _ _ _ _ 1 _ dX6_unhang_20 rfl ?_
  refine ab_imul' hG 21 _ _ _ _ _ _ dX6_unhang_21 ?_
  refine ab_iload_n' hG 22 _ _ _ _ 2 _ dX6_unhang_22 rfl ?_
  refine ab_iadd' hG 23 _ _ _ _ _ _ dX6_unhang_23 ?_
  refine ab_iaload' hG 24 _ _ _ _ 24 0 336 _ dX6_unhang_24 rfl h.1 ?_
  have h := h.2
  refine ab_aload_n' hG 25 _ _ _ _ 0 _ dX6_unhang_25 rfl ?_
  refine ab_gR hG 26 _ _ _ _ 20 21 4 0 (25, 0) dX6_unhang_26 (List.Mem.tail _ (List.Mem.tail _ (List.Mem.head _))) rfl ?_
  refine ab_bipush' hG 29 _ _ _ _ 24 24 dX6_unhang_29 (by decide) ?_
  refine ab_iload_n' hG 31 _ _ _ _ 1 _ dX6_unhang_31 rfl ?_
  refine ab_imul' hG 32 _ _ _ _ _ _ dX6_unhang_32 ?_
  refine ab_iload_n' hG 33 _ _ _ _ 2 _ dX6_unhang_33 rfl ?_
  refine ab_iadd' hG 34 _ _ _ _ _ _ dX6_unhang_34 ?_
  refine ab_iaload' hG 35 _ _ _ _ 25 0 336 _ dX6_unhang_35 rfl h.1 ?_
  have h := h.2
  refine ab_iconst' hG 36 _ _ _ _ (-1) (-1) dX6_unhang_36 (by decide) ?_
  exact ab_invv' hG 37 _ [_, _, _, _] _ _ 0 89 _ 4 0 0 _ (21, _) dX6_unhang_37 rfl rfl rfl rfl (Nat.le_of_ble_eq_true rfl) (Nat.le_of_ble_eq_true rfl) h
theorem bl_X6_unhang_40 {Q : ab_Po} {G : ab_Gt} (hG : ab_Cl M_X6_unhang Q G) (x1 : Int32) (x2 : Int32) (S : ab_S) (h : Q (.inl none) S) : G 40 [some (.inr (21, 0)), some (.inl x1), some (.inl x2)] [] S 0 := by
  exact ab_return_' hG 40 _ _ _ dX6_unhang_40 rfl (by decide) h
theorem bl_X6_walk_0 {Q : ab_Po} {G : ab_Gt} (hG : ab_Cl M_X6_walk Q G) (x1 : Int32) (S : ab_S) (h : (∀ S1 : ab_S, S1 = ab_su S 21 0 18 (0 : Int32) → vp_in (0 : Int32) 24 ∧ (∀ S2 : ab_S, S2 = ab_su S1 35 0 (0 : Int32).toNatClampNeg (0 : Int32) → (∀ S3 : ab_S, S3 = ab_su S2 21 0 21 (1 : Int32) → G 17 [some (.inr (21, 0)), some (.inl x1), none, none] [] S3 0)))) : G 0 [some (.inr (21, 0)), some (.inl x1), none, none] [] S 0 := by
  refine ab_aload_n' hG 0 _ _ _ _ 0 _ dX6_walk_0 rfl ?_
  refine ab_iconst' hG 1 _ _ _ _ 0 0 dX6_walk_1 (by decide) ?_
  refine ab_putfield' hG 2 _ _ _ _ 93 21 18 0 _ dX6_walk_2 (List.Mem.head _) ?_
  have h := h _ rfl
  refine ab_aload_n' hG 5 _ _ _ _ 0 _ dX6_walk_5 rfl ?_
  refine ab_gR hG 6 _ _ _ _ 60 21 20 0 (35, 0) dX6_walk_6 (List.Mem.head _) rfl ?_
  refine ab_iconst' hG 9 _ _ _ _ 0 0 dX6_walk_9 (by decide) ?_
  refine ab_iconst' hG 10 _ _ _ _ 0 0 dX6_walk_10 (by decide) ?_
  refine ab_iastore' hG 11 _ _ _ _ 35 0 24 _ _ dX6_walk_11 rfl h.1 ?_
  have h := h.2
  have h := h _ rfl
  refine ab_aload_n' hG 12 _ _ _ _ 0 _ dX6_walk_12 rfl ?_
  refine ab_iconst' hG 13 _ _ _ _ 1 1 dX6_walk_13 (by decide) ?_
  refine ab_putfield' hG 14 _ _ _ _ 96 21 21 0 _ dX6_walk_14 (List.Mem.tail _ (List.Mem.head _)) ?_
  have h := h _ rfl
  exact h
theorem bl_X6_walk_17 {Q : ab_Po} {G : ab_Gt} (hG : ab_Cl M_X6_walk Q G) (x1 : Int32) (S : ab_S) (h : ((S 21 0 21) ≤ 0 → Q (.inl none) S) ∧ (¬ (S 21 0 21) ≤ 0 → (∀ S1 : ab_S, S1 = ab_su S 21 0 21 ((S 21 0 21) - (1 : Int32)) → vp_in (S1 21 0 21) 24 ∧ vp_in (S1 21 0 18) 24 ∧ (∀ S2 : ab_S, S2 = ab_su S1 34 0 (S1 21 0 18).toNatClampNeg (S1 35 0 (S1 21 0 21).toNatClampNeg) → (∀ S3 : ab_S, S3 = ab_su S2 21 0 18 ((S2 21 0 18) + (1 : Int32)) → Sp_X6_children [(.inr (21, 0)), (.inl x1), (.inl (S1 35 0 (S1 21 0 21).toNatClampNeg))] S3 (ab_back Q G 70 [some (.inr (21, 0)), some (.inl x1), some (.inl (S1 35 0 (S1 21 0 21).toNatClampNeg)), none] [] 0)))))) : G 17 [some (.inr (21, 0)), some (.inl x1), none, none] [] S 0 := by
  refine ab_aload_n' hG 17 _ _ _ _ 0 _ dX6_walk_17 rfl ?_
  refine ab_gI hG 18 _ _ _ _ 96 21 21 0 dX6_walk_18 (List.Mem.tail _ (List.Mem.head _)) rfl ?_
  refine ab_if_le' hG 21 _ _ _ _ (91) 112 _ dX6_walk_21 (by decide) (fun hc => ?_) (fun hc => ?_)
  · have h := h.1 hc
    exact ab_return_' hG 112 _ _ _ dX6_walk_112 rfl (by decide) h
  · have h := h.2 hc
    refine ab_aload_n' hG 24 _ _ _ _ 0 _ dX6_walk_24 rfl ?_
    refine ab_dup' hG 25 _ _ _ _ _ dX6_walk_25 ?_
    refine ab_gI hG 26 _ _ _ _ 96 21 21 0 dX6_walk_26 (List.Mem.tail _ (List.Mem.head _)) rfl ?_
    refine ab_iconst' hG 29 _ _ _ _ 1 1 dX6_walk_29 (by decide) ?_
    refine ab_isub' hG 30 _ _ _ _ _ _ dX6_walk_30 ?_
    refine ab_putfield' hG 31 _ _ _ _ 96 21 21 0 _ dX6_walk_31 (List.Mem.tail _ (List.Mem.head _)) ?_
    have h := h _ rfl
    refine ab_aload_n' hG 34 _ _ _ _ 0 _ dX6_walk_34 rfl ?_
    refine ab_gR hG 35 _ _ _ _ 60 21 20 0 (35, 0) dX6_walk_35 (List.Mem.head _) rfl ?_
    refine ab_aload_n' hG 38 _ _ _ _ 0 _ dX6_walk_38 rfl ?_
    refine ab_gI hG 39 _ _ _ _ 96 21 21 0 dX6_walk_39 (List.Mem.tail _ (List.Mem.head _)) rfl ?_
    refine ab_iaload' hG 42 _ _ _ _ 35 0 24 _ dX6_walk_42 rfl h.1 ?_
    have h := h.2
    refine ab_istore_n' hG 43 _ _ _ _ 2 _ dX6_walk_43 (Nat.le_of_ble_eq_true rfl) ?_
    refine ab_aload_n' hG 44 _ _ _ _ 0 _ dX6_walk_44 rfl ?_
    refine ab_gR hG 45 _ _ _ _ 57 21 19 0 (34, 0) dX6_walk_45 (List.Mem.tail _ (List.Mem.tail _ (List.Mem.head _))) rfl ?_
    refine ab_aload_n' hG 48 _ _ _ _ 0 _ dX6_walk_48 rfl ?_
    refine ab_gI hG 49 _ _ _ _ 93 21 18 0 dX6_walk_49 (List.Mem.tail _ (List.Mem.tail _ (List.Mem.tail _ (List.Mem.head _)))) rfl ?_
    refine ab_iload_n' hG 52 _ _ _ _ 2 _ dX6_walk_52 rfl ?_
    refine ab_iastore' hG 53 _ _ _ _ 34 0 24 _ _ dX6_walk_53 rfl h.1 ?_
    have h := h.2
    have h := h _ rfl
    refine ab_aload_n' hG 54 _ _ _ _ 0 _ dX6_walk_54 rfl ?_
    refine ab_dup' hG 55 _ _ _ _ _ dX6_walk_55 ?_
    refine ab_gI hG 56 _ _ _ _ 93 21 18 0 dX6_walk_56 (List.Mem.tail _ (List.Mem.tail _ (List.Mem.tail _ (List.Mem.head _)))) rfl ?_
    refine ab_iconst' hG 59 _ _ _ _ 1 1 dX6_walk_59 (by decide) ?_
    refine ab_iadd' hG 60 _ _ _ _ _ _ dX6_walk_60 ?_
    refine ab_putfield' hG 61 _ _ _ _ 93 21 18 0 _ dX6_walk_61 (List.Mem.head _) ?_
    have h := h _ rfl
    refine ab_aload_n' hG 64 _ _ _ _ 0 _ dX6_walk_64 rfl ?_
    refine ab_iload_n' hG 65 _ _ _ _ 1 _ dX6_walk_65 rfl ?_
    refine ab_iload_n' hG 66 _ _ _ _ 2 _ dX6_walk_66 rfl ?_
    exact ab_invv' hG 67 _ [_, _] _ _ 0 99 _ 2 1 0 _ (21, _) dX6_walk_67 rfl rfl rfl rfl (Nat.le_of_ble_eq_true rfl) (Nat.le_of_ble_eq_true rfl) h
theorem bl_X6_walk_70 {Q : ab_Po} {G : ab_Gt} (hG : ab_Cl M_X6_walk Q G) (x1 : Int32) (x2 : Int32) (xs0 : Int32) (S : ab_S) (h : G 73 [some (.inr (21, 0)), some (.inl x1), some (.inl x2), some (.inl (xs0 - (1 : Int32)))] [] S 0) : G 70 [some (.inr (21, 0)), some (.inl x1), some (.inl x2), none] [(.inl xs0)] S 0 := by
  refine ab_iconst' hG 70 _ _ _ _ 1 1 dX6_walk_70 (by decide) ?_
  refine ab_isub' hG 71 _ _ _ _ _ _ dX6_walk_71 ?_
  refine ab_istore_n' hG 72 _ _ _ _ 3 _ dX6_walk_72 (Nat.le_of_ble_eq_true rfl) ?_
  exact h
theorem bl_X6_walk_73 {Q : ab_Po} {G : ab_Gt} (hG : ab_Cl M_X6_walk Q G) (x1 : Int32) (x2 : Int32) (x3 : Int32) (S : ab_S) (h : (x3 < 0 → G 17 [some (.inr (21, 0)), some (.inl x1), none, none] [] S 0) ∧ (¬ x3 < 0 → Sp_X6_childAt [(.inr (21, 0)), (.inl x1), (.inl x2), (.inl x3)] S (ab_back Q G 92 [some (.inr (21, 0)), some (.inl x1), some (.inl x2), some (.inl x3)] [(.inl (S 21 0 21)), (.inr (35, 0))] 0))) : G 73 [some (.inr (21, 0)), some (.inl x1), some (.inl x2), some (.inl x3)] [] S 0 := by
  refine ab_iload_n' hG 73 _ _ _ _ 3 _ dX6_walk_73 rfl ?_
  refine ab_if_lt' hG 74 _ _ _ _ (35) 109 _ dX6_walk_74 (by decide) (fun hc => ?_) (fun hc => ?_)
  · have h := h.1 hc
    refine ab_goto' hG 109 _ _ _ _ (-92) 17 dX6_walk_109 (by decide) ?_
    refine ab_forget' hG _ _ _ _ _ 2 ?_
    refine ab_forget' hG _ _ _ _ _ 3 ?_
    exact h
  · have h := h.2 hc
    refine ab_aload_n' hG 77 _ _ _ _ 0 _ dX6_walk_77 rfl ?_
    refine ab_gR hG 78 _ _ _ _ 60 21 20 0 (35, 0) dX6_walk_78 (List.Mem.head _) rfl ?_
    refine ab_aload_n' hG 81 _ _ _ _ 0 _ dX6_walk_81 rfl ?_
    refine ab_gI hG 82 _ _ _ _ 96 21 21 0 dX6_walk_82 (List.Mem.tail _ (List.Mem.head _)) rfl ?_
    refine ab_aload_n' hG 85 _ _ _ _ 0 _ dX6_walk_85 rfl ?_
    refine ab_iload_n' hG 86 _ _ _ _ 1 _ dX6_walk_86 rfl ?_
    refine ab_iload_n' hG 87 _ _ _ _ 2 _ dX6_walk_87 rfl ?_
    refine ab_iload_n' hG 88 _ _ _ _ 3 _ dX6_walk_88 rfl ?_
    exact ab_invv' hG 89 _ [_, _, _] _ _ 0 103 _ 3 1 0 _ (21, _) dX6_walk_89 rfl rfl rfl rfl (Nat.le_of_ble_eq_true rfl) (Nat.le_of_ble_eq_true rfl) h
theorem bl_X6_walk_92 {Q : ab_Po} {G : ab_Gt} (hG : ab_Cl M_X6_walk Q G) (x1 : Int32) (x2 : Int32) (x3 : Int32) (xs0 : Int32) (xs1 : Int32) (S : ab_S) (h : vp_in xs1 24 ∧ (∀ S1 : ab_S, S1 = ab_su S 35 0 xs1.toNatClampNeg xs0 → (∀ S2 : ab_S, S2 = ab_su S1 21 0 21 ((S1 21 0 21) + (1 : Int32)) → G 73 [some (.inr (21, 0)), some (.inl x1), some (.inl x2), some (.inl (x3 + (-1)))] [] S2 0))) : G 92 [some (.inr (21, 0)), some (.inl x1), some (.inl x2), some (.inl x3)] [(.inl xs0), (.inl xs1), (.inr (35, 0))] S 0 := by
  refine ab_iastore' hG 92 _ _ _ _ 35 0 24 _ _ dX6_walk_92 rfl h.1 ?_
  have h := h.2
  have h := h _ rfl
  refine ab_aload_n' hG 93 _ _ _ _ 0 _ dX6_walk_93 rfl ?_
  refine ab_dup' hG 94 _ _ _ _ _ dX6_walk_94 ?_
  refine ab_gI hG 95 _ _ _ _ 96 21 21 0 dX6_walk_95 (List.Mem.tail _ (List.Mem.head _)) rfl ?_
  refine ab_iconst' hG 98 _ _ _ _ 1 1 dX6_walk_98 (by decide) ?_
  refine ab_iadd' hG 99 _ _ _ _ _ _ dX6_walk_99 ?_
  refine ab_putfield' hG 100 _ _ _ _ 96 21 21 0 _ dX6_walk_100 (List.Mem.tail _ (List.Mem.head _)) ?_
  have h := h _ rfl
  refine ab_iinc' hG 103 _ _ _ _ 3 (-1) _ _ dX6_walk_103 rfl rfl ?_
  refine ab_goto' hG 106 _ _ _ _ (-33) 73 dX6_walk_106 (by decide) ?_
  exact h
theorem bl_X6_insert_0 {Q : ab_Po} {G : ab_Gt} (hG : ab_Cl M_X6_insert Q G) (x1 : Int32) (x2 : Int32) (x3 : Int32) (S : ab_S) (h : Sp_X6_has [(.inr (21, 0)), (.inl (12 : Int32)), (.inl x1)] S (ab_back Q G 8 [some (.inr (21, 0)), some (.inl x1), some (.inl x2), some (.inl x3)] [(.inr (21, 0))] 0)) : G 0 [some (.inr (21, 0)), some (.inl x1), some (.inl x2), some (.inl x3)] [] S 0 := by
  refine ab_aload_n' hG 0 _ _ _ _ 0 _ dX6_insert_0 rfl ?_
  refine ab_aload_n' hG 1 _ _ _ _ 0 _ dX6_insert_1 rfl ?_
  refine ab_bipush' hG 2 _ _ _ _ 12 12 dX6_insert_2 (by decide) ?_
  refine ab_iload_n' hG 4 _ _ _ _ 1 _ dX6_insert_4 rfl ?_
  exact ab_invv' hG 5 _ [_, _] _ _ 0 107 _ 2 1 0 _ (21, _) dX6_insert_5 rfl rfl rfl rfl (Nat.le_of_ble_eq_true rfl) (Nat.le_of_ble_eq_true rfl) h
theorem bl_X6_insert_8 {Q : ab_Po} {G : ab_Gt} (hG : ab_Cl M_X6_insert Q G) (x1 : Int32) (x2 : Int32) (x3 : Int32) (xs0 : Int32) (S : ab_S) (h : (xs0 = 0 → (∀ S2 : ab_S, S2 = ab_su S 21 0 0 (1 : Int32) → ((S2 21 0 0) ≤ 0 → Sp_X6_hang [(.inr (21, 0)), (.inl (12 : Int32)), (.inl (S2 21 0 5)), (.inl x1), (.inl x2)] S2 (ab_back Q G 85 [some (.inr (21, 0)), some (.inl x1), some (.inl x2), some (.inl x3)] [] 0)) ∧ (¬ (S2 21 0 0) ≤ 0 → Q (.inl (some (0 : Int32))) S2))) ∧ (¬ xs0 = 0 → (x2 < 0 → (∀ S1 : ab_S, S1 = ab_su S 21 0 0 (2 : Int32) → ((S1 21 0 0) ≤ 0 → Sp_X6_hang [(.inr (21, 0)), (.inl (12 : Int32)), (.inl (S1 21 0 5)), (.inl x1), (.inl x2)] S1 (ab_back Q G 85 [some (.inr (21, 0)), some (.inl x1), some (.inl x2), some (.inl x3)] [] 0)) ∧ (¬ (S1 21 0 0) ≤ 0 → Q (.inl (some (0 : Int32))) S1))) ∧ (¬ x2 < 0 → Sp_X6_children [(.inr (21, 0)), (.inl (12 : Int32)), (.inl x1)] S (ab_back Q G 27 [some (.inr (21, 0)), some (.inl x1), some (.inl x2), some (.inl x3)] [(.inl x2), (.inr (21, 0))] 0)))) : G 8 [some (.inr (21, 0)), some (.inl x1), some (.inl x2), some (.inl x3)] [(.inl xs0), (.inr (21, 0))] S 0 := by
  refine ab_if_ne' hG 8 _ _ _ _ (7) 15 _ dX6_insert_8 (by decide) (fun hc => ?_) (fun hc => ?_)
  · have h := h.2 hc
    refine ab_iload_n' hG 15 _ _ _ _ 2 _ dX6_insert_15 rfl ?_
    refine ab_if_lt' hG 16 _ _ _ _ (14) 30 _ dX6_insert_16 (by decide) (fun hc => ?_) (fun hc => ?_)
    · have h := h.1 hc
      refine ab_iconst' hG 30 _ _ _ _ 2 2 dX6_insert_30 (by decide) ?_
      refine ab_goto' hG 31 _ _ _ _ (30) 61 dX6_insert_31 (by decide) ?_
      refine ab_putfield' hG 61 _ _ _ _ 82 21 0 0 _ dX6_insert_61 (List.Mem.head _) ?_
      have h := h _ rfl
      refine ab_aload_n' hG 64 _ _ _ _ 0 _ dX6_insert_64 rfl ?_
      refine ab_gI hG 65 _ _ _ _ 82 21 0 0 dX6_insert_65 (List.Mem.tail _ (List.Mem.head _)) rfl ?_
      refine ab_if_le' hG 68 _ _ _ _ (5) 73 _ dX6_insert_68 (by decide) (fun hc => ?_) (fun hc => ?_)
      · have h := h.1 hc
        refine ab_aload_n' hG 73 _ _ _ _ 0 _ dX6_insert_73 rfl ?_
        refine ab_bipush' hG 74 _ _ _ _ 12 12 dX6_insert_74 (by decide) ?_
        refine ab_aload_n' hG 76 _ _ _ _ 0 _ dX6_insert_76 rfl ?_
        refine ab_gI hG 77 _ _ _ _ 23 21 5 0 dX6_insert_77 (List.Mem.head _) rfl ?_
        refine ab_iload_n' hG 80 _ _ _ _ 1 _ dX6_insert_80 rfl ?_
        refine ab_iload_n' hG 81 _ _ _ _ 2 _ dX6_insert_81 rfl ?_
        exact ab_invv' hG 82 _ [_, _, _, _] _ _ 0 111 _ 4 0 0 _ (21, _) dX6_insert_82 rfl rfl rfl rfl (Nat.le_of_ble_eq_true rfl) (Nat.le_of_ble_eq_true rfl) h
      · have h := h.2 hc
        refine ab_iconst' hG 71 _ _ _ _ 0 0 dX6_insert_71 (by decide) ?_
        exact ab_ireturn' hG 72 _ _ _ _ dX6_insert_72 (Or.inl rfl) (by decide) h
    · have h := h.2 hc
      refine ab_iload_n' hG 19 _ _ _ _ 2 _ dX6_insert_19 rfl ?_
      refine ab_aload_n' hG 20 _ _ _ _ 0 _ dX6_insert_20 rfl ?_
      refine ab_bipush' hG 21 _ _ _ _ 12 12 dX6_insert_21 (by decide) ?_
      refine ab_iload_n' hG 23 _ _ _ _ 1 _ dX6_insert_23 rfl ?_
      exact ab_invv' hG 24 _ [_, _] _ _ 0 99 _ 2 1 0 _ (21, _) dX6_insert_24 rfl rfl rfl rfl (Nat.le_of_ble_eq_true rfl) (Nat.le_of_ble_eq_true rfl) h
  · have h := h.1 hc
    refine ab_iconst' hG 11 _ _ _ _ 1 1 dX6_insert_11 (by decide) ?_
    refine ab_goto' hG 12 _ _ _ _ (49) 61 dX6_insert_12 (by decide) ?_
    refine ab_putfield' hG 61 _ _ _ _ 82 21 0 0 _ dX6_insert_61 (List.Mem.head _) ?_
    have h := h _ rfl
    refine ab_aload_n' hG 64 _ _ _ _ 0 _ dX6_insert_64 rfl ?_
    refine ab_gI hG 65 _ _ _ _ 82 21 0 0 dX6_insert_65 (List.Mem.tail _ (List.Mem.head _)) rfl ?_
    refine ab_if_le' hG 68 _ _ _ _ (5) 73 _ dX6_insert_68 (by decide) (fun hc => ?_) (fun hc => ?_)
    · have h := h.1 hc
      refine ab_aload_n' hG 73 _ _ _ _ 0 _ dX6_insert_73 rfl ?_
      refine ab_bipush' hG 74 _ _ _ _ 12 12 dX6_insert_74 (by decide) ?_
      refine ab_aload_n' hG 76 _ _ _ _ 0 _ dX6_insert_76 rfl ?_
      refine ab_gI hG 77 _ _ _ _ 23 21 5 0 dX6_insert_77 (List.Mem.head _) rfl ?_
      refine ab_iload_n' hG 80 _ _ _ _ 1 _ dX6_insert_80 rfl ?_
      refine ab_iload_n' hG 81 _ _ _ _ 2 _ dX6_insert_81 rfl ?_
      exact ab_invv' hG 82 _ [_, _, _, _] _ _ 0 111 _ 4 0 0 _ (21, _) dX6_insert_82 rfl rfl rfl rfl (Nat.le_of_ble_eq_true rfl) (Nat.le_of_ble_eq_true rfl) h
    · have h := h.2 hc
      refine ab_iconst' hG 71 _ _ _ _ 0 0 dX6_insert_71 (by decide) ?_
      exact ab_ireturn' hG 72 _ _ _ _ dX6_insert_72 (Or.inl rfl) (by decide) h
theorem bl_X6_insert_27 {Q : ab_Po} {G : ab_Gt} (hG : ab_Cl M_X6_insert Q G) (x1 : Int32) (x2 : Int32) (x3 : Int32) (xs0 : Int32) (xs1 : Int32) (S : ab_S) (h : (xs1 ≤ xs0 → (x3 < 0 → (∀ S1 : ab_S, S1 = ab_su S 21 0 0 (3 : Int32) → ((S1 21 0 0) ≤ 0 → Sp_X6_hang [(.inr (21, 0)), (.inl (12 : Int32)), (.inl (S1 21 0 5)), (.inl x1), (.inl x2)] S1 (ab_back Q G 85 [some (.inr (21, 0)), some (.inl x1), some (.inl x2), some (.inl x3)] [] 0)) ∧ (¬ (S1 21 0 0) ≤ 0 → Q (.inl (some (0 : Int32))) S1))) ∧ (¬ x3 < 0 → (x3 ≤ (5 : Int32) → ((S 21 0 5) = (24 : Int32) → (∀ S3 : ab_S, S3 = ab_su S 21 0 0 (4 : Int32) → ((S3 21 0 0) ≤ 0 → Sp_X6_hang [(.inr (21, 0)), (.inl (12 : Int32)), (.inl (S3 21 0 5)), (.inl x1), (.inl x2)] S3 (ab_back Q G 85 [some (.inr (21, 0)), some (.inl x1), some (.inl x2), some (.inl x3)] [] 0)) ∧ (¬ (S3 21 0 0) ≤ 0 → Q (.inl (some (0 : Int32))) S3))) ∧ (¬ (S 21 0 5) = (24 : Int32) → (∀ S2 : ab_S, S2 = ab_su S 21 0 0 (0 : Int32) → ((S2 21 0 0) ≤ 0 → Sp_X6_hang [(.inr (21, 0)), (.inl (12 : Int32)), (.inl (S2 21 0 5)), (.inl x1), (.inl x2)] S2 (ab_back Q G 85 [some (.inr (21, 0)), some (.inl x1), some (.inl x2), some (.inl x3)] [] 0)) ∧ (¬ (S2 21 0 0) ≤ 0 → Q (.inl (some (0 : Int32))) S2)))) ∧ (¬ x3 ≤ (5 : Int32) → (∀ S4 : ab_S, S4 = ab_su S 21 0 0 (3 : Int32) → ((S4 21 0 0) ≤ 0 → Sp_X6_hang [(.inr (21, 0)), (.inl (12 : Int32)), (.inl (S4 21 0 5)), (.inl x1), (.inl x2)] S4 (ab_back Q G 85 [some (.inr (21, 0)), some (.inl x1), some (.inl x2), some (.inl x3)] [] 0)) ∧ (¬ (S4 21 0 0) ≤ 0 → Q (.inl (some (0 : Int32))) S4))))) ∧ (¬ xs1 ≤ xs0 → (∀ S5 : ab_S, S5 = ab_su S 21 0 0 (2 : Int32) → ((S5 21 0 0) ≤ 0 → Sp_X6_hang [(.inr (21, 0)), (.inl (12 : Int32)), (.inl (S5 21 0 5)), (.inl x1), (.inl x2)] S5 (ab_back Q G 85 [some (.inr (21, 0)), some (.inl x1), some (.inl x2), some (.inl x3)] [] 0)) ∧ (¬ (S5 21 0 0) ≤ 0 → Q (.inl (some (0 : Int32))) S5)))) : G 27 [some (.inr (21, 0)), some (.inl x1), some (.inl x2), some (.inl x3)] [(.inl xs0), (.inl xs1), (.inr (21, 0))] S 0 := by
  refine ab_icmp_le' hG 27 _ _ _ _ (7) 34 _ _ dX6_insert_27 (by decide) (fun hc => ?_) (fun hc => ?_)
  · have h := h.1 hc
    refine ab_iload_n' hG 34 _ _ _ _ 3 _ dX6_insert_34 rfl ?_
    refine ab_if_lt' hG 35 _ _ _ _ (8) 43 _ dX6_insert_35 (by decide) (fun hc => ?_) (fun hc => ?_)
    · have h := h.1 hc
      refine ab_iconst' hG 43 _ _ _ _ 3 3 dX6_insert_43 (by decide) ?_
      refine ab_goto' hG 44 _ _ _ _ (17) 61 dX6_insert_44 (by decide) ?_
      refine ab_putfield' hG 61 _ _ _ _ 82 21 0 0 _ dX6_insert_61 (List.Mem.head _) ?_
      have h := h _ rfl
      refine ab_aload_n' hG 64 _ _ _ _ 0 _ dX6_insert_64 rfl ?_
      refine ab_gI hG 65 _ _ _ _ 82 21 0 0 dX6_insert_65 (List.Mem.tail _ (List.Mem.head _)) rfl ?_
      refine ab_if_le' hG 68 _ _ _ _ (5) 73 _ dX6_insert_68 (by decide) (fun hc => ?_) (fun hc => ?_)
      · have h := h.1 hc
        refine ab_aload_n' hG 73 _ _ _ _ 0 _ dX6_insert_73 rfl ?_
        refine ab_bipush' hG 74 _ _ _ _ 12 12 dX6_insert_74 (by decide) ?_
        refine ab_aload_n' hG 76 _ _ _ _ 0 _ dX6_insert_76 rfl ?_
        refine ab_gI hG 77 _ _ _ _ 23 21 5 0 dX6_insert_77 (List.Mem.head _) rfl ?_
        refine ab_iload_n' hG 80 _ _ _ _ 1 _ dX6_insert_80 rfl ?_
        refine ab_iload_n' hG 81 _ _ _ _ 2 _ dX6_insert_81 rfl ?_
        exact ab_invv' hG 82 _ [_, _, _, _] _ _ 0 111 _ 4 0 0 _ (21, _) dX6_insert_82 rfl rfl rfl rfl (Nat.le_of_ble_eq_true rfl) (Nat.le_of_ble_eq_true rfl) h
      · have h := h.2 hc
        refine ab_iconst' hG 71 _ _ _ _ 0 0 dX6_insert_71 (by decide) ?_
        exact ab_ireturn' hG 72 _ _ _ _ dX6_insert_72 (Or.inl rfl) (by decide) h
    · have h := h.2 hc
      refine ab_iload_n' hG 38 _ _ _ _ 3 _ dX6_insert_38 rfl ?_
      refine ab_iconst' hG 39 _ _ _ _ 5 5 dX6_insert_39 (by decide) ?_
      refine ab_icmp_le' hG 40 _ _ _ _ (7) 47 _ _ dX6_insert_40 (by decide) (fun hc => ?_) (fun hc => ?_)
      · have h := h.1 hc
        refine ab_aload_n' hG 47 _ _ _ _ 0 _ dX6_insert_47 rfl ?_
        refine ab_gI hG 48 _ _ _ _ 23 21 5 0 dX6_insert_48 (List.Mem.head _) rfl ?_
        refine ab_bipush' hG 51 _ _ _ _ 24 24 dX6_insert_51 (by decide) ?_
        refine ab_icmp_ne' hG 53 _ _ _ _ (7) 60 _ _ dX6_insert_53 (by decide) (fun hc => ?_) (fun hc => ?_)
        · have h := h.2 hc
          refine ab_iconst' hG 60 _ _ _ _ 0 0 dX6_insert_60 (by decide) ?_
          refine ab_putfield' hG 61 _ _ _ _ 82 21 0 0 _ dX6_insert_61 (List.Mem.head _) ?_
          have h := h _ rfl
          refine ab_aload_n' hG 64 _ _ _ _ 0 _ dX6_insert_64 rfl ?_
          refine ab_gI hG 65 _ _ _ _ 82 21 0 0 dX6_insert_65 (List.Mem.tail _ (List.Mem.head _)) rfl ?_
          refine ab_if_le' hG 68 _ _ _ _ (5) 73 _ dX6_insert_68 (by decide) (fun hc => ?_) (fun hc => ?_)
          · have h := h.1 hc
            refine ab_aload_n' hG 73 _ _ _ _ 0 _ dX6_insert_73 rfl ?_
            refine ab_bipush' hG 74 _ _ _ _ 12 12 dX6_insert_74 (by decide) ?_
            refine ab_aload_n' hG 76 _ _ _ _ 0 _ dX6_insert_76 rfl ?_
            refine ab_gI hG 77 _ _ _ _ 23 21 5 0 dX6_insert_77 (List.Mem.head _) rfl ?_
            refine ab_iload_n' hG 80 _ _ _ _ 1 _ dX6_insert_80 rfl ?_
            refine ab_iload_n' hG 81 _ _ _ _ 2 _ dX6_insert_81 rfl ?_
            exact ab_invv' hG 82 _ [_, _, _, _] _ _ 0 111 _ 4 0 0 _ (21, _) dX6_insert_82 rfl rfl rfl rfl (Nat.le_of_ble_eq_true rfl) (Nat.le_of_ble_eq_true rfl) h
          · have h := h.2 hc
            refine ab_iconst' hG 71 _ _ _ _ 0 0 dX6_insert_71 (by decide) ?_
            exact ab_ireturn' hG 72 _ _ _ _ dX6_insert_72 (Or.inl rfl) (by decide) h
        · have h := h.1 hc
          refine ab_iconst' hG 56 _ _ _ _ 4 4 dX6_insert_56 (by decide) ?_
          refine ab_goto' hG 57 _ _ _ _ (4) 61 dX6_insert_57 (by decide) ?_
          refine ab_putfield' hG 61 _ _ _ _ 82 21 0 0 _ dX6_insert_61 (List.Mem.head _) ?_
          have h := h _ rfl
          refine ab_aload_n' hG 64 _ _ _ _ 0 _ dX6_insert_64 rfl ?_
          refine ab_gI hG 65 _ _ _ _ 82 21 0 0 dX6_insert_65 (List.Mem.tail _ (List.Mem.head _)) rfl ?_
          refine ab_if_le' hG 68 _ _ _ _ (5) 73 _ dX6_insert_68 (by decide) (fun hc => ?_) (fun hc => ?_)
          · have h := h.1 hc
            refine ab_aload_n' hG 73 _ _ _ _ 0 _ dX6_insert_73 rfl ?_
            refine ab_bipush' hG 74 _ _ _ _ 12 12 dX6_insert_74 (by decide) ?_
            refine ab_aload_n' hG 76 _ _ _ _ 0 _ dX6_insert_76 rfl ?_
            refine ab_gI hG 77 _ _ _ _ 23 21 5 0 dX6_insert_77 (List.Mem.head _) rfl ?_
            refine ab_iload_n' hG 80 _ _ _ _ 1 _ dX6_insert_80 rfl ?_
            refine ab_iload_n' hG 81 _ _ _ _ 2 _ dX6_insert_81 rfl ?_
            exact ab_invv' hG 82 _ [_, _, _, _] _ _ 0 111 _ 4 0 0 _ (21, _) dX6_insert_82 rfl rfl rfl rfl (Nat.le_of_ble_eq_true rfl) (Nat.le_of_ble_eq_true rfl) h
          · have h := h.2 hc
            refine ab_iconst' hG 71 _ _ _ _ 0 0 dX6_insert_71 (by decide) ?_
            exact ab_ireturn' hG 72 _ _ _ _ dX6_insert_72 (Or.inl rfl) (by decide) h
      · have h := h.2 hc
        refine ab_iconst' hG 43 _ _ _ _ 3 3 dX6_insert_43 (by decide) ?_
        refine ab_goto' hG 44 _ _ _ _ (17) 61 dX6_insert_44 (by decide) ?_
        refine ab_putfield' hG 61 _ _ _ _ 82 21 0 0 _ dX6_insert_61 (List.Mem.head _) ?_
        have h := h _ rfl
        refine ab_aload_n' hG 64 _ _ _ _ 0 _ dX6_insert_64 rfl ?_
        refine ab_gI hG 65 _ _ _ _ 82 21 0 0 dX6_insert_65 (List.Mem.tail _ (List.Mem.head _)) rfl ?_
        refine ab_if_le' hG 68 _ _ _ _ (5) 73 _ dX6_insert_68 (by decide) (fun hc => ?_) (fun hc => ?_)
        · have h := h.1 hc
          refine ab_aload_n' hG 73 _ _ _ _ 0 _ dX6_insert_73 rfl ?_
          refine ab_bipush' hG 74 _ _ _ _ 12 12 dX6_insert_74 (by decide) ?_
          refine ab_aload_n' hG 76 _ _ _ _ 0 _ dX6_insert_76 rfl ?_
          refine ab_gI hG 77 _ _ _ _ 23 21 5 0 dX6_insert_77 (List.Mem.head _) rfl ?_
          refine ab_iload_n' hG 80 _ _ _ _ 1 _ dX6_insert_80 rfl ?_
          refine ab_iload_n' hG 81 _ _ _ _ 2 _ dX6_insert_81 rfl ?_
          exact ab_invv' hG 82 _ [_, _, _, _] _ _ 0 111 _ 4 0 0 _ (21, _) dX6_insert_82 rfl rfl rfl rfl (Nat.le_of_ble_eq_true rfl) (Nat.le_of_ble_eq_true rfl) h
        · have h := h.2 hc
          refine ab_iconst' hG 71 _ _ _ _ 0 0 dX6_insert_71 (by decide) ?_
          exact ab_ireturn' hG 72 _ _ _ _ dX6_insert_72 (Or.inl rfl) (by decide) h
  · have h := h.2 hc
    refine ab_iconst' hG 30 _ _ _ _ 2 2 dX6_insert_30 (by decide) ?_
    refine ab_goto' hG 31 _ _ _ _ (30) 61 dX6_insert_31 (by decide) ?_
    refine ab_putfield' hG 61 _ _ _ _ 82 21 0 0 _ dX6_insert_61 (List.Mem.head _) ?_
    have h := h _ rfl
    refine ab_aload_n' hG 64 _ _ _ _ 0 _ dX6_insert_64 rfl ?_
    refine ab_gI hG 65 _ _ _ _ 82 21 0 0 dX6_insert_65 (List.Mem.tail _ (List.Mem.head _)) rfl ?_
    refine ab_if_le' hG 68 _ _ _ _ (5) 73 _ dX6_insert_68 (by decide) (fun hc => ?_) (fun hc => ?_)
    · have h := h.1 hc
      refine ab_aload_n' hG 73 _ _ _ _ 0 _ dX6_insert_73 rfl ?_
      refine ab_bipush' hG 74 _ _ _ _ 12 12 dX6_insert_74 (by decide) ?_
      refine ab_aload_n' hG 76 _ _ _ _ 0 _ dX6_insert_76 rfl ?_
      refine ab_gI hG 77 _ _ _ _ 23 21 5 0 dX6_insert_77 (List.Mem.head _) rfl ?_
      refine ab_iload_n' hG 80 _ _ _ _ 1 _ dX6_insert_80 rfl ?_
      refine ab_iload_n' hG 81 _ _ _ _ 2 _ dX6_insert_81 rfl ?_
      exact ab_invv' hG 82 _ [_, _, _, _] _ _ 0 111 _ 4 0 0 _ (21, _) dX6_insert_82 rfl rfl rfl rfl (Nat.le_of_ble_eq_true rfl) (Nat.le_of_ble_eq_true rfl) h
    · have h := h.2 hc
      refine ab_iconst' hG 71 _ _ _ _ 0 0 dX6_insert_71 (by decide) ?_
      exact ab_ireturn' hG 72 _ _ _ _ dX6_insert_72 (Or.inl rfl) (by decide) h
theorem bl_X6_insert_85 {Q : ab_Po} {G : ab_Gt} (hG : ab_Cl M_X6_insert Q G) (x1 : Int32) (x2 : Int32) (x3 : Int32) (S : ab_S) (h : vp_in ((288 : Int32) + (S 21 0 5)) 336 ∧ (∀ S1 : ab_S, S1 = ab_su S 23 0 ((288 : Int32) + (S 21 0 5)).toNatClampNeg x3 → (∀ S2 : ab_S, S2 = ab_su S1 21 0 5 ((S1 21 0 5) + (1 : Int32)) → Q (.inl (some ((S2 21 0 5) - (1 : Int32)))) S2))) : G 85 [some (.inr (21, 0)), some (.inl x1), some (.inl x2), some (.inl x3)] [] S 0 := by
  refine ab_aload_n' hG 85 _ _ _ _ 0 _ dX6_insert_85 rfl ?_
  refine ab_gR hG 86 _ _ _ _ 13 21 2 0 (23, 0) dX6_insert_86 (List.Mem.tail _ (List.Mem.tail _ (List.Mem.head _))) rfl ?_
  refine ab_sipush' hG 89 _ _ _ _ 288 288 dX6_insert_89 (by decide) ?_
  refine ab_aload_n' hG 92 _ _ _ _ 0 _ dX6_insert_92 rfl ?_
  refine ab_gI hG 93 _ _ _ _ 23 21 5 0 dX6_insert_93 (List.Mem.head _) rfl ?_
  refine ab_iadd' hG 96 _ _ _ _ _ _ dX6_insert_96 ?_
  refine ab_iload_n' hG 97 _ _ _ _ 3 _ dX6_insert_97 rfl ?_
  refine ab_iastore' hG 98 _ _ _ _ 23 0 336 _ _ dX6_insert_98 rfl h.1 ?_
  have h := h.2
  have h := h _ rfl
  refine ab_aload_n' hG 99 _ _ _ _ 0 _ dX6_insert_99 rfl ?_
  refine ab_dup' hG 100 _ _ _ _ _ dX6_insert_100 ?_
  refine ab_gI hG 101 _ _ _ _ 23 21 5 0 dX6_insert_101 (List.Mem.head _) rfl ?_
  refine ab_iconst' hG 104 _ _ _ _ 1 1 dX6_insert_104 (by decide) ?_
  refine ab_iadd' hG 105 _ _ _ _ _ _ dX6_insert_105 ?_
  refine ab_putfield' hG 106 _ _ _ _ 23 21 5 0 _ dX6_insert_106 (List.Mem.tail _ (List.Mem.head _)) ?_
  have h := h _ rfl
  refine ab_aload_n' hG 109 _ _ _ _ 0 _ dX6_insert_109 rfl ?_
  refine ab_gI hG 110 _ _ _ _ 23 21 5 0 dX6_insert_110 (List.Mem.head _) rfl ?_
  refine ab_iconst' hG 113 _ _ _ _ 1 1 dX6_insert_113 (by decide) ?_
  refine ab_isub' hG 114 _ _ _ _ _ _ dX6_insert_114 ?_
  exact ab_ireturn' hG 115 _ _ _ _ dX6_insert_115 (Or.inl rfl) (by decide) h
theorem bl_X6_delete_0 {Q : ab_Po} {G : ab_Gt} (hG : ab_Cl M_X6_delete Q G) (x1 : Int32) (S : ab_S) (h : Sp_X6_has [(.inr (21, 0)), (.inl (12 : Int32)), (.inl x1)] S (ab_back Q G 8 [some (.inr (21, 0)), some (.inl x1), none, none, none] [(.inr (21, 0))] 0)) : G 0 [some (.inr (21, 0)), some (.inl x1), none, none, none] [] S 0 := by
  refine ab_aload_n' hG 0 _ _ _ _ 0 _ dX6_delete_0 rfl ?_
  refine ab_aload_n' hG 1 _ _ _ _ 0 _ dX6_delete_1 rfl ?_
  refine ab_bipush' hG 2 _ _ _ _ 12 12 dX6_delete_2 (by decide) ?_
  refine ab_iload_n' hG 4 _ _ _ _ 1 _ dX6_delete_4 rfl ?_
  exact ab_invv' hG 5 _ [_, _] _ _ 0 107 _ 2 1 0 _ (21, _) dX6_delete_5 rfl rfl rfl rfl (Nat.le_of_ble_eq_true rfl) (Nat.le_of_ble_eq_true rfl) h
theorem bl_X6_delete_8 {Q : ab_Po} {G : ab_Gt} (hG : ab_Cl M_X6_delete Q G) (x1 : Int32) (xs0 : Int32) (S : ab_S) (h : (xs0 = 0 → (∀ S3 : ab_S, S3 = ab_su S 21 0 0 (1 : Int32) → ((S3 21 0 0) ≤ 0 → Sp_X6_walk [(.inr (21, 0)), (.inl (12 : Int32))] S3 (ab_back Q G 42 [some (.inr (21, 0)), some (.inl x1), none, none, none] [] 0)) ∧ (¬ (S3 21 0 0) ≤ 0 → Q (.inl (some (0 : Int32))) S3))) ∧ (¬ xs0 = 0 → (x1 = 0 → (∀ S2 : ab_S, S2 = ab_su S 21 0 0 (2 : Int32) → ((S2 21 0 0) ≤ 0 → Sp_X6_walk [(.inr (21, 0)), (.inl (12 : Int32))] S2 (ab_back Q G 42 [some (.inr (21, 0)), some (.inl x1), none, none, none] [] 0)) ∧ (¬ (S2 21 0 0) ≤ 0 → Q (.inl (some (0 : Int32))) S2))) ∧ (¬ x1 = 0 → (∀ S1 : ab_S, S1 = ab_su S 21 0 0 (0 : Int32) → ((S1 21 0 0) ≤ 0 → Sp_X6_walk [(.inr (21, 0)), (.inl (12 : Int32))] S1 (ab_back Q G 42 [some (.inr (21, 0)), some (.inl x1), none, none, none] [] 0)) ∧ (¬ (S1 21 0 0) ≤ 0 → Q (.inl (some (0 : Int32))) S1))))) : G 8 [some (.inr (21, 0)), some (.inl x1), none, none, none] [(.inl xs0), (.inr (21, 0))] S 0 := by
  refine ab_if_ne' hG 8 _ _ _ _ (7) 15 _ dX6_delete_8 (by decide) (fun hc => ?_) (fun hc => ?_)
  · have h := h.2 hc
    refine ab_iload_n' hG 15 _ _ _ _ 1 _ dX6_delete_15 rfl ?_
    refine ab_if_ne' hG 16 _ _ _ _ (7) 23 _ dX6_delete_16 (by decide) (fun hc => ?_) (fun hc => ?_)
    · have h := h.2 hc
      refine ab_iconst' hG 23 _ _ _ _ 0 0 dX6_delete_23 (by decide) ?_
      refine ab_putfield' hG 24 _ _ _ _ 82 21 0 0 _ dX6_delete_24 (List.Mem.head _) ?_
      have h := h _ rfl
      refine ab_aload_n' hG 27 _ _ _ _ 0 _ dX6_delete_27 rfl ?_
      refine ab_gI hG 28 _ _ _ _ 82 21 0 0 dX6_delete_28 (List.Mem.head _) rfl ?_
      refine ab_if_le' hG 31 _ _ _ _ (5) 36 _ dX6_delete_31 (by decide) (fun hc => ?_) (fun hc => ?_)
      · have h := h.1 hc
        refine ab_aload_n' hG 36 _ _ _ _ 0 _ dX6_delete_36 rfl ?_
        refine ab_bipush' hG 37 _ _ _ _ 12 12 dX6_delete_37 (by decide) ?_
        exact ab_invv' hG 39 _ [_] _ _ 0 114 _ 1 0 0 _ (21, _) dX6_delete_39 rfl rfl rfl rfl (Nat.le_of_ble_eq_true rfl) (Nat.le_of_ble_eq_true rfl) h
      · have h := h.2 hc
        refine ab_iconst' hG 34 _ _ _ _ 0 0 dX6_delete_34 (by decide) ?_
        exact ab_ireturn' hG 35 _ _ _ _ dX6_delete_35 (Or.inl rfl) (by decide) h
    · have h := h.1 hc
      refine ab_iconst' hG 19 _ _ _ _ 2 2 dX6_delete_19 (by decide) ?_
      refine ab_goto' hG 20 _ _ _ _ (4) 24 dX6_delete_20 (by decide) ?_
      refine ab_putfield' hG 24 _ _ _ _ 82 21 0 0 _ dX6_delete_24 (List.Mem.head _) ?_
      have h := h _ rfl
      refine ab_aload_n' hG 27 _ _ _ _ 0 _ dX6_delete_27 rfl ?_
      refine ab_gI hG 28 _ _ _ _ 82 21 0 0 dX6_delete_28 (List.Mem.head _) rfl ?_
      refine ab_if_le' hG 31 _ _ _ _ (5) 36 _ dX6_delete_31 (by decide) (fun hc => ?_) (fun hc => ?_)
      · have h := h.1 hc
        refine ab_aload_n' hG 36 _ _ _ _ 0 _ dX6_delete_36 rfl ?_
        refine ab_bipush' hG 37 _ _ _ _ 12 12 dX6_delete_37 (by decide) ?_
        exact ab_invv' hG 39 _ [_] _ _ 0 114 _ 1 0 0 _ (21, _) dX6_delete_39 rfl rfl rfl rfl (Nat.le_of_ble_eq_true rfl) (Nat.le_of_ble_eq_true rfl) h
      · have h := h.2 hc
        refine ab_iconst' hG 34 _ _ _ _ 0 0 dX6_delete_34 (by decide) ?_
        exact ab_ireturn' hG 35 _ _ _ _ dX6_delete_35 (Or.inl rfl) (by decide) h
  · have h := h.1 hc
    refine ab_iconst' hG 11 _ _ _ _ 1 1 dX6_delete_11 (by decide) ?_
    refine ab_goto' hG 12 _ _ _ _ (12) 24 dX6_delete_12 (by decide) ?_
    refine ab_putfield' hG 24 _ _ _ _ 82 21 0 0 _ dX6_delete_24 (List.Mem.head _) ?_
    have h := h _ rfl
    refine ab_aload_n' hG 27 _ _ _ _ 0 _ dX6_delete_27 rfl ?_
    refine ab_gI hG 28 _ _ _ _ 82 21 0 0 dX6_delete_28 (List.Mem.head _) rfl ?_
    refine ab_if_le' hG 31 _ _ _ _ (5) 36 _ dX6_delete_31 (by decide) (fun hc => ?_) (fun hc => ?_)
    · have h := h.1 hc
      refine ab_aload_n' hG 36 _ _ _ _ 0 _ dX6_delete_36 rfl ?_
      refine ab_bipush' hG 37 _ _ _ _ 12 12 dX6_delete_37 (by decide) ?_
      exact ab_invv' hG 39 _ [_] _ _ 0 114 _ 1 0 0 _ (21, _) dX6_delete_39 rfl rfl rfl rfl (Nat.le_of_ble_eq_true rfl) (Nat.le_of_ble_eq_true rfl) h
    · have h := h.2 hc
      refine ab_iconst' hG 34 _ _ _ _ 0 0 dX6_delete_34 (by decide) ?_
      exact ab_ireturn' hG 35 _ _ _ _ dX6_delete_35 (Or.inl rfl) (by decide) h
theorem bl_X6_delete_42 {Q : ab_Po} {G : ab_Gt} (hG : ab_Cl M_X6_delete Q G) (x1 : Int32) (S : ab_S) (h : Sp_X6_unhang [(.inr (21, 0)), (.inl (12 : Int32)), (.inl x1)] S (ab_back Q G 51 [some (.inr (21, 0)), some (.inl x1), some (.inl (0 : Int32)), none, none] [] 0)) : G 42 [some (.inr (21, 0)), some (.inl x1), none, none, none] [] S 0 := by
  refine ab_iconst' hG 42 _ _ _ _ 0 0 dX6_delete_42 (by decide) ?_
  refine ab_istore_n' hG 43 _ _ _ _ 2 _ dX6_delete_43 (Nat.le_of_ble_eq_true rfl) ?_
  refine ab_aload_n' hG 44 _ _ _ _ 0 _ dX6_delete_44 rfl ?_
  refine ab_bipush' hG 45 _ _ _ _ 12 12 dX6_delete_45 (by decide) ?_
  refine ab_iload_n' hG 47 _ _ _ _ 1 _ dX6_delete_47 rfl ?_
  exact ab_invv' hG 48 _ [_, _] _ _ 0 118 _ 2 0 0 _ (21, _) dX6_delete_48 rfl rfl rfl rfl (Nat.le_of_ble_eq_true rfl) (Nat.le_of_ble_eq_true rfl) h
theorem bl_X6_delete_51 {Q : ab_Po} {G : ab_Gt} (hG : ab_Cl M_X6_delete Q G) (x1 : Int32) (x2 : Int32) (S : ab_S) (h : G 58 [some (.inr (21, 0)), some (.inl x1), some (.inl x2), some (.inl ((S 21 0 18) - (1 : Int32))), none] [] S 0) : G 51 [some (.inr (21, 0)), some (.inl x1), some (.inl x2), none, none] [] S 0 := by
  refine ab_aload_n' hG 51 _ _ _ _ 0 _ dX6_delete_51 rfl ?_
  refine ab_gI hG 52 _ _ _ _ 93 21 18 0 dX6_delete_52 (List.Mem.tail _ (List.Mem.head _)) rfl ?_
  refine ab_iconst' hG 55 _ _ _ _ 1 1 dX6_delete_55 (by decide) ?_
  refine ab_isub' hG 56 _ _ _ _ _ _ dX6_delete_56 ?_
  refine ab_istore_n' hG 57 _ _ _ _ 3 _ dX6_delete_57 (Nat.le_of_ble_eq_true rfl) ?_
  exact h
theorem bl_X6_delete_58 {Q : ab_Po} {G : ab_Gt} (hG : ab_Cl M_X6_delete Q G) (x1 : Int32) (x2 : Int32) (x3 : Int32) (S : ab_S) (h : (x3 < 0 → G 93 [some (.inr (21, 0)), some (.inl x1), some (.inl x2), some (.inl (0 : Int32)), none] [] S 0) ∧ (¬ x3 < 0 → vp_in x3 24 ∧ Sp_X6_isAt [(.inr (21, 0)), (.inl (12 : Int32)), (.inl (S 34 0 x3.toNatClampNeg)), (.inl x1)] S (ab_back Q G 79 [some (.inr (21, 0)), some (.inl x1), some (.inl x2), some (.inl x3), some (.inl (S 34 0 x3.toNatClampNeg))] [] 0))) : G 58 [some (.inr (21, 0)), some (.inl x1), some (.inl x2), some (.inl x3), none] [] S 0 := by
  refine ab_iload_n' hG 58 _ _ _ _ 3 _ dX6_delete_58 rfl ?_
  refine ab_if_lt' hG 59 _ _ _ _ (32) 91 _ dX6_delete_59 (by decide) (fun hc => ?_) (fun hc => ?_)
  · have h := h.1 hc
    refine ab_iconst' hG 91 _ _ _ _ 0 0 dX6_delete_91 (by decide) ?_
    refine ab_istore_n' hG 92 _ _ _ _ 3 _ dX6_delete_92 (Nat.le_of_ble_eq_true rfl) ?_
    exact h
  · have h := h.2 hc
    refine ab_aload_n' hG 62 _ _ _ _ 0 _ dX6_delete_62 rfl ?_
    refine ab_gR hG 63 _ _ _ _ 57 21 19 0 (34, 0) dX6_delete_63 (List.Mem.tail _ (List.Mem.tail _ (List.Mem.head _))) rfl ?_
    refine ab_iload_n' hG 66 _ _ _ _ 3 _ dX6_delete_66 rfl ?_
    refine ab_iaload' hG 67 _ _ _ _ 34 0 24 _ dX6_delete_67 rfl h.1 ?_
    have h := h.2
    refine ab_istore' hG 68 _ _ _ _ 4 _ dX6_delete_68 (Nat.le_of_ble_eq_true rfl) ?_
    refine ab_aload_n' hG 70 _ _ _ _ 0 _ dX6_delete_70 rfl ?_
    refine ab_bipush' hG 71 _ _ _ _ 12 12 dX6_delete_71 (by decide) ?_
    refine ab_iload' hG 73 _ _ _ _ 4 _ dX6_delete_73 rfl ?_
    refine ab_iload_n' hG 75 _ _ _ _ 1 _ dX6_delete_75 rfl ?_
    exact ab_invv' hG 76 _ [_, _, _] _ _ 0 121 _ 3 1 0 _ (21, _) dX6_delete_76 rfl rfl rfl rfl (Nat.le_of_ble_eq_true rfl) (Nat.le_of_ble_eq_true rfl) h
theorem bl_X6_delete_79 {Q : ab_Po} {G : ab_Gt} (hG : ab_Cl M_X6_delete Q G) (x1 : Int32) (x2 : Int32) (x3 : Int32) (x4 : Int32) (xs0 : Int32) (S : ab_S) (h : (xs0 = 0 → G 58 [some (.inr (21, 0)), some (.inl x1), some (.inl x2), some (.inl (x3 + (-1))), none] [] S 0) ∧ (¬ xs0 = 0 → G 58 [some (.inr (21, 0)), some (.inl x1), some (.inl (x2 + 1)), some (.inl (x3 + (-1))), none] [] S 0)) : G 79 [some (.inr (21, 0)), some (.inl x1), some (.inl x2), some (.inl x3), some (.inl x4)] [(.inl xs0)] S 0 := by
  refine ab_if_eq' hG 79 _ _ _ _ (6) 85 _ dX6_delete_79 (by decide) (fun hc => ?_) (fun hc => ?_)
  · have h := h.1 hc
    refine ab_iinc' hG 85 _ _ _ _ 3 (-1) _ _ dX6_delete_85 rfl rfl ?_
    refine ab_goto' hG 88 _ _ _ _ (-30) 58 dX6_delete_88 (by decide) ?_
    refine ab_forget' hG _ _ _ _ _ 4 ?_
    exact h
  · have h := h.2 hc
    refine ab_iinc' hG 82 _ _ _ _ 2 1 _ _ dX6_delete_82 rfl rfl ?_
    refine ab_iinc' hG 85 _ _ _ _ 3 (-1) _ _ dX6_delete_85 rfl rfl ?_
    refine ab_goto' hG 88 _ _ _ _ (-30) 58 dX6_delete_88 (by decide) ?_
    refine ab_forget' hG _ _ _ _ _ 4 ?_
    exact h
theorem bl_X6_delete_93 {Q : ab_Po} {G : ab_Gt} (hG : ab_Cl M_X6_delete Q G) (x1 : Int32) (x2 : Int32) (x3 : Int32) (S : ab_S) (h : ((S 21 0 18) ≤ x3 → Q (.inl (some x2)) S) ∧ (¬ (S 21 0 18) ≤ x3 → vp_in x3 24 ∧ vp_in ((288 : Int32) + (S 34 0 x3.toNatClampNeg)) 336 ∧ ((S 22 0 ((288 : Int32) + (S 34 0 x3.toNatClampNeg)).toNatClampNeg) = 0 → vp_in ((288 : Int32) + (S 34 0 x3.toNatClampNeg)) 336 ∧ (∀ S1 : ab_S, S1 = ab_su S 22 0 ((288 : Int32) + (S 34 0 x3.toNatClampNeg)).toNatClampNeg (vp_nar .boolean (0 : Int32)) → G 93 [some (.inr (21, 0)), some (.inl x1), some (.inl x2), some (.inl (x3 + 1)), none] [] S1 0)) ∧ (¬ (S 22 0 ((288 : Int32) + (S 34 0 x3.toNatClampNeg)).toNatClampNeg) = 0 → Sp_X6_isAt [(.inr (21, 0)), (.inl (12 : Int32)), (.inl (S 34 0 x3.toNatClampNeg)), (.inl x1)] S (ab_back Q G 142 [some (.inr (21, 0)), some (.inl x1), some (.inl x2), some (.inl x3), some (.inl (S 34 0 x3.toNatClampNeg))] [(.inl ((288 : Int32) + (S 34 0 x3.toNatClampNeg))), (.inr (22, 0))] 0)))) : G 93 [some (.inr (21, 0)), some (.inl x1), some (.inl x2), some (.inl x3), none] [] S 0 := by
  refine ab_iload_n' hG 93 _ _ _ _ 3 _ dX6_delete_93 rfl ?_
  refine ab_aload_n' hG 94 _ _ _ _ 0 _ dX6_delete_94 rfl ?_
  refine ab_gI hG 95 _ _ _ _ 93 21 18 0 dX6_delete_95 (List.Mem.tail _ (List.Mem.head _)) rfl ?_
  refine ab_icmp_ge' hG 98 _ _ _ _ (59) 157 _ _ dX6_delete_98 (by decide) (fun hc => ?_) (fun hc => ?_)
  · have h := h.1 hc
    refine ab_iload_n' hG 157 _ _ _ _ 2 _ dX6_delete_157 rfl ?_
    exact ab_ireturn' hG 158 _ _ _ _ dX6_delete_158 (Or.inl rfl) (by decide) h
  · have h := h.2 hc
    refine ab_aload_n' hG 101 _ _ _ _ 0 _ dX6_delete_101 rfl ?_
    refine ab_gR hG 102 _ _ _ _ 57 21 19 0 (34, 0) dX6_delete_102 (List.Mem.tail _ (List.Mem.tail _ (List.Mem.head _))) rfl ?_
    refine ab_iload_n' hG 105 _ _ _ _ 3 _ dX6_delete_105 rfl ?_
    refine ab_iaload' hG 106 _ _ _ _ 34 0 24 _ dX6_delete_106 rfl h.1 ?_
    have h := h.2
    refine ab_istore' hG 107 _ _ _ _ 4 _ dX6_delete_107 (Nat.le_of_ble_eq_true rfl) ?_
    refine ab_aload_n' hG 109 _ _ _ _ 0 _ dX6_delete_109 rfl ?_
    refine ab_gR hG 110 _ _ _ _ 7 21 1 0 (22, 0) dX6_delete_110 (List.Mem.tail _ (List.Mem.tail _ (List.Mem.tail _ (List.Mem.head _)))) rfl ?_
    refine ab_sipush' hG 113 _ _ _ _ 288 288 dX6_delete_113 (by decide) ?_
    refine ab_iload' hG 116 _ _ _ _ 4 _ dX6_delete_116 rfl ?_
    refine ab_iadd' hG 118 _ _ _ _ _ _ dX6_delete_118 ?_
    refine ab_aload_n' hG 119 _ _ _ _ 0 _ dX6_delete_119 rfl ?_
    refine ab_gR hG 120 _ _ _ _ 7 21 1 0 (22, 0) dX6_delete_120 (List.Mem.tail _ (List.Mem.tail _ (List.Mem.tail _ (List.Mem.head _)))) rfl ?_
    refine ab_sipush' hG 123 _ _ _ _ 288 288 dX6_delete_123 (by decide) ?_
    refine ab_iload' hG 126 _ _ _ _ 4 _ dX6_delete_126 rfl ?_
    refine ab_iadd' hG 128 _ _ _ _ _ _ dX6_delete_128 ?_
    refine ab_baload' hG 129 _ _ _ _ 22 0 336 _ dX6_delete_129 rfl h.1 ?_
    have h := h.2
    refine ab_if_eq' hG 130 _ _ _ _ (19) 149 _ dX6_delete_130 (by decide) (fun hc => ?_) (fun hc => ?_)
    · have h := h.1 hc
      refine ab_iconst' hG 149 _ _ _ _ 0 0 dX6_delete_149 (by decide) ?_
      refine ab_bastore' hG 150 _ _ _ _ 22 0 336 _ _ dX6_delete_150 rfl h.1 ?_
      have h := h.2
      have h := h _ rfl
      refine ab_iinc' hG 151 _ _ _ _ 3 1 _ _ dX6_delete_151 rfl rfl ?_
      refine ab_goto' hG 154 _ _ _ _ (-61) 93 dX6_delete_154 (by decide) ?_
      refine ab_forget' hG _ _ _ _ _ 4 ?_
      exact h
    · have h := h.2 hc
      refine ab_aload_n' hG 133 _ _ _ _ 0 _ dX6_delete_133 rfl ?_
      refine ab_bipush' hG 134 _ _ _ _ 12 12 dX6_delete_134 (by decide) ?_
      refine ab_iload' hG 136 _ _ _ _ 4 _ dX6_delete_136 rfl ?_
      refine ab_iload_n' hG 138 _ _ _ _ 1 _ dX6_delete_138 rfl ?_
      exact ab_invv' hG 139 _ [_, _, _] _ _ 0 121 _ 3 1 0 _ (21, _) dX6_delete_139 rfl rfl rfl rfl (Nat.le_of_ble_eq_true rfl) (Nat.le_of_ble_eq_true rfl) h
theorem bl_X6_delete_142 {Q : ab_Po} {G : ab_Gt} (hG : ab_Cl M_X6_delete Q G) (x1 : Int32) (x2 : Int32) (x3 : Int32) (x4 : Int32) (xs0 : Int32) (xs1 : Int32) (S : ab_S) (h : (xs0 = 0 → vp_in xs1 336 ∧ (∀ S2 : ab_S, S2 = ab_su S 22 0 xs1.toNatClampNeg (vp_nar .boolean (1 : Int32)) → G 93 [some (.inr (21, 0)), some (.inl x1), some (.inl x2), some (.inl (x3 + 1)), none] [] S2 0)) ∧ (¬ xs0 = 0 → vp_in xs1 336 ∧ (∀ S1 : ab_S, S1 = ab_su S 22 0 xs1.toNatClampNeg (vp_nar .boolean (0 : Int32)) → G 93 [some (.inr (21, 0)), some (.inl x1), some (.inl x2), some (.inl (x3 + 1)), none] [] S1 0))) : G 142 [some (.inr (21, 0)), some (.inl x1), some (.inl x2), some (.inl x3), some (.inl x4)] [(.inl xs0), (.inl xs1), (.inr (22, 0))] S 0 := by
  refine ab_if_ne' hG 142 _ _ _ _ (7) 149 _ dX6_delete_142 (by decide) (fun hc => ?_) (fun hc => ?_)
  · have h := h.2 hc
    refine ab_iconst' hG 149 _ _ _ _ 0 0 dX6_delete_149 (by decide) ?_
    refine ab_bastore' hG 150 _ _ _ _ 22 0 336 _ _ dX6_delete_150 rfl h.1 ?_
    have h := h.2
    have h := h _ rfl
    refine ab_iinc' hG 151 _ _ _ _ 3 1 _ _ dX6_delete_151 rfl rfl ?_
    refine ab_goto' hG 154 _ _ _ _ (-61) 93 dX6_delete_154 (by decide) ?_
    refine ab_forget' hG _ _ _ _ _ 4 ?_
    exact h
  · have h := h.1 hc
    refine ab_iconst' hG 145 _ _ _ _ 1 1 dX6_delete_145 (by decide) ?_
    refine ab_goto' hG 146 _ _ _ _ (4) 150 dX6_delete_146 (by decide) ?_
    refine ab_bastore' hG 150 _ _ _ _ 22 0 336 _ _ dX6_delete_150 rfl h.1 ?_
    have h := h.2
    have h := h _ rfl
    refine ab_iinc' hG 151 _ _ _ _ 3 1 _ _ dX6_delete_151 rfl rfl ?_
    refine ab_goto' hG 154 _ _ _ _ (-61) 93 dX6_delete_154 (by decide) ?_
    refine ab_forget' hG _ _ _ _ _ 4 ?_
    exact h
theorem bl_X6_move_0 {Q : ab_Po} {G : ab_Gt} (hG : ab_Cl M_X6_move Q G) (x1 : Int32) (x2 : Int32) (x3 : Int32) (S : ab_S) (h : Sp_X6_has [(.inr (21, 0)), (.inl (12 : Int32)), (.inl x1)] S (ab_back Q G 8 [some (.inr (21, 0)), some (.inl x1), some (.inl x2), some (.inl x3), none] [(.inr (21, 0))] 0)) : G 0 [some (.inr (21, 0)), some (.inl x1), some (.inl x2), some (.inl x3), none] [] S 0 := by
  refine ab_aload_n' hG 0 _ _ _ _ 0 _ dX6_move_0 rfl ?_
  refine ab_aload_n' hG 1 _ _ _ _ 0 _ dX6_move_1 rfl ?_
  refine ab_bipush' hG 2 _ _ _ _ 12 12 dX6_move_2 (by decide) ?_
  refine ab_iload_n' hG 4 _ _ _ _ 1 _ dX6_move_4 rfl ?_
  exact ab_invv' hG 5 _ [_, _] _ _ 0 107 _ 2 1 0 _ (21, _) dX6_move_5 rfl rfl rfl rfl (Nat.le_of_ble_eq_true rfl) (Nat.le_of_ble_eq_true rfl) h
theorem bl_X6_move_8 {Q : ab_Po} {G : ab_Gt} (hG : ab_Cl M_X6_move Q G) (x1 : Int32) (x2 : Int32) (x3 : Int32) (xs0 : Int32) (S : ab_S) (h : (xs0 = 0 → (∀ S1 : ab_S, S1 = ab_su S 21 0 0 (1 : Int32) → ((S1 21 0 0) ≤ 0 → Sp_X6_children [(.inr (21, 0)), (.inl (12 : Int32)), (.inl x2)] S1 (ab_back Q G 63 [some (.inr (21, 0)), some (.inl x1), some (.inl x2), some (.inl x3), none] [] 0)) ∧ (¬ (S1 21 0 0) ≤ 0 → Q (.inl none) S1))) ∧ (¬ xs0 = 0 → Sp_X6_has [(.inr (21, 0)), (.inl (12 : Int32)), (.inl x2)] S (ab_back Q G 18 [some (.inr (21, 0)), some (.inl x1), some (.inl x2), some (.inl x3), none] [(.inr (21, 0))] 0))) : G 8 [some (.inr (21, 0)), some (.inl x1), some (.inl x2), some (.inl x3), none] [(.inl xs0), (.inr (21, 0))] S 0 := by
  refine ab_if_eq' hG 8 _ _ _ _ (13) 21 _ dX6_move_8 (by decide) (fun hc => ?_) (fun hc => ?_)
  · have h := h.1 hc
    refine ab_iconst' hG 21 _ _ _ _ 1 1 dX6_move_21 (by decide) ?_
    refine ab_goto' hG 22 _ _ _ _ (23) 45 dX6_move_22 (by decide) ?_
    refine ab_putfield' hG 45 _ _ _ _ 82 21 0 0 _ dX6_move_45 (List.Mem.head _) ?_
    have h := h _ rfl
    refine ab_aload_n' hG 48 _ _ _ _ 0 _ dX6_move_48 rfl ?_
    refine ab_gI hG 49 _ _ _ _ 82 21 0 0 dX6_move_49 (List.Mem.head _) rfl ?_
    refine ab_if_le' hG 52 _ _ _ _ (4) 56 _ dX6_move_52 (by decide) (fun hc => ?_) (fun hc => ?_)
    · have h := h.1 hc
      refine ab_aload_n' hG 56 _ _ _ _ 0 _ dX6_move_56 rfl ?_
      refine ab_bipush' hG 57 _ _ _ _ 12 12 dX6_move_57 (by decide) ?_
      refine ab_iload_n' hG 59 _ _ _ _ 2 _ dX6_move_59 rfl ?_
      exact ab_invv' hG 60 _ [_, _] _ _ 0 99 _ 2 1 0 _ (21, _) dX6_move_60 rfl rfl rfl rfl (Nat.le_of_ble_eq_true rfl) (Nat.le_of_ble_eq_true rfl) h
    · have h := h.2 hc
      exact ab_return_' hG 55 _ _ _ dX6_move_55 rfl (by decide) h
  · have h := h.2 hc
    refine ab_aload_n' hG 11 _ _ _ _ 0 _ dX6_move_11 rfl ?_
    refine ab_bipush' hG 12 _ _ _ _ 12 12 dX6_move_12 (by decide) ?_
    refine ab_iload_n' hG 14 _ _ _ _ 2 _ dX6_move_14 rfl ?_
    exact ab_invv' hG 15 _ [_, _] _ _ 0 107 _ 2 1 0 _ (21, _) dX6_move_15 rfl rfl rfl rfl (Nat.le_of_ble_eq_true rfl) (Nat.le_of_ble_eq_true rfl) h
theorem bl_X6_move_18 {Q : ab_Po} {G : ab_Gt} (hG : ab_Cl M_X6_move Q G) (x1 : Int32) (x2 : Int32) (x3 : Int32) (xs0 : Int32) (S : ab_S) (h : (xs0 = 0 → (∀ S2 : ab_S, S2 = ab_su S 21 0 0 (1 : Int32) → ((S2 21 0 0) ≤ 0 → Sp_X6_children [(.inr (21, 0)), (.inl (12 : Int32)), (.inl x2)] S2 (ab_back Q G 63 [some (.inr (21, 0)), some (.inl x1), some (.inl x2), some (.inl x3), none] [] 0)) ∧ (¬ (S2 21 0 0) ≤ 0 → Q (.inl none) S2))) ∧ (¬ xs0 = 0 → (x1 = 0 → (∀ S1 : ab_S, S1 = ab_su S 21 0 0 (2 : Int32) → ((S1 21 0 0) ≤ 0 → Sp_X6_children [(.inr (21, 0)), (.inl (12 : Int32)), (.inl x2)] S1 (ab_back Q G 63 [some (.inr (21, 0)), some (.inl x1), some (.inl x2), some (.inl x3), none] [] 0)) ∧ (¬ (S1 21 0 0) ≤ 0 → Q (.inl none) S1))) ∧ (¬ x1 = 0 → Sp_X6_isAt [(.inr (21, 0)), (.inl (12 : Int32)), (.inl x2), (.inl x1)] S (ab_back Q G 37 [some (.inr (21, 0)), some (.inl x1), some (.inl x2), some (.inl x3), none] [(.inr (21, 0))] 0)))) : G 18 [some (.inr (21, 0)), some (.inl x1), some (.inl x2), some (.inl x3), none] [(.inl xs0), (.inr (21, 0))] S 0 := by
  refine ab_if_ne' hG 18 _ _ _ _ (7) 25 _ dX6_move_18 (by decide) (fun hc => ?_) (fun hc => ?_)
  · have h := h.2 hc
    refine ab_iload_n' hG 25 _ _ _ _ 1 _ dX6_move_25 rfl ?_
    refine ab_if_eq' hG 26 _ _ _ _ (14) 40 _ dX6_move_26 (by decide) (fun hc => ?_) (fun hc => ?_)
    · have h := h.1 hc
      refine ab_iconst' hG 40 _ _ _ _ 2 2 dX6_move_40 (by decide) ?_
      refine ab_goto' hG 41 _ _ _ _ (4) 45 dX6_move_41 (by decide) ?_
      refine ab_putfield' hG 45 _ _ _ _ 82 21 0 0 _ dX6_move_45 (List.Mem.head _) ?_
      have h := h _ rfl
      refine ab_aload_n' hG 48 _ _ _ _ 0 _ dX6_move_48 rfl ?_
      refine ab_gI hG 49 _ _ _ _ 82 21 0 0 dX6_move_49 (List.Mem.head _) rfl ?_
      refine ab_if_le' hG 52 _ _ _ _ (4) 56 _ dX6_move_52 (by decide) (fun hc => ?_) (fun hc => ?_)
      · have h := h.1 hc
        refine ab_aload_n' hG 56 _ _ _ _ 0 _ dX6_move_56 rfl ?_
        refine ab_bipush' hG 57 _ _ _ _ 12 12 dX6_move_57 (by decide) ?_
        refine ab_iload_n' hG 59 _ _ _ _ 2 _ dX6_move_59 rfl ?_
        exact ab_invv' hG 60 _ [_, _] _ _ 0 99 _ 2 1 0 _ (21, _) dX6_move_60 rfl rfl rfl rfl (Nat.le_of_ble_eq_true rfl) (Nat.le_of_ble_eq_true rfl) h
      · have h := h.2 hc
        exact ab_return_' hG 55 _ _ _ dX6_move_55 rfl (by decide) h
    · have h := h.2 hc
      refine ab_aload_n' hG 29 _ _ _ _ 0 _ dX6_move_29 rfl ?_
      refine ab_bipush' hG 30 _ _ _ _ 12 12 dX6_move_30 (by decide) ?_
      refine ab_iload_n' hG 32 _ _ _ _ 2 _ dX6_move_32 rfl ?_
      refine ab_iload_n' hG 33 _ _ _ _ 1 _ dX6_move_33 rfl ?_
      exact ab_invv' hG 34 _ [_, _, _] _ _ 0 121 _ 3 1 0 _ (21, _) dX6_move_34 rfl rfl rfl rfl (Nat.le_of_ble_eq_true rfl) (Nat.le_of_ble_eq_true rfl) h
  · have h := h.1 hc
    refine ab_iconst' hG 21 _ _ _ _ 1 1 dX6_move_21 (by decide) ?_
    refine ab_goto' hG 22 _ _ _ _ (23) 45 dX6_move_22 (by decide) ?_
    refine ab_putfield' hG 45 _ _ _ _ 82 21 0 0 _ dX6_move_45 (List.Mem.head _) ?_
    have h := h _ rfl
    refine ab_aload_n' hG 48 _ _ _ _ 0 _ dX6_move_48 rfl ?_
    refine ab_gI hG 49 _ _ _ _ 82 21 0 0 dX6_move_49 (List.Mem.head _) rfl ?_
    refine ab_if_le' hG 52 _ _ _ _ (4) 56 _ dX6_move_52 (by decide) (fun hc => ?_) (fun hc => ?_)
    · have h := h.1 hc
      refine ab_aload_n' hG 56 _ _ _ _ 0 _ dX6_move_56 rfl ?_
      refine ab_bipush' hG 57 _ _ _ _ 12 12 dX6_move_57 (by decide) ?_
      refine ab_iload_n' hG 59 _ _ _ _ 2 _ dX6_move_59 rfl ?_
      exact ab_invv' hG 60 _ [_, _] _ _ 0 99 _ 2 1 0 _ (21, _) dX6_move_60 rfl rfl rfl rfl (Nat.le_of_ble_eq_true rfl) (Nat.le_of_ble_eq_true rfl) h
    · have h := h.2 hc
      exact ab_return_' hG 55 _ _ _ dX6_move_55 rfl (by decide) h
theorem bl_X6_move_37 {Q : ab_Po} {G : ab_Gt} (hG : ab_Cl M_X6_move Q G) (x1 : Int32) (x2 : Int32) (x3 : Int32) (xs0 : Int32) (S : ab_S) (h : (xs0 = 0 → (∀ S1 : ab_S, S1 = ab_su S 21 0 0 (0 : Int32) → ((S1 21 0 0) ≤ 0 → Sp_X6_children [(.inr (21, 0)), (.inl (12 : Int32)), (.inl x2)] S1 (ab_back Q G 63 [some (.inr (21, 0)), some (.inl x1), some (.inl x2), some (.inl x3), none] [] 0)) ∧ (¬ (S1 21 0 0) ≤ 0 → Q (.inl none) S1))) ∧ (¬ xs0 = 0 → (∀ S2 : ab_S, S2 = ab_su S 21 0 0 (2 : Int32) → ((S2 21 0 0) ≤ 0 → Sp_X6_children [(.inr (21, 0)), (.inl (12 : Int32)), (.inl x2)] S2 (ab_back Q G 63 [some (.inr (21, 0)), some (.inl x1), some (.inl x2), some (.inl x3), none] [] 0)) ∧ (¬ (S2 21 0 0) ≤ 0 → Q (.inl none) S2)))) : G 37 [some (.inr (21, 0)), some (.inl x1), some (.inl x2), some (.inl x3), none] [(.inl xs0), (.inr (21, 0))] S 0 := by
  refine ab_if_eq' hG 37 _ _ _ _ (7) 44 _ dX6_move_37 (by decide) (fun hc => ?_) (fun hc => ?_)
  · have h := h.1 hc
    refine ab_iconst' hG 44 _ _ _ _ 0 0 dX6_move_44 (by decide) ?_
    refine ab_putfield' hG 45 _ _ _ _ 82 21 0 0 _ dX6_move_45 (List.Mem.head _) ?_
    have h := h _ rfl
    refine ab_aload_n' hG 48 _ _ _ _ 0 _ dX6_move_48 rfl ?_
    refine ab_gI hG 49 _ _ _ _ 82 21 0 0 dX6_move_49 (List.Mem.head _) rfl ?_
    refine ab_if_le' hG 52 _ _ _ _ (4) 56 _ dX6_move_52 (by decide) (fun hc => ?_) (fun hc => ?_)
    · have h := h.1 hc
      refine ab_aload_n' hG 56 _ _ _ _ 0 _ dX6_move_56 rfl ?_
      refine ab_bipush' hG 57 _ _ _ _ 12 12 dX6_move_57 (by decide) ?_
      refine ab_iload_n' hG 59 _ _ _ _ 2 _ dX6_move_59 rfl ?_
      exact ab_invv' hG 60 _ [_, _] _ _ 0 99 _ 2 1 0 _ (21, _) dX6_move_60 rfl rfl rfl rfl (Nat.le_of_ble_eq_true rfl) (Nat.le_of_ble_eq_true rfl) h
    · have h := h.2 hc
      exact ab_return_' hG 55 _ _ _ dX6_move_55 rfl (by decide) h
  · have h := h.2 hc
    refine ab_iconst' hG 40 _ _ _ _ 2 2 dX6_move_40 (by decide) ?_
    refine ab_goto' hG 41 _ _ _ _ (4) 45 dX6_move_41 (by decide) ?_
    refine ab_putfield' hG 45 _ _ _ _ 82 21 0 0 _ dX6_move_45 (List.Mem.head _) ?_
    have h := h _ rfl
    refine ab_aload_n' hG 48 _ _ _ _ 0 _ dX6_move_48 rfl ?_
    refine ab_gI hG 49 _ _ _ _ 82 21 0 0 dX6_move_49 (List.Mem.head _) rfl ?_
    refine ab_if_le' hG 52 _ _ _ _ (4) 56 _ dX6_move_52 (by decide) (fun hc => ?_) (fun hc => ?_)
    · have h := h.1 hc
      refine ab_aload_n' hG 56 _ _ _ _ 0 _ dX6_move_56 rfl ?_
      refine ab_bipush' hG 57 _ _ _ _ 12 12 dX6_move_57 (by decide) ?_
      refine ab_iload_n' hG 59 _ _ _ _ 2 _ dX6_move_59 rfl ?_
      exact ab_invv' hG 60 _ [_, _] _ _ 0 99 _ 2 1 0 _ (21, _) dX6_move_60 rfl rfl rfl rfl (Nat.le_of_ble_eq_true rfl) (Nat.le_of_ble_eq_true rfl) h
    · have h := h.2 hc
      exact ab_return_' hG 55 _ _ _ dX6_move_55 rfl (by decide) h
theorem bl_X6_move_63 {Q : ab_Po} {G : ab_Gt} (hG : ab_Cl M_X6_move Q G) (x1 : Int32) (x2 : Int32) (x3 : Int32) (xs0 : Int32) (S : ab_S) (h : vp_in ((288 : Int32) + x1) 336 ∧ ((S 24 0 ((288 : Int32) + x1).toNatClampNeg) = x2 → (x3 < 0 → (∀ S3 : ab_S, S3 = ab_su S 21 0 0 (3 : Int32) → Q (.inl none) S3)) ∧ (¬ x3 < 0 → (x3 ≤ (xs0 - (1 : Int32)) → Sp_X6_unhang [(.inr (21, 0)), (.inl (12 : Int32)), (.inl x1)] S (ab_back Q G 108 [some (.inr (21, 0)), some (.inl x1), some (.inl x2), some (.inl x3), some (.inl (xs0 - (1 : Int32)))] [] 0)) ∧ (¬ x3 ≤ (xs0 - (1 : Int32)) → (∀ S4 : ab_S, S4 = ab_su S 21 0 0 (3 : Int32) → Q (.inl none) S4)))) ∧ (¬ (S 24 0 ((288 : Int32) + x1).toNatClampNeg) = x2 → (x3 < 0 → (∀ S1 : ab_S, S1 = ab_su S 21 0 0 (3 : Int32) → Q (.inl none) S1)) ∧ (¬ x3 < 0 → (x3 ≤ (xs0 - (0 : Int32)) → Sp_X6_unhang [(.inr (21, 0)), (.inl (12 : Int32)), (.inl x1)] S (ab_back Q G 108 [some (.inr (21, 0)), some (.inl x1), some (.inl x2), some (.inl x3), some (.inl (xs0 - (0 : Int32)))] [] 0)) ∧ (¬ x3 ≤ (xs0 - (0 : Int32)) → (∀ S2 : ab_S, S2 = ab_su S 21 0 0 (3 : Int32) → Q (.inl none) S2))))) : G 63 [some (.inr (21, 0)), some (.inl x1), some (.inl x2), some (.inl x3), none] [(.inl xs0)] S 0 := by
  refine ab_aload_n' hG 63 _ _ _ _ 0 _ dX6_move_63 rfl ?_
  refine ab_gR hG 64 _ _ _ _ 17 21 3 0 (24, 0) dX6_move_64 (List.Mem.tail _ (List.Mem.head _)) rfl ?_
  refine ab_sipush' hG 67 _ _ _ _ 288 288 dX6_move_67 (by decide) ?_
  refine ab_iload_n' hG 70 _ _ _ _ 1 _ dX6_move_70 rfl ?_
  refine ab_iadd' hG 71 _ _ _ _ _ _ dX6_move_71 ?_
  refine ab_iaload' hG 72 _ _ _ _ 24 0 336 _ dX6_move_72 rfl h.1 ?_
  have h := h.2
  refine ab_iload_n' hG 73 _ _ _ _ 2 _ dX6_move_73 rfl ?_
  refine ab_icmp_ne' hG 74 _ _ _ _ (7) 81 _ _ dX6_move_74 (by decide) (fun hc => ?_) (fun hc => ?_)
  · have h := h.2 hc
    refine ab_iconst' hG 81 _ _ _ _ 0 0 dX6_move_81 (by decide) ?_
    refine ab_isub' hG 82 _ _ _ _ _ _ dX6_move_82 ?_
    refine ab_istore' hG 83 _ _ _ _ 4 _ dX6_move_83 (Nat.le_of_ble_eq_true rfl) ?_
    refine ab_iload_n' hG 85 _ _ _ _ 3 _ dX6_move_85 rfl ?_
    refine ab_if_lt' hG 86 _ _ _ _ (9) 95 _ dX6_move_86 (by decide) (fun hc => ?_) (fun hc => ?_)
    · have h := h.1 hc
      refine ab_aload_n' hG 95 _ _ _ _ 0 _ dX6_move_95 rfl ?_
      refine ab_iconst' hG 96 _ _ _ _ 3 3 dX6_move_96 (by decide) ?_
      refine ab_putfield' hG 97 _ _ _ _ 82 21 0 0 _ dX6_move_97 (List.Mem.head _) ?_
      have h := h _ rfl
      exact ab_return_' hG 100 _ _ _ dX6_move_100 rfl (by decide) h
    · have h := h.2 hc
      refine ab_iload_n' hG 89 _ _ _ _ 3 _ dX6_move_89 rfl ?_
      refine ab_iload' hG 90 _ _ _ _ 4 _ dX6_move_90 rfl ?_
      refine ab_icmp_le' hG 92 _ _ _ _ (9) 101 _ _ dX6_move_92 (by decide) (fun hc => ?_) (fun hc => ?_)
      · have h := h.1 hc
        refine ab_aload_n' hG 101 _ _ _ _ 0 _ dX6_move_101 rfl ?_
        refine ab_bipush' hG 102 _ _ _ _ 12 12 dX6_move_102 (by decide) ?_
        refine ab_iload_n' hG 104 _ _ _ _ 1 _ dX6_move_104 rfl ?_
        exact ab_invv' hG 105 _ [_, _] _ _ 0 118 _ 2 0 0 _ (21, _) dX6_move_105 rfl rfl rfl rfl (Nat.le_of_ble_eq_true rfl) (Nat.le_of_ble_eq_true rfl) h
      · have h := h.2 hc
        refine ab_aload_n' hG 95 _ _ _ _ 0 _ dX6_move_95 rfl ?_
        refine ab_iconst' hG 96 _ _ _ _ 3 3 dX6_move_96 (by decide) ?_
        refine ab_putfield' hG 97 _ _ _ _ 82 21 0 0 _ dX6_move_97 (List.Mem.head _) ?_
        have h := h _ rfl
        exact ab_return_' hG 100 _ _ _ dX6_move_100 rfl (by decide) h
  · have h := h.1 hc
    refine ab_iconst' hG 77 _ _ _ _ 1 1 dX6_move_77 (by decide) ?_
    refine ab_goto' hG 78 _ _ _ _ (4) 82 dX6_move_78 (by decide) ?_
    refine ab_isub' hG 82 _ _ _ _ _ _ dX6_move_82 ?_
    refine ab_istore' hG 83 _ _ _ _ 4 _ dX6_move_83 (Nat.le_of_ble_eq_true rfl) ?_
    refine ab_iload_n' hG 85 _ _ _ _ 3 _ dX6_move_85 rfl ?_
    refine ab_if_lt' hG 86 _ _ _ _ (9) 95 _ dX6_move_86 (by decide) (fun hc => ?_) (fun hc => ?_)
    · have h := h.1 hc
      refine ab_aload_n' hG 95 _ _ _ _ 0 _ dX6_move_95 rfl ?_
      refine ab_iconst' hG 96 _ _ _ _ 3 3 dX6_move_96 (by decide) ?_
      refine ab_putfield' hG 97 _ _ _ _ 82 21 0 0 _ dX6_move_97 (List.Mem.head _) ?_
      have h := h _ rfl
      exact ab_return_' hG 100 _ _ _ dX6_move_100 rfl (by decide) h
    · have h := h.2 hc
      refine ab_iload_n' hG 89 _ _ _ _ 3 _ dX6_move_89 rfl ?_
      refine ab_iload' hG 90 _ _ _ _ 4 _ dX6_move_90 rfl ?_
      refine ab_icmp_le' hG 92 _ _ _ _ (9) 101 _ _ dX6_move_92 (by decide) (fun hc => ?_) (fun hc => ?_)
      · have h := h.1 hc
        refine ab_aload_n' hG 101 _ _ _ _ 0 _ dX6_move_101 rfl ?_
        refine ab_bipush' hG 102 _ _ _ _ 12 12 dX6_move_102 (by decide) ?_
        refine ab_iload_n' hG 104 _ _ _ _ 1 _ dX6_move_104 rfl ?_
        exact ab_invv' hG 105 _ [_, _] _ _ 0 118 _ 2 0 0 _ (21, _) dX6_move_105 rfl rfl rfl rfl (Nat.le_of_ble_eq_true rfl) (Nat.le_of_ble_eq_true rfl) h
      · have h := h.2 hc
        refine ab_aload_n' hG 95 _ _ _ _ 0 _ dX6_move_95 rfl ?_
        refine ab_iconst' hG 96 _ _ _ _ 3 3 dX6_move_96 (by decide) ?_
        refine ab_putfield' hG 97 _ _ _ _ 82 21 0 0 _ dX6_move_97 (List.Mem.head _) ?_
        have h := h _ rfl
        exact ab_return_' hG 100 _ _ _ dX6_move_100 rfl (by decide) h
theorem bl_X6_move_108 {Q : ab_Po} {G : ab_Gt} (hG : ab_Cl M_X6_move Q G) (x1 : Int32) (x2 : Int32) (x3 : Int32) (x4 : Int32) (S : ab_S) (h : Sp_X6_hang [(.inr (21, 0)), (.inl (12 : Int32)), (.inl x1), (.inl x2), (.inl x3)] S (ab_back Q G 117 [some (.inr (21, 0)), some (.inl x1), some (.inl x2), some (.inl x3), some (.inl x4)] [] 0)) : G 108 [some (.inr (21, 0)), some (.inl x1), some (.inl x2), some (.inl x3), some (.inl x4)] [] S 0 := by
  refine ab_aload_n' hG 108 _ _ _ _ 0 _ dX6_move_108 rfl ?_
  refine ab_bipush' hG 109 _ _ _ _ 12 12 dX6_move_109 (by decide) ?_
  refine ab_iload_n' hG 111 _ _ _ _ 1 _ dX6_move_111 rfl ?_
  refine ab_iload_n' hG 112 _ _ _ _ 2 _ dX6_move_112 rfl ?_
  refine ab_iload_n' hG 113 _ _ _ _ 3 _ dX6_move_113 rfl ?_
  exact ab_invv' hG 114 _ [_, _, _, _] _ _ 0 111 _ 4 0 0 _ (21, _) dX6_move_114 rfl rfl rfl rfl (Nat.le_of_ble_eq_true rfl) (Nat.le_of_ble_eq_true rfl) h
theorem bl_X6_move_117 {Q : ab_Po} {G : ab_Gt} (hG : ab_Cl M_X6_move Q G) (x1 : Int32) (x2 : Int32) (x3 : Int32) (x4 : Int32) (S : ab_S) (h : Q (.inl none) S) : G 117 [some (.inr (21, 0)), some (.inl x1), some (.inl x2), some (.inl x3), some (.inl x4)] [] S 0 := by
  exact ab_return_' hG 117 _ _ _ dX6_move_117 rfl (by decide) h
theorem bl_X6_relabel_0 {Q : ab_Po} {G : ab_Gt} (hG : ab_Cl M_X6_relabel Q G) (x1 : Int32) (x2 : Int32) (S : ab_S) (h : Sp_X6_has [(.inr (21, 0)), (.inl (12 : Int32)), (.inl x1)] S (ab_back Q G 8 [some (.inr (21, 0)), some (.inl x1), some (.inl x2)] [(.inr (21, 0))] 0)) : G 0 [some (.inr (21, 0)), some (.inl x1), some (.inl x2)] [] S 0 := by
  refine ab_aload_n' hG 0 _ _ _ _ 0 _ dX6_relabel_0 rfl ?_
  refine ab_aload_n' hG 1 _ _ _ _ 0 _ dX6_relabel_1 rfl ?_
  refine ab_bipush' hG 2 _ _ _ _ 12 12 dX6_relabel_2 (by decide) ?_
  refine ab_iload_n' hG 4 _ _ _ _ 1 _ dX6_relabel_4 rfl ?_
  exact ab_invv' hG 5 _ [_, _] _ _ 0 107 _ 2 1 0 _ (21, _) dX6_relabel_5 rfl rfl rfl rfl (Nat.le_of_ble_eq_true rfl) (Nat.le_of_ble_eq_true rfl) h
theorem bl_X6_relabel_8 {Q : ab_Po} {G : ab_Gt} (hG : ab_Cl M_X6_relabel Q G) (x1 : Int32) (x2 : Int32) (xs0 : Int32) (S : ab_S) (h : (xs0 = 0 → (∀ S7 : ab_S, S7 = ab_su S 21 0 0 (1 : Int32) → ((S7 21 0 0) = 0 → vp_in ((288 : Int32) + x1) 336 ∧ (∀ S8 : ab_S, S8 = ab_su S7 23 0 ((288 : Int32) + x1).toNatClampNeg x2 → Q (.inl none) S8)) ∧ (¬ (S7 21 0 0) = 0 → Q (.inl none) S7))) ∧ (¬ xs0 = 0 → (x2 < 0 → (∀ S1 : ab_S, S1 = ab_su S 21 0 0 (2 : Int32) → ((S1 21 0 0) = 0 → vp_in ((288 : Int32) + x1) 336 ∧ (∀ S2 : ab_S, S2 = ab_su S1 23 0 ((288 : Int32) + x1).toNatClampNeg x2 → Q (.inl none) S2)) ∧ (¬ (S1 21 0 0) = 0 → Q (.inl none) S1))) ∧ (¬ x2 < 0 → (x2 ≤ (5 : Int32) → (∀ S3 : ab_S, S3 = ab_su S 21 0 0 (0 : Int32) → ((S3 21 0 0) = 0 → vp_in ((288 : Int32) + x1) 336 ∧ (∀ S4 : ab_S, S4 = ab_su S3 23 0 ((288 : Int32) + x1).toNatClampNeg x2 → Q (.inl none) S4)) ∧ (¬ (S3 21 0 0) = 0 → Q (.inl none) S3))) ∧ (¬ x2 ≤ (5 : Int32) → (∀ S5 : ab_S, S5 = ab_su S 21 0 0 (2 : Int32) → ((S5 21 0 0) = 0 → vp_in ((288 : Int32) + x1) 336 ∧ (∀ S6 : ab_S, S6 = ab_su S5 23 0 ((288 : Int32) + x1).toNatClampNeg x2 → Q (.inl none) S6)) ∧ (¬ (S5 21 0 0) = 0 → Q (.inl none) S5)))))) : G 8 [some (.inr (21, 0)), some (.inl x1), some (.inl x2)] [(.inl xs0), (.inr (21, 0))] S 0 := by
  refine ab_if_ne' hG 8 _ _ _ _ (7) 15 _ dX6_relabel_8 (by decide) (fun hc => ?_) (fun hc => ?_)
  · have h := h.2 hc
    refine ab_iload_n' hG 15 _ _ _ _ 2 _ dX6_relabel_15 rfl ?_
    refine ab_if_lt' hG 16 _ _ _ _ (8) 24 _ dX6_relabel_16 (by decide) (fun hc => ?_) (fun hc => ?_)
    · have h := h.1 hc
      refine ab_iconst' hG 24 _ _ _ _ 2 2 dX6_relabel_24 (by decide) ?_
      refine ab_goto' hG 25 _ _ _ _ (4) 29 dX6_relabel_25 (by decide) ?_
      refine ab_putfield' hG 29 _ _ _ _ 82 21 0 0 _ dX6_relabel_29 (List.Mem.head _) ?_
      have h := h _ rfl
      refine ab_aload_n' hG 32 _ _ _ _ 0 _ dX6_relabel_32 rfl ?_
      refine ab_gI hG 33 _ _ _ _ 82 21 0 0 dX6_relabel_33 (List.Mem.head _) rfl ?_
      refine ab_if_ne' hG 36 _ _ _ _ (14) 50 _ dX6_relabel_36 (by decide) (fun hc => ?_) (fun hc => ?_)
      · have h := h.2 hc
        exact ab_return_' hG 50 _ _ _ dX6_relabel_50 rfl (by decide) h
      · have h := h.1 hc
        refine ab_aload_n' hG 39 _ _ _ _ 0 _ dX6_relabel_39 rfl ?_
        refine ab_gR hG 40 _ _ _ _ 13 21 2 0 (23, 0) dX6_relabel_40 (List.Mem.tail _ (List.Mem.head _)) rfl ?_
        refine ab_sipush' hG 43 _ _ _ _ 288 288 dX6_relabel_43 (by decide) ?_
        refine ab_iload_n' hG 46 _ _ _ _ 1 _ dX6_relabel_46 rfl ?_
        refine ab_iadd' hG 47 _ _ _ _ _ _ dX6_relabel_47 ?_
        refine ab_iload_n' hG 48 _ _ _ _ 2 _ dX6_relabel_48 rfl ?_
        refine ab_iastore' hG 49 _ _ _ _ 23 0 336 _ _ dX6_relabel_49 rfl h.1 ?_
        have h := h.2
        have h := h _ rfl
        exact ab_return_' hG 50 _ _ _ dX6_relabel_50 rfl (by decide) h
    · have h := h.2 hc
      refine ab_iload_n' hG 19 _ _ _ _ 2 _ dX6_relabel_19 rfl ?_
      refine ab_iconst' hG 20 _ _ _ _ 5 5 dX6_relabel_20 (by decide) ?_
      refine ab_icmp_le' hG 21 _ _ _ _ (7) 28 _ _ dX6_relabel_21 (by decide) (fun hc => ?_) (fun hc => ?_)
      · have h := h.1 hc
        refine ab_iconst' hG 28 _ _ _ _ 0 0 dX6_relabel_28 (by decide) ?_
        refine ab_putfield' hG 29 _ _ _ _ 82 21 0 0 _ dX6_relabel_29 (List.Mem.head _) ?_
        have h := h _ rfl
        refine ab_aload_n' hG 32 _ _ _ _ 0 _ dX6_relabel_32 rfl ?_
        refine ab_gI hG 33 _ _ _ _ 82 21 0 0 dX6_relabel_33 (List.Mem.head _) rfl ?_
        refine ab_if_ne' hG 36 _ _ _ _ (14) 50 _ dX6_relabel_36 (by decide) (fun hc => ?_) (fun hc => ?_)
        · have h := h.2 hc
          exact ab_return_' hG 50 _ _ _ dX6_relabel_50 rfl (by decide) h
        · have h := h.1 hc
          refine ab_aload_n' hG 39 _ _ _ _ 0 _ dX6_relabel_39 rfl ?_
          refine ab_gR hG 40 _ _ _ _ 13 21 2 0 (23, 0) dX6_relabel_40 (List.Mem.tail _ (List.Mem.head _)) rfl ?_
          refine ab_sipush' hG 43 _ _ _ _ 288 288 dX6_relabel_43 (by decide) ?_
          refine ab_iload_n' hG 46 _ _ _ _ 1 _ dX6_relabel_46 rfl ?_
          refine ab_iadd' hG 47 _ _ _ _ _ _ dX6_relabel_47 ?_
          refine ab_iload_n' hG 48 _ _ _ _ 2 _ dX6_relabel_48 rfl ?_
          refine ab_iastore' hG 49 _ _ _ _ 23 0 336 _ _ dX6_relabel_49 rfl h.1 ?_
          have h := h.2
          have h := h _ rfl
          exact ab_return_' hG 50 _ _ _ dX6_relabel_50 rfl (by decide) h
      · have h := h.2 hc
        refine ab_iconst' hG 24 _ _ _ _ 2 2 dX6_relabel_24 (by decide) ?_
        refine ab_goto' hG 25 _ _ _ _ (4) 29 dX6_relabel_25 (by decide) ?_
        refine ab_putfield' hG 29 _ _ _ _ 82 21 0 0 _ dX6_relabel_29 (List.Mem.head _) ?_
        have h := h _ rfl
        refine ab_aload_n' hG 32 _ _ _ _ 0 _ dX6_relabel_32 rfl ?_
        refine ab_gI hG 33 _ _ _ _ 82 21 0 0 dX6_relabel_33 (List.Mem.head _) rfl ?_
        refine ab_if_ne' hG 36 _ _ _ _ (14) 50 _ dX6_relabel_36 (by decide) (fun hc => ?_) (fun hc => ?_)
        · have h := h.2 hc
          exact ab_return_' hG 50 _ _ _ dX6_relabel_50 rfl (by decide) h
        · have h := h.1 hc
          refine ab_aload_n' hG 39 _ _ _ _ 0 _ dX6_relabel_39 rfl ?_
          refine ab_gR hG 40 _ _ _ _ 13 21 2 0 (23, 0) dX6_relabel_40 (List.Mem.tail _ (List.Mem.head _)) rfl ?_
          refine ab_sipush' hG 43 _ _ _ _ 288 288 dX6_relabel_43 (by decide) ?_
          refine ab_iload_n' hG 46 _ _ _ _ 1 _ dX6_relabel_46 rfl ?_
          refine ab_iadd' hG 47 _ _ _ _ _ _ dX6_relabel_47 ?_
          refine ab_iload_n' hG 48 _ _ _ _ 2 _ dX6_relabel_48 rfl ?_
          refine ab_iastore' hG 49 _ _ _ _ 23 0 336 _ _ dX6_relabel_49 rfl h.1 ?_
          have h := h.2
          have h := h _ rfl
          exact ab_return_' hG 50 _ _ _ dX6_relabel_50 rfl (by decide) h
  · have h := h.1 hc
    refine ab_iconst' hG 11 _ _ _ _ 1 1 dX6_relabel_11 (by decide) ?_
    refine ab_goto' hG 12 _ _ _ _ (17) 29 dX6_relabel_12 (by decide) ?_
    refine ab_putfield' hG 29 _ _ _ _ 82 21 0 0 _ dX6_relabel_29 (List.Mem.head _) ?_
    have h := h _ rfl
    refine ab_aload_n' hG 32 _ _ _ _ 0 _ dX6_relabel_32 rfl ?_
    refine ab_gI hG 33 _ _ _ _ 82 21 0 0 dX6_relabel_33 (List.Mem.head _) rfl ?_
    refine ab_if_ne' hG 36 _ _ _ _ (14) 50 _ dX6_relabel_36 (by decide) (fun hc => ?_) (fun hc => ?_)
    · have h := h.2 hc
      exact ab_return_' hG 50 _ _ _ dX6_relabel_50 rfl (by decide) h
    · have h := h.1 hc
      refine ab_aload_n' hG 39 _ _ _ _ 0 _ dX6_relabel_39 rfl ?_
      refine ab_gR hG 40 _ _ _ _ 13 21 2 0 (23, 0) dX6_relabel_40 (List.Mem.tail _ (List.Mem.head _)) rfl ?_
      refine ab_sipush' hG 43 _ _ _ _ 288 288 dX6_relabel_43 (by decide) ?_
      refine ab_iload_n' hG 46 _ _ _ _ 1 _ dX6_relabel_46 rfl ?_
      refine ab_iadd' hG 47 _ _ _ _ _ _ dX6_relabel_47 ?_
      refine ab_iload_n' hG 48 _ _ _ _ 2 _ dX6_relabel_48 rfl ?_
      refine ab_iastore' hG 49 _ _ _ _ 23 0 336 _ _ dX6_relabel_49 rfl h.1 ?_
      have h := h.2
      have h := h _ rfl
      exact ab_return_' hG 50 _ _ _ dX6_relabel_50 rfl (by decide) h
theorem bl_X6_commit_0 {Q : ab_Po} {G : ab_Gt} (hG : ab_Cl M_X6_commit Q G)  (S : ab_S) (h : ((S 21 0 6) = (12 : Int32) → (∀ S2 : ab_S, S2 = ab_su S 21 0 0 (1 : Int32) → ((S2 21 0 0) ≤ 0 → Sp_X6_copy [(.inr (21, 0)), (.inl (12 : Int32)), (.inl (S2 21 0 6))] S2 (ab_back Q G 37 [some (.inr (21, 0))] [] 0)) ∧ (¬ (S2 21 0 0) ≤ 0 → Q (.inl (some (0 : Int32))) S2))) ∧ (¬ (S 21 0 6) = (12 : Int32) → (∀ S1 : ab_S, S1 = ab_su S 21 0 0 (0 : Int32) → ((S1 21 0 0) ≤ 0 → Sp_X6_copy [(.inr (21, 0)), (.inl (12 : Int32)), (.inl (S1 21 0 6))] S1 (ab_back Q G 37 [some (.inr (21, 0))] [] 0)) ∧ (¬ (S1 21 0 0) ≤ 0 → Q (.inl (some (0 : Int32))) S1)))) : G 0 [some (.inr (21, 0))] [] S 0 := by
  refine ab_aload_n' hG 0 _ _ _ _ 0 _ dX6_commit_0 rfl ?_
  refine ab_aload_n' hG 1 _ _ _ _ 0 _ dX6_commit_1 rfl ?_
  refine ab_gI hG 2 _ _ _ _ 27 21 6 0 dX6_commit_2 (List.Mem.head _) rfl ?_
  refine ab_bipush' hG 5 _ _ _ _ 12 12 dX6_commit_5 (by decide) ?_
  refine ab_icmp_ne' hG 7 _ _ _ _ (7) 14 _ _ dX6_commit_7 (by decide) (fun hc => ?_) (fun hc => ?_)
  · have h := h.2 hc
    refine ab_iconst' hG 14 _ _ _ _ 0 0 dX6_commit_14 (by decide) ?_
    refine ab_putfield' hG 15 _ _ _ _ 82 21 0 0 _ dX6_commit_15 (List.Mem.head _) ?_
    have h := h _ rfl
    refine ab_aload_n' hG 18 _ _ _ _ 0 _ dX6_commit_18 rfl ?_
    refine ab_gI hG 19 _ _ _ _ 82 21 0 0 dX6_commit_19 (List.Mem.tail _ (List.Mem.head _)) rfl ?_
    refine ab_if_le' hG 22 _ _ _ _ (5) 27 _ dX6_commit_22 (by decide) (fun hc => ?_) (fun hc => ?_)
    · have h := h.1 hc
      refine ab_aload_n' hG 27 _ _ _ _ 0 _ dX6_commit_27 rfl ?_
      refine ab_bipush' hG 28 _ _ _ _ 12 12 dX6_commit_28 (by decide) ?_
      refine ab_aload_n' hG 30 _ _ _ _ 0 _ dX6_commit_30 rfl ?_
      refine ab_gI hG 31 _ _ _ _ 27 21 6 0 dX6_commit_31 (List.Mem.head _) rfl ?_
      exact ab_invv' hG 34 _ [_, _] _ _ 0 78 _ 2 0 0 _ (21, _) dX6_commit_34 rfl rfl rfl rfl (Nat.le_of_ble_eq_true rfl) (Nat.le_of_ble_eq_true rfl) h
    · have h := h.2 hc
      refine ab_iconst' hG 25 _ _ _ _ 0 0 dX6_commit_25 (by decide) ?_
      exact ab_ireturn' hG 26 _ _ _ _ dX6_commit_26 (Or.inl rfl) (by decide) h
  · have h := h.1 hc
    refine ab_iconst' hG 10 _ _ _ _ 1 1 dX6_commit_10 (by decide) ?_
    refine ab_goto' hG 11 _ _ _ _ (4) 15 dX6_commit_11 (by decide) ?_
    refine ab_putfield' hG 15 _ _ _ _ 82 21 0 0 _ dX6_commit_15 (List.Mem.head _) ?_
    have h := h _ rfl
    refine ab_aload_n' hG 18 _ _ _ _ 0 _ dX6_commit_18 rfl ?_
    refine ab_gI hG 19 _ _ _ _ 82 21 0 0 dX6_commit_19 (List.Mem.tail _ (List.Mem.head _)) rfl ?_
    refine ab_if_le' hG 22 _ _ _ _ (5) 27 _ dX6_commit_22 (by decide) (fun hc => ?_) (fun hc => ?_)
    · have h := h.1 hc
      refine ab_aload_n' hG 27 _ _ _ _ 0 _ dX6_commit_27 rfl ?_
      refine ab_bipush' hG 28 _ _ _ _ 12 12 dX6_commit_28 (by decide) ?_
      refine ab_aload_n' hG 30 _ _ _ _ 0 _ dX6_commit_30 rfl ?_
      refine ab_gI hG 31 _ _ _ _ 27 21 6 0 dX6_commit_31 (List.Mem.head _) rfl ?_
      exact ab_invv' hG 34 _ [_, _] _ _ 0 78 _ 2 0 0 _ (21, _) dX6_commit_34 rfl rfl rfl rfl (Nat.le_of_ble_eq_true rfl) (Nat.le_of_ble_eq_true rfl) h
    · have h := h.2 hc
      refine ab_iconst' hG 25 _ _ _ _ 0 0 dX6_commit_25 (by decide) ?_
      exact ab_ireturn' hG 26 _ _ _ _ dX6_commit_26 (Or.inl rfl) (by decide) h
theorem bl_X6_commit_37 {Q : ab_Po} {G : ab_Gt} (hG : ab_Cl M_X6_commit Q G)  (S : ab_S) (h : vp_in (S 21 0 6) 12 ∧ (∀ S1 : ab_S, S1 = ab_su S 26 0 (S 21 0 6).toNatClampNeg (S 21 0 10) → vp_in (S1 21 0 6) 12 ∧ (∀ S2 : ab_S, S2 = ab_su S1 27 0 (S1 21 0 6).toNatClampNeg (S1 21 0 11) → vp_in (S2 21 0 10) 12 ∧ (0 ≤ (S2 21 0 11) → vp_in (S2 21 0 11) 12 ∧ vp_in (S2 21 0 6) 12 ∧ (∀ S3 : ab_S, S3 = ab_su S2 28 0 (S2 21 0 6).toNatClampNeg ((((1 : Int32) <<< ((S2 21 0 6) &&& 31)) ||| (S2 28 0 (S2 21 0 10).toNatClampNeg)) ||| (S2 28 0 (S2 21 0 11).toNatClampNeg)) → (∀ S4 : ab_S, S4 = ab_su S3 21 0 10 (S3 21 0 6) → (∀ S5 : ab_S, S5 = ab_su S4 21 0 11 (-1 : Int32) → (∀ S6 : ab_S, S6 = ab_su S5 21 0 6 ((S5 21 0 6) + (1 : Int32)) → Q (.inl (some (S6 21 0 10))) S6))))) ∧ (¬ 0 ≤ (S2 21 0 11) → vp_in (S2 21 0 6) 12 ∧ (∀ S7 : ab_S, S7 = ab_su S2 28 0 (S2 21 0 6).toNatClampNeg ((((1 : Int32) <<< ((S2 21 0 6) &&& 31)) ||| (S2 28 0 (S2 21 0 10).toNatClampNeg)) ||| (0 : Int32)) → (∀ S8 : ab_S, S8 = ab_su S7 21 0 10 (S7 21 0 6) → (∀ S9 : ab_S, S9 = ab_su S8 21 0 11 (-1 : Int32) → (∀ S10 : ab_S, S10 = ab_su S9 21 0 6 ((S9 21 0 6) + (1 : Int32)) → Q (.inl (some (S10 21 0 10))) S10)))))))) : G 37 [some (.inr (21, 0))] [] S 0 := by
  refine ab_aload_n' hG 37 _ _ _ _ 0 _ dX6_commit_37 rfl ?_
  refine ab_gR hG 38 _ _ _ _ 30 21 7 0 (26, 0) dX6_commit_38 (List.Mem.tail _ (List.Mem.tail _ (List.Mem.head _))) rfl ?_
  refine ab_aload_n' hG 41 _ _ _ _ 0 _ dX6_commit_41 rfl ?_
  refine ab_gI hG 42 _ _ _ _ 27 21 6 0 dX6_commit_42 (List.Mem.head _) rfl ?_
  refine ab_aload_n' hG 45 _ _ _ _ 0 _ dX6_commit_45 rfl ?_
  refine ab_gI hG 46 _ _ _ _ 124 21 10 0 dX6_commit_46 (List.Mem.tail _ (List.Mem.tail _ (List.Mem.tail _ (List.Mem.head _)))) rfl ?_
  refine ab_iastore' hG 49 _ _ _ _ 26 0 12 _ _ dX6_commit_49 rfl h.1 ?_
  have h := h.2
  have h := h _ rfl
  refine ab_aload_n' hG 50 _ _ _ _ 0 _ dX6_commit_50 rfl ?_
  refine ab_gR hG 51 _ _ _ _ 33 21 8 0 (27, 0) dX6_commit_51 (List.Mem.tail _ (List.Mem.tail _ (List.Mem.tail _ (List.Mem.tail _ (List.Mem.head _))))) rfl ?_
  refine ab_aload_n' hG 54 _ _ _ _ 0 _ dX6_commit_54 rfl ?_
  refine ab_gI hG 55 _ _ _ _ 27 21 6 0 dX6_commit_55 (List.Mem.head _) rfl ?_
  refine ab_aload_n' hG 58 _ _ _ _ 0 _ dX6_commit_58 rfl ?_
  refine ab_gI hG 59 _ _ _ _ 39 21 11 0 dX6_commit_59 (List.Mem.tail _ (List.Mem.tail _ (List.Mem.tail _ (List.Mem.tail _ (List.Mem.tail _ (List.Mem.head _)))))) rfl ?_
  refine ab_iastore' hG 62 _ _ _ _ 27 0 12 _ _ dX6_commit_62 rfl h.1 ?_
  have h := h.2
  have h := h _ rfl
  refine ab_aload_n' hG 63 _ _ _ _ 0 _ dX6_commit_63 rfl ?_
  refine ab_gR hG 64 _ _ _ _ 36 21 9 0 (28, 0) dX6_commit_64 (List.Mem.tail _ (List.Mem.tail _ (List.Mem.tail _ (List.Mem.tail _ (List.Mem.tail _ (List.Mem.tail _ (List.Mem.head _))))))) rfl ?_
  refine ab_aload_n' hG 67 _ _ _ _ 0 _ dX6_commit_67 rfl ?_
  refine ab_gI hG 68 _ _ _ _ 27 21 6 0 dX6_commit_68 (List.Mem.head _) rfl ?_
  refine ab_iconst' hG 71 _ _ _ _ 1 1 dX6_commit_71 (by decide) ?_
  refine ab_aload_n' hG 72 _ _ _ _ 0 _ dX6_commit_72 rfl ?_
  refine ab_gI hG 73 _ _ _ _ 27 21 6 0 dX6_commit_73 (List.Mem.head _) rfl ?_
  refine ab_ishl' hG 76 _ _ _ _ _ _ dX6_commit_76 ?_
  refine ab_aload_n' hG 77 _ _ _ _ 0 _ dX6_commit_77 rfl ?_
  refine ab_gR hG 78 _ _ _ _ 36 21 9 0 (28, 0) dX6_commit_78 (List.Mem.tail _ (List.Mem.tail _ (List.Mem.tail _ (List.Mem.tail _ (List.Mem.tail _ (List.Mem.tail _ (List.Mem.head _))))))) rfl ?_
  refine ab_aload_n' hG 81 _ _ _ _ 0 _ dX6_commit_81 rfl ?_
  refine ab_gI hG 82 _ _ _ _ 124 21 10 0 dX6_commit_82 (List.Mem.tail _ (List.Mem.tail _ (List.Mem.tail _ (List.Mem.head _)))) rfl ?_
  refine ab_iaload' hG 85 _ _ _ _ 28 0 12 _ dX6_commit_85 rfl h.1 ?_
  have h := h.2
  refine ab_ior' hG 86 _ _ _ _ _ _ dX6_commit_86 ?_
  refine ab_aload_n' hG 87 _ _ _ _ 0 _ dX6_commit_87 rfl ?_
  refine ab_gI hG 88 _ _ _ _ 39 21 11 0 dX6_commit_88 (List.Mem.tail _ (List.Mem.tail _ (List.Mem.tail _ (List.Mem.tail _ (List.Mem.tail _ (List.Mem.head _)))))) rfl ?_
  refine ab_if_ge' hG 91 _ _ _ _ (7) 98 _ dX6_commit_91 (by decide) (fun hc => ?_) (fun hc => ?_)
  · have h := h.1 hc
    refine ab_aload_n' hG 98 _ _ _ _ 0 _ dX6_commit_98 rfl ?_
    refine ab_gR hG 99 _ _ _ _ 36 21 9 0 (28, 0) dX6_commit_99 (List.Mem.tail _ (List.Mem.tail _ (List.Mem.tail _ (List.Mem.tail _ (List.Mem.tail _ (List.Mem.tail _ (List.Mem.head _))))))) rfl ?_
    refine ab_aload_n' hG 102 _ _ _ _ 0 _ dX6_commit_102 rfl ?_
    refine ab_gI hG 103 _ _ _ _ 39 21 11 0 dX6_commit_103 (List.Mem.tail _ (List.Mem.tail _ (List.Mem.tail _ (List.Mem.tail _ (List.Mem.tail _ (List.Mem.head _)))))) rfl ?_
    refine ab_iaload' hG 106 _ _ _ _ 28 0 12 _ dX6_commit_106 rfl h.1 ?_
    have h := h.2
    refine ab_ior' hG 107 _ _ _ _ _ _ dX6_commit_107 ?_
    refine ab_iastore' hG 108 _ _ _ _ 28 0 12 _ _ dX6_commit_108 rfl h.1 ?_
    have h := h.2
    have h := h _ rfl
    refine ab_aload_n' hG 109 _ _ _ _ 0 _ dX6_commit_109 rfl ?_
    refine ab_aload_n' hG 110 _ _ _ _ 0 _ dX6_commit_110 rfl ?_
    refine ab_gI hG 111 _ _ _ _ 27 21 6 0 dX6_commit_111 (List.Mem.head _) rfl ?_
    refine ab_putfield' hG 114 _ _ _ _ 124 21 10 0 _ dX6_commit_114 (List.Mem.tail _ (List.Mem.head _)) ?_
    have h := h _ rfl
    refine ab_aload_n' hG 117 _ _ _ _ 0 _ dX6_commit_117 rfl ?_
    refine ab_iconst' hG 118 _ _ _ _ (-1) (-1) dX6_commit_118 (by decide) ?_
    refine ab_putfield' hG 119 _ _ _ _ 39 21 11 0 _ dX6_commit_119 (List.Mem.tail _ (List.Mem.tail _ (List.Mem.head _))) ?_
    have h := h _ rfl
    refine ab_aload_n' hG 122 _ _ _ _ 0 _ dX6_commit_122 rfl ?_
    refine ab_dup' hG 123 _ _ _ _ _ dX6_commit_123 ?_
    refine ab_gI hG 124 _ _ _ _ 27 21 6 0 dX6_commit_124 (List.Mem.head _) rfl ?_
    refine ab_iconst' hG 127 _ _ _ _ 1 1 dX6_commit_127 (by decide) ?_
    refine ab_iadd' hG 128 _ _ _ _ _ _ dX6_commit_128 ?_
    refine ab_putfield' hG 129 _ _ _ _ 27 21 6 0 _ dX6_commit_129 (List.Mem.tail _ (List.Mem.tail _ (List.Mem.tail _ (List.Mem.head _)))) ?_
    have h := h _ rfl
    refine ab_aload_n' hG 132 _ _ _ _ 0 _ dX6_commit_132 rfl ?_
    refine ab_gI hG 133 _ _ _ _ 124 21 10 0 dX6_commit_133 (List.Mem.tail _ (List.Mem.tail _ (List.Mem.tail _ (List.Mem.head _)))) rfl ?_
    exact ab_ireturn' hG 136 _ _ _ _ dX6_commit_136 (Or.inl rfl) (by decide) h
  · have h := h.2 hc
    refine ab_iconst' hG 94 _ _ _ _ 0 0 dX6_commit_94 (by decide) ?_
    refine ab_goto' hG 95 _ _ _ _ (12) 107 dX6_commit_95 (by decide) ?_
    refine ab_ior' hG 107 _ _ _ _ _ _ dX6_commit_107 ?_
    refine ab_iastore' hG 108 _ _ _ _ 28 0 12 _ _ dX6_commit_108 rfl h.1 ?_
    have h := h.2
    have h := h _ rfl
    refine ab_aload_n' hG 109 _ _ _ _ 0 _ dX6_commit_109 rfl ?_
    refine ab_aload_n' hG 110 _ _ _ _ 0 _ dX6_commit_110 rfl ?_
    refine ab_gI hG 111 _ _ _ _ 27 21 6 0 dX6_commit_111 (List.Mem.head _) rfl ?_
    refine ab_putfield' hG 114 _ _ _ _ 124 21 10 0 _ dX6_commit_114 (List.Mem.tail _ (List.Mem.head _)) ?_
    have h := h _ rfl
    refine ab_aload_n' hG 117 _ _ _ _ 0 _ dX6_commit_117 rfl ?_
    refine ab_iconst' hG 118 _ _ _ _ (-1) (-1) dX6_commit_118 (by decide) ?_
    refine ab_putfield' hG 119 _ _ _ _ 39 21 11 0 _ dX6_commit_119 (List.Mem.tail _ (List.Mem.tail _ (List.Mem.head _))) ?_
    have h := h _ rfl
    refine ab_aload_n' hG 122 _ _ _ _ 0 _ dX6_commit_122 rfl ?_
    refine ab_dup' hG 123 _ _ _ _ _ dX6_commit_123 ?_
    refine ab_gI hG 124 _ _ _ _ 27 21 6 0 dX6_commit_124 (List.Mem.head _) rfl ?_
    refine ab_iconst' hG 127 _ _ _ _ 1 1 dX6_commit_127 (by decide) ?_
    refine ab_iadd' hG 128 _ _ _ _ _ _ dX6_commit_128 ?_
    refine ab_putfield' hG 129 _ _ _ _ 27 21 6 0 _ dX6_commit_129 (List.Mem.tail _ (List.Mem.tail _ (List.Mem.tail _ (List.Mem.head _)))) ?_
    have h := h _ rfl
    refine ab_aload_n' hG 132 _ _ _ _ 0 _ dX6_commit_132 rfl ?_
    refine ab_gI hG 133 _ _ _ _ 124 21 10 0 dX6_commit_133 (List.Mem.tail _ (List.Mem.tail _ (List.Mem.tail _ (List.Mem.head _)))) rfl ?_
    exact ab_ireturn' hG 136 _ _ _ _ dX6_commit_136 (Or.inl rfl) (by decide) h
theorem bl_X6_isCommit_0 {Q : ab_Po} {G : ab_Gt} (hG : ab_Cl M_X6_isCommit Q G) (x1 : Int32) (S : ab_S) (h : (x1 < 0 → Q (.inl (some (0 : Int32))) S) ∧ (¬ x1 < 0 → ((S 21 0 6) ≤ x1 → Q (.inl (some (0 : Int32))) S) ∧ (¬ (S 21 0 6) ≤ x1 → Q (.inl (some (1 : Int32))) S))) : G 0 [some (.inr (21, 0)), some (.inl x1)] [] S 0 := by
  refine ab_iload_n' hG 0 _ _ _ _ 1 _ dX6_isCommit_0 rfl ?_
  refine ab_if_lt' hG 1 _ _ _ _ (15) 16 _ dX6_isCommit_1 (by decide) (fun hc => ?_) (fun hc => ?_)
  · have h := h.1 hc
    refine ab_iconst' hG 16 _ _ _ _ 0 0 dX6_isCommit_16 (by decide) ?_
    exact ab_ireturn' hG 17 _ _ _ _ dX6_isCommit_17 (Or.inr ⟨rfl, Or.inl rfl⟩) (by decide) h
  · have h := h.2 hc
    refine ab_iload_n' hG 4 _ _ _ _ 1 _ dX6_isCommit_4 rfl ?_
    refine ab_aload_n' hG 5 _ _ _ _ 0 _ dX6_isCommit_5 rfl ?_
    refine ab_gI hG 6 _ _ _ _ 27 21 6 0 dX6_isCommit_6 (List.Mem.head _) rfl ?_
    refine ab_icmp_ge' hG 9 _ _ _ _ (7) 16 _ _ dX6_isCommit_9 (by decide) (fun hc => ?_) (fun hc => ?_)
    · have h := h.1 hc
      refine ab_iconst' hG 16 _ _ _ _ 0 0 dX6_isCommit_16 (by decide) ?_
      exact ab_ireturn' hG 17 _ _ _ _ dX6_isCommit_17 (Or.inr ⟨rfl, Or.inl rfl⟩) (by decide) h
    · have h := h.2 hc
      refine ab_iconst' hG 12 _ _ _ _ 1 1 dX6_isCommit_12 (by decide) ?_
      refine ab_goto' hG 13 _ _ _ _ (4) 17 dX6_isCommit_13 (by decide) ?_
      exact ab_ireturn' hG 17 _ _ _ _ dX6_isCommit_17 (Or.inr ⟨rfl, Or.inr rfl⟩) (by decide) h
theorem bl_X6_checkout_0 {Q : ab_Po} {G : ab_Gt} (hG : ab_Cl M_X6_checkout Q G) (x1 : Int32) (S : ab_S) (h : Sp_X6_isCommit [(.inr (21, 0)), (.inl x1)] S (ab_back Q G 6 [some (.inr (21, 0)), some (.inl x1)] [(.inr (21, 0))] 0)) : G 0 [some (.inr (21, 0)), some (.inl x1)] [] S 0 := by
  refine ab_aload_n' hG 0 _ _ _ _ 0 _ dX6_checkout_0 rfl ?_
  refine ab_aload_n' hG 1 _ _ _ _ 0 _ dX6_checkout_1 rfl ?_
  refine ab_iload_n' hG 2 _ _ _ _ 1 _ dX6_checkout_2 rfl ?_
  exact ab_invv' hG 3 _ [_] _ _ 0 127 _ 1 1 0 _ (21, _) dX6_checkout_3 rfl rfl rfl rfl (Nat.le_of_ble_eq_true rfl) (Nat.le_of_ble_eq_true rfl) h
theorem bl_X6_checkout_6 {Q : ab_Po} {G : ab_Gt} (hG : ab_Cl M_X6_checkout Q G) (x1 : Int32) (xs0 : Int32) (S : ab_S) (h : (xs0 = 0 → (∀ S1 : ab_S, S1 = ab_su S 21 0 0 (1 : Int32) → ((S1 21 0 0) = 0 → Sp_X6_copy [(.inr (21, 0)), (.inl x1), (.inl (12 : Int32))] S1 (ab_back Q G 31 [some (.inr (21, 0)), some (.inl x1)] [] 0)) ∧ (¬ (S1 21 0 0) = 0 → Q (.inl none) S1))) ∧ (¬ xs0 = 0 → (∀ S2 : ab_S, S2 = ab_su S 21 0 0 (0 : Int32) → ((S2 21 0 0) = 0 → Sp_X6_copy [(.inr (21, 0)), (.inl x1), (.inl (12 : Int32))] S2 (ab_back Q G 31 [some (.inr (21, 0)), some (.inl x1)] [] 0)) ∧ (¬ (S2 21 0 0) = 0 → Q (.inl none) S2)))) : G 6 [some (.inr (21, 0)), some (.inl x1)] [(.inl xs0), (.inr (21, 0))] S 0 := by
  refine ab_if_eq' hG 6 _ _ _ _ (7) 13 _ dX6_checkout_6 (by decide) (fun hc => ?_) (fun hc => ?_)
  · have h := h.1 hc
    refine ab_iconst' hG 13 _ _ _ _ 1 1 dX6_checkout_13 (by decide) ?_
    refine ab_putfield' hG 14 _ _ _ _ 82 21 0 0 _ dX6_checkout_14 (List.Mem.head _) ?_
    have h := h _ rfl
    refine ab_aload_n' hG 17 _ _ _ _ 0 _ dX6_checkout_17 rfl ?_
    refine ab_gI hG 18 _ _ _ _ 82 21 0 0 dX6_checkout_18 (List.Mem.head _) rfl ?_
    refine ab_if_ne' hG 21 _ _ _ _ (20) 41 _ dX6_checkout_21 (by decide) (fun hc => ?_) (fun hc => ?_)
    · have h := h.2 hc
      exact ab_return_' hG 41 _ _ _ dX6_checkout_41 rfl (by decide) h
    · have h := h.1 hc
      refine ab_aload_n' hG 24 _ _ _ _ 0 _ dX6_checkout_24 rfl ?_
      refine ab_iload_n' hG 25 _ _ _ _ 1 _ dX6_checkout_25 rfl ?_
      refine ab_bipush' hG 26 _ _ _ _ 12 12 dX6_checkout_26 (by decide) ?_
      exact ab_invv' hG 28 _ [_, _] _ _ 0 78 _ 2 0 0 _ (21, _) dX6_checkout_28 rfl rfl rfl rfl (Nat.le_of_ble_eq_true rfl) (Nat.le_of_ble_eq_true rfl) h
  · have h := h.2 hc
    refine ab_iconst' hG 9 _ _ _ _ 0 0 dX6_checkout_9 (by decide) ?_
    refine ab_goto' hG 10 _ _ _ _ (4) 14 dX6_checkout_10 (by decide) ?_
    refine ab_putfield' hG 14 _ _ _ _ 82 21 0 0 _ dX6_checkout_14 (List.Mem.head _) ?_
    have h := h _ rfl
    refine ab_aload_n' hG 17 _ _ _ _ 0 _ dX6_checkout_17 rfl ?_
    refine ab_gI hG 18 _ _ _ _ 82 21 0 0 dX6_checkout_18 (List.Mem.head _) rfl ?_
    refine ab_if_ne' hG 21 _ _ _ _ (20) 41 _ dX6_checkout_21 (by decide) (fun hc => ?_) (fun hc => ?_)
    · have h := h.2 hc
      exact ab_return_' hG 41 _ _ _ dX6_checkout_41 rfl (by decide) h
    · have h := h.1 hc
      refine ab_aload_n' hG 24 _ _ _ _ 0 _ dX6_checkout_24 rfl ?_
      refine ab_iload_n' hG 25 _ _ _ _ 1 _ dX6_checkout_25 rfl ?_
      refine ab_bipush' hG 26 _ _ _ _ 12 12 dX6_checkout_26 (by decide) ?_
      exact ab_invv' hG 28 _ [_, _] _ _ 0 78 _ 2 0 0 _ (21, _) dX6_checkout_28 rfl rfl rfl rfl (Nat.le_of_ble_eq_true rfl) (Nat.le_of_ble_eq_true rfl) h
theorem bl_X6_checkout_31 {Q : ab_Po} {G : ab_Gt} (hG : ab_Cl M_X6_checkout Q G) (x1 : Int32) (S : ab_S) (h : (∀ S1 : ab_S, S1 = ab_su S 21 0 10 x1 → (∀ S2 : ab_S, S2 = ab_su S1 21 0 11 (-1 : Int32) → Q (.inl none) S2))) : G 31 [some (.inr (21, 0)), some (.inl x1)] [] S 0 := by
  refine ab_aload_n' hG 31 _ _ _ _ 0 _ dX6_checkout_31 rfl ?_
  refine ab_iload_n' hG 32 _ _ _ _ 1 _ dX6_checkout_32 rfl ?_
  refine ab_putfield' hG 33 _ _ _ _ 124 21 10 0 _ dX6_checkout_33 (List.Mem.tail _ (List.Mem.head _)) ?_
  have h := h _ rfl
  refine ab_aload_n' hG 36 _ _ _ _ 0 _ dX6_checkout_36 rfl ?_
  refine ab_iconst' hG 37 _ _ _ _ (-1) (-1) dX6_checkout_37 (by decide) ?_
  refine ab_putfield' hG 38 _ _ _ _ 39 21 11 0 _ dX6_checkout_38 (List.Mem.tail _ (List.Mem.tail _ (List.Mem.head _))) ?_
  have h := h _ rfl
  exact ab_return_' hG 41 _ _ _ dX6_checkout_41 rfl (by decide) h
theorem bl_X6_baseOf_0 {Q : ab_Po} {G : ab_Gt} (hG : ab_Cl M_X6_baseOf Q G) (x1 : Int32) (x2 : Int32) (S : ab_S) (h : vp_in x1 12 ∧ vp_in x2 12 ∧ G 17 [some (.inr (21, 0)), some (.inl x1), some (.inl x2), some (.inl ((S 28 0 x1.toNatClampNeg) &&& (S 28 0 x2.toNatClampNeg))), some (.inl (0 : Int32)), none, none] [] S 0) : G 0 [some (.inr (21, 0)), some (.inl x1), some (.inl x2), none, none, none, none] [] S 0 := by
  refine ab_aload_n' hG 0 _ _ _ _ 0 _ dX6_baseOf_0 rfl ?_
  refine ab_gR hG 1 _ _ _ _ 36 21 9 0 (28, 0) dX6_baseOf_1 (List.Mem.head _) rfl ?_
  refine ab_iload_n' hG 4 _ _ _ _ 1 _ dX6_baseOf_4 rfl ?_
  refine ab_iaload' hG 5 _ _ _ _ 28 0 12 _ dX6_baseOf_5 rfl h.1 ?_
  have h := h.2
  refine ab_aload_n' hG 6 _ _ _ _ 0 _ dX6_baseOf_6 rfl ?_
  refine ab_gR hG 7 _ _ _ _ 36 21 9 0 (28, 0) dX6_baseOf_7 (List.Mem.head _) rfl ?_
  refine ab_iload_n' hG 10 _ _ _ _ 2 _ dX6_baseOf_10 rfl ?_
  refine ab_iaload' hG 11 _ _ _ _ 28 0 12 _ dX6_baseOf_11 rfl h.1 ?_
  have h := h.2
  refine ab_iand' hG 12 _ _ _ _ _ _ dX6_baseOf_12 ?_
  refine ab_istore_n' hG 13 _ _ _ _ 3 _ dX6_baseOf_13 (Nat.le_of_ble_eq_true rfl) ?_
  refine ab_iconst' hG 14 _ _ _ _ 0 0 dX6_baseOf_14 (by decide) ?_
  refine ab_istore' hG 15 _ _ _ _ 4 _ dX6_baseOf_15 (Nat.le_of_ble_eq_true rfl) ?_
  exact h
theorem bl_X6_baseOf_17 {Q : ab_Po} {G : ab_Gt} (hG : ab_Cl M_X6_baseOf Q G) (x1 : Int32) (x2 : Int32) (x3 : Int32) (x4 : Int32) (S : ab_S) (h : ((S 21 0 6) ≤ x4 → Q (.inl (some (-1 : Int32))) S) ∧ (¬ (S 21 0 6) ≤ x4 → (((x3 >>> (x4 &&& 31)) &&& (1 : Int32)) = (1 : Int32) → G 46 [some (.inr (21, 0)), some (.inl x1), some (.inl x2), some (.inl x3), some (.inl x4), some (.inl (1 : Int32)), some (.inl (0 : Int32))] [] S 0) ∧ (¬ ((x3 >>> (x4 &&& 31)) &&& (1 : Int32)) = (1 : Int32) → G 46 [some (.inr (21, 0)), some (.inl x1), some (.inl x2), some (.inl x3), some (.inl x4), some (.inl (0 : Int32)), some (.inl (0 : Int32))] [] S 0))) : G 17 [some (.inr (21, 0)), some (.inl x1), some (.inl x2), some (.inl x3), some (.inl x4), none, none] [] S 0 := by
  refine ab_iload' hG 17 _ _ _ _ 4 _ dX6_baseOf_17 rfl ?_
  refine ab_aload_n' hG 19 _ _ _ _ 0 _ dX6_baseOf_19 rfl ?_
  refine ab_gI hG 20 _ _ _ _ 27 21 6 0 dX6_baseOf_20 (List.Mem.tail _ (List.Mem.head _)) rfl ?_
  refine ab_icmp_ge' hG 23 _ _ _ _ (95) 118 _ _ dX6_baseOf_23 (by decide) (fun hc => ?_) (fun hc => ?_)
  · have h := h.1 hc
    refine ab_iconst' hG 118 _ _ _ _ (-1) (-1) dX6_baseOf_118 (by decide) ?_
    exact ab_ireturn' hG 119 _ _ _ _ dX6_baseOf_119 (Or.inl rfl) (by decide) h
  · have h := h.2 hc
    refine ab_iload_n' hG 26 _ _ _ _ 3 _ dX6_baseOf_26 rfl ?_
    refine ab_iload' hG 27 _ _ _ _ 4 _ dX6_baseOf_27 rfl ?_
    refine ab_ishr' hG 29 _ _ _ _ _ _ dX6_baseOf_29 ?_
    refine ab_iconst' hG 30 _ _ _ _ 1 1 dX6_baseOf_30 (by decide) ?_
    refine ab_iand' hG 31 _ _ _ _ _ _ dX6_baseOf_31 ?_
    refine ab_iconst' hG 32 _ _ _ _ 1 1 dX6_baseOf_32 (by decide) ?_
    refine ab_icmp_ne' hG 33 _ _ _ _ (7) 40 _ _ dX6_baseOf_33 (by decide) (fun hc => ?_) (fun hc => ?_)
    · have h := h.2 hc
      refine ab_iconst' hG 40 _ _ _ _ 0 0 dX6_baseOf_40 (by decide) ?_
      refine ab_istore' hG 41 _ _ _ _ 5 _ dX6_baseOf_41 (Nat.le_of_ble_eq_true rfl) ?_
      refine ab_iconst' hG 43 _ _ _ _ 0 0 dX6_baseOf_43 (by decide) ?_
      refine ab_istore' hG 44 _ _ _ _ 6 _ dX6_baseOf_44 (Nat.le_of_ble_eq_true rfl) ?_
      exact h
    · have h := h.1 hc
      refine ab_iconst' hG 36 _ _ _ _ 1 1 dX6_baseOf_36 (by decide) ?_
      refine ab_goto' hG 37 _ _ _ _ (4) 41 dX6_baseOf_37 (by decide) ?_
      refine ab_istore' hG 41 _ _ _ _ 5 _ dX6_baseOf_41 (Nat.le_of_ble_eq_true rfl) ?_
      refine ab_iconst' hG 43 _ _ _ _ 0 0 dX6_baseOf_43 (by decide) ?_
      refine ab_istore' hG 44 _ _ _ _ 6 _ dX6_baseOf_44 (Nat.le_of_ble_eq_true rfl) ?_
      exact h
theorem bl_X6_baseOf_46 {Q : ab_Po} {G : ab_Gt} (hG : ab_Cl M_X6_baseOf Q G) (x1 : Int32) (x2 : Int32) (x3 : Int32) (x4 : Int32) (x5 : Int32) (x6 : Int32) (S : ab_S) (h : ((S 21 0 6) ≤ x6 → (x5 = 0 → G 17 [some (.inr (21, 0)), some (.inl x1), some (.inl x2), some (.inl x3), some (.inl (x4 + 1)), none, none] [] S 0) ∧ (¬ x5 = 0 → Q (.inl (some x4)) S)) ∧ (¬ (S 21 0 6) ≤ x6 → (x5 = 0 → G 46 [some (.inr (21, 0)), some (.inl x1), some (.inl x2), some (.inl x3), some (.inl x4), some (.inl (0 : Int32)), some (.inl (x6 + 1))] [] S 0) ∧ (¬ x5 = 0 → (x6 = x4 → G 46 [some (.inr (21, 0)), some (.inl x1), some (.inl x2), some (.inl x3), some (.inl x4), some (.inl (1 : Int32)), some (.inl (x6 + 1))] [] S 0) ∧ (¬ x6 = x4 → (((x3 >>> (x6 &&& 31)) &&& (1 : Int32)) = 0 → G 46 [some (.inr (21, 0)), some (.inl x1), some (.inl x2), some (.inl x3), some (.inl x4), some (.inl (1 : Int32)), some (.inl (x6 + 1))] [] S 0) ∧ (¬ ((x3 >>> (x6 &&& 31)) &&& (1 : Int32)) = 0 → vp_in x6 12 ∧ ((((S 28 0 x6.toNatClampNeg) >>> (x4 &&& 31)) &&& (1 : Int32)) = 0 → G 46 [some (.inr (21, 0)), some (.inl x1), some (.inl x2), some (.inl x3), some (.inl x4), some (.inl (1 : Int32)), some (.inl (x6 + 1))] [] S 0) ∧ (¬ (((S 28 0 x6.toNatClampNeg) >>> (x4 &&& 31)) &&& (1 : Int32)) = 0 → G 46 [some (.inr (21, 0)), some (.inl x1), some (.inl x2), some (.inl x3), some (.inl x4), some (.inl (0 : Int32)), some (.inl (x6 + 1))] [] S 0)))))) : G 46 [some (.inr (21, 0)), some (.inl x1), some (.inl x2), some (.inl x3), some (.inl x4), some (.inl x5), some (.inl x6)] [] S 0 := by
  refine ab_iload' hG 46 _ _ _ _ 6 _ dX6_baseOf_46 rfl ?_
  refine ab_aload_n' hG 48 _ _ _ _ 0 _ dX6_baseOf_48 rfl ?_
  refine ab_gI hG 49 _ _ _ _ 27 21 6 0 dX6_baseOf_49 (List.Mem.tail _ (List.Mem.head _)) rfl ?_
  refine ab_icmp_ge' hG 52 _ _ _ _ (52) 104 _ _ dX6_baseOf_52 (by decide) (fun hc => ?_) (fun hc => ?_)
  · have h := h.1 hc
    refine ab_iload' hG 104 _ _ _ _ 5 _ dX6_baseOf_104 rfl ?_
    refine ab_if_eq' hG 106 _ _ _ _ (6) 112 _ dX6_baseOf_106 (by decide) (fun hc => ?_) (fun hc => ?_)
    · have h := h.1 hc
      refine ab_iinc' hG 112 _ _ _ _ 4 1 _ _ dX6_baseOf_112 rfl rfl ?_
      refine ab_goto' hG 115 _ _ _ _ (-98) 17 dX6_baseOf_115 (by decide) ?_
      refine ab_forget' hG _ _ _ _ _ 5 ?_
      refine ab_forget' hG _ _ _ _ _ 6 ?_
      exact h
    · have h := h.2 hc
      refine ab_iload' hG 109 _ _ _ _ 4 _ dX6_baseOf_109 rfl ?_
      exact ab_ireturn' hG 111 _ _ _ _ dX6_baseOf_111 (Or.inl rfl) (by decide) h
  · have h := h.2 hc
    refine ab_iload' hG 55 _ _ _ _ 5 _ dX6_baseOf_55 rfl ?_
    refine ab_if_eq' hG 57 _ _ _ _ (38) 95 _ dX6_baseOf_57 (by decide) (fun hc => ?_) (fun hc => ?_)
    · have h := h.1 hc
      refine ab_iconst' hG 95 _ _ _ _ 0 0 dX6_baseOf_95 (by decide) ?_
      refine ab_istore' hG 96 _ _ _ _ 5 _ dX6_baseOf_96 (Nat.le_of_ble_eq_true rfl) ?_
      refine ab_iinc' hG 98 _ _ _ _ 6 1 _ _ dX6_baseOf_98 rfl rfl ?_
      refine ab_goto' hG 101 _ _ _ _ (-55) 46 dX6_baseOf_101 (by decide) ?_
      exact h
    · have h := h.2 hc
      refine ab_iload' hG 60 _ _ _ _ 6 _ dX6_baseOf_60 rfl ?_
      refine ab_iload' hG 62 _ _ _ _ 4 _ dX6_baseOf_62 rfl ?_
      refine ab_icmp_eq' hG 64 _ _ _ _ (27) 91 _ _ dX6_baseOf_64 (by decide) (fun hc => ?_) (fun hc => ?_)
      · have h := h.1 hc
        refine ab_iconst' hG 91 _ _ _ _ 1 1 dX6_baseOf_91 (by decide) ?_
        refine ab_goto' hG 92 _ _ _ _ (4) 96 dX6_baseOf_92 (by decide) ?_
        refine ab_istore' hG 96 _ _ _ _ 5 _ dX6_baseOf_96 (Nat.le_of_ble_eq_true rfl) ?_
        refine ab_iinc' hG 98 _ _ _ _ 6 1 _ _ dX6_baseOf_98 rfl rfl ?_
        refine ab_goto' hG 101 _ _ _ _ (-55) 46 dX6_baseOf_101 (by decide) ?_
        exact h
      · have h := h.2 hc
        refine ab_iload_n' hG 67 _ _ _ _ 3 _ dX6_baseOf_67 rfl ?_
        refine ab_iload' hG 68 _ _ _ _ 6 _ dX6_baseOf_68 rfl ?_
        refine ab_ishr' hG 70 _ _ _ _ _ _ dX6_baseOf_70 ?_
        refine ab_iconst' hG 71 _ _ _ _ 1 1 dX6_baseOf_71 (by decide) ?_
        refine ab_iand' hG 72 _ _ _ _ _ _ dX6_baseOf_72 ?_
        refine ab_if_eq' hG 73 _ _ _ _ (18) 91 _ dX6_baseOf_73 (by decide) (fun hc => ?_) (fun hc => ?_)
        · have h := h.1 hc
          refine ab_iconst' hG 91 _ _ _ _ 1 1 dX6_baseOf_91 (by decide) ?_
          refine ab_goto' hG 92 _ _ _ _ (4) 96 dX6_baseOf_92 (by decide) ?_
          refine ab_istore' hG 96 _ _ _ _ 5 _ dX6_baseOf_96 (Nat.le_of_ble_eq_true rfl) ?_
          refine ab_iinc' hG 98 _ _ _ _ 6 1 _ _ dX6_baseOf_98 rfl rfl ?_
          refine ab_goto' hG 101 _ _ _ _ (-55) 46 dX6_baseOf_101 (by decide) ?_
          exact h
        · have h := h.2 hc
          refine ab_aload_n' hG 76 _ _ _ _ 0 _ dX6_baseOf_76 rfl ?_
          refine ab_gR hG 77 _ _ _ _ 36 21 9 0 (28, 0) dX6_baseOf_77 (List.Mem.head _) rfl ?_
          refine ab_iload' hG 80 _ _ _ _ 6 _ dX6_baseOf_80 rfl ?_
          refine ab_iaload' hG 82 _ _ _ _ 28 0 12 _ dX6_baseOf_82 rfl h.1 ?_
          have h := h.2
          refine ab_iload' hG 83 _ _ _ _ 4 _ dX6_baseOf_83 rfl ?_
          refine ab_ishr' hG 85 _ _ _ _ _ _ dX6_baseOf_85 ?_
          refine ab_iconst' hG 86 _ _ _ _ 1 1 dX6_baseOf_86 (by decide) ?_
          refine ab_iand' hG 87 _ _ _ _ _ _ dX6_baseOf_87 ?_
          refine ab_if_ne' hG 88 _ _ _ _ (7) 95 _ dX6_baseOf_88 (by decide) (fun hc => ?_) (fun hc => ?_)
          · have h := h.2 hc
            refine ab_iconst' hG 95 _ _ _ _ 0 0 dX6_baseOf_95 (by decide) ?_
            refine ab_istore' hG 96 _ _ _ _ 5 _ dX6_baseOf_96 (Nat.le_of_ble_eq_true rfl) ?_
            refine ab_iinc' hG 98 _ _ _ _ 6 1 _ _ dX6_baseOf_98 rfl rfl ?_
            refine ab_goto' hG 101 _ _ _ _ (-55) 46 dX6_baseOf_101 (by decide) ?_
            exact h
          · have h := h.1 hc
            refine ab_iconst' hG 91 _ _ _ _ 1 1 dX6_baseOf_91 (by decide) ?_
            refine ab_goto' hG 92 _ _ _ _ (4) 96 dX6_baseOf_92 (by decide) ?_
            refine ab_istore' hG 96 _ _ _ _ 5 _ dX6_baseOf_96 (Nat.le_of_ble_eq_true rfl) ?_
            refine ab_iinc' hG 98 _ _ _ _ 6 1 _ _ dX6_baseOf_98 rfl rfl ?_
            refine ab_goto' hG 101 _ _ _ _ (-55) 46 dX6_baseOf_101 (by decide) ?_
            exact h
theorem bl_X6_base_0 {Q : ab_Po} {G : ab_Gt} (hG : ab_Cl M_X6_base Q G) (x1 : Int32) (x2 : Int32) (S : ab_S) (h : Sp_X6_isCommit [(.inr (21, 0)), (.inl x1)] S (ab_back Q G 6 [some (.inr (21, 0)), some (.inl x1), some (.inl x2)] [(.inr (21, 0))] 0)) : G 0 [some (.inr (21, 0)), some (.inl x1), some (.inl x2)] [] S 0 := by
  refine ab_aload_n' hG 0 _ _ _ _ 0 _ dX6_base_0 rfl ?_
  refine ab_aload_n' hG 1 _ _ _ _ 0 _ dX6_base_1 rfl ?_
  refine ab_iload_n' hG 2 _ _ _ _ 1 _ dX6_base_2 rfl ?_
  exact ab_invv' hG 3 _ [_] _ _ 0 127 _ 1 1 0 _ (21, _) dX6_base_3 rfl rfl rfl rfl (Nat.le_of_ble_eq_true rfl) (Nat.le_of_ble_eq_true rfl) h
theorem bl_X6_base_6 {Q : ab_Po} {G : ab_Gt} (hG : ab_Cl M_X6_base Q G) (x1 : Int32) (x2 : Int32) (xs0 : Int32) (S : ab_S) (h : (xs0 = 0 → (∀ S1 : ab_S, S1 = ab_su S 21 0 0 (1 : Int32) → ((S1 21 0 0) = 0 → Sp_X6_baseOf [(.inr (21, 0)), (.inl x1), (.inl x2)] S1 (ab_back Q G 38 [some (.inr (21, 0)), some (.inl x1), some (.inl x2)] [] 0)) ∧ (¬ (S1 21 0 0) = 0 → Q (.inl (some (0 : Int32))) S1))) ∧ (¬ xs0 = 0 → Sp_X6_isCommit [(.inr (21, 0)), (.inl x2)] S (ab_back Q G 14 [some (.inr (21, 0)), some (.inl x1), some (.inl x2)] [(.inr (21, 0))] 0))) : G 6 [some (.inr (21, 0)), some (.inl x1), some (.inl x2)] [(.inl xs0), (.inr (21, 0))] S 0 := by
  refine ab_if_eq' hG 6 _ _ _ _ (15) 21 _ dX6_base_6 (by decide) (fun hc => ?_) (fun hc => ?_)
  · have h := h.1 hc
    refine ab_iconst' hG 21 _ _ _ _ 1 1 dX6_base_21 (by decide) ?_
    refine ab_putfield' hG 22 _ _ _ _ 82 21 0 0 _ dX6_base_22 (List.Mem.head _) ?_
    have h := h _ rfl
    refine ab_aload_n' hG 25 _ _ _ _ 0 _ dX6_base_25 rfl ?_
    refine ab_gI hG 26 _ _ _ _ 82 21 0 0 dX6_base_26 (List.Mem.head _) rfl ?_
    refine ab_if_ne' hG 29 _ _ _ _ (12) 41 _ dX6_base_29 (by decide) (fun hc => ?_) (fun hc => ?_)
    · have h := h.2 hc
      refine ab_iconst' hG 41 _ _ _ _ 0 0 dX6_base_41 (by decide) ?_
      exact ab_ireturn' hG 42 _ _ _ _ dX6_base_42 (Or.inl rfl) (by decide) h
    · have h := h.1 hc
      refine ab_aload_n' hG 32 _ _ _ _ 0 _ dX6_base_32 rfl ?_
      refine ab_iload_n' hG 33 _ _ _ _ 1 _ dX6_base_33 rfl ?_
      refine ab_iload_n' hG 34 _ _ _ _ 2 _ dX6_base_34 rfl ?_
      exact ab_invv' hG 35 _ [_, _] _ _ 0 131 _ 2 1 0 _ (21, _) dX6_base_35 rfl rfl rfl rfl (Nat.le_of_ble_eq_true rfl) (Nat.le_of_ble_eq_true rfl) h
  · have h := h.2 hc
    refine ab_aload_n' hG 9 _ _ _ _ 0 _ dX6_base_9 rfl ?_
    refine ab_iload_n' hG 10 _ _ _ _ 2 _ dX6_base_10 rfl ?_
    exact ab_invv' hG 11 _ [_] _ _ 0 127 _ 1 1 0 _ (21, _) dX6_base_11 rfl rfl rfl rfl (Nat.le_of_ble_eq_true rfl) (Nat.le_of_ble_eq_true rfl) h
theorem bl_X6_base_14 {Q : ab_Po} {G : ab_Gt} (hG : ab_Cl M_X6_base Q G) (x1 : Int32) (x2 : Int32) (xs0 : Int32) (S : ab_S) (h : (xs0 = 0 → (∀ S1 : ab_S, S1 = ab_su S 21 0 0 (1 : Int32) → ((S1 21 0 0) = 0 → Sp_X6_baseOf [(.inr (21, 0)), (.inl x1), (.inl x2)] S1 (ab_back Q G 38 [some (.inr (21, 0)), some (.inl x1), some (.inl x2)] [] 0)) ∧ (¬ (S1 21 0 0) = 0 → Q (.inl (some (0 : Int32))) S1))) ∧ (¬ xs0 = 0 → (∀ S2 : ab_S, S2 = ab_su S 21 0 0 (0 : Int32) → ((S2 21 0 0) = 0 → Sp_X6_baseOf [(.inr (21, 0)), (.inl x1), (.inl x2)] S2 (ab_back Q G 38 [some (.inr (21, 0)), some (.inl x1), some (.inl x2)] [] 0)) ∧ (¬ (S2 21 0 0) = 0 → Q (.inl (some (0 : Int32))) S2)))) : G 14 [some (.inr (21, 0)), some (.inl x1), some (.inl x2)] [(.inl xs0), (.inr (21, 0))] S 0 := by
  refine ab_if_eq' hG 14 _ _ _ _ (7) 21 _ dX6_base_14 (by decide) (fun hc => ?_) (fun hc => ?_)
  · have h := h.1 hc
    refine ab_iconst' hG 21 _ _ _ _ 1 1 dX6_base_21 (by decide) ?_
    refine ab_putfield' hG 22 _ _ _ _ 82 21 0 0 _ dX6_base_22 (List.Mem.head _) ?_
    have h := h _ rfl
    refine ab_aload_n' hG 25 _ _ _ _ 0 _ dX6_base_25 rfl ?_
    refine ab_gI hG 26 _ _ _ _ 82 21 0 0 dX6_base_26 (List.Mem.head _) rfl ?_
    refine ab_if_ne' hG 29 _ _ _ _ (12) 41 _ dX6_base_29 (by decide) (fun hc => ?_) (fun hc => ?_)
    · have h := h.2 hc
      refine ab_iconst' hG 41 _ _ _ _ 0 0 dX6_base_41 (by decide) ?_
      exact ab_ireturn' hG 42 _ _ _ _ dX6_base_42 (Or.inl rfl) (by decide) h
    · have h := h.1 hc
      refine ab_aload_n' hG 32 _ _ _ _ 0 _ dX6_base_32 rfl ?_
      refine ab_iload_n' hG 33 _ _ _ _ 1 _ dX6_base_33 rfl ?_
      refine ab_iload_n' hG 34 _ _ _ _ 2 _ dX6_base_34 rfl ?_
      exact ab_invv' hG 35 _ [_, _] _ _ 0 131 _ 2 1 0 _ (21, _) dX6_base_35 rfl rfl rfl rfl (Nat.le_of_ble_eq_true rfl) (Nat.le_of_ble_eq_true rfl) h
  · have h := h.2 hc
    refine ab_iconst' hG 17 _ _ _ _ 0 0 dX6_base_17 (by decide) ?_
    refine ab_goto' hG 18 _ _ _ _ (4) 22 dX6_base_18 (by decide) ?_
    refine ab_putfield' hG 22 _ _ _ _ 82 21 0 0 _ dX6_base_22 (List.Mem.head _) ?_
    have h := h _ rfl
    refine ab_aload_n' hG 25 _ _ _ _ 0 _ dX6_base_25 rfl ?_
    refine ab_gI hG 26 _ _ _ _ 82 21 0 0 dX6_base_26 (List.Mem.head _) rfl ?_
    refine ab_if_ne' hG 29 _ _ _ _ (12) 41 _ dX6_base_29 (by decide) (fun hc => ?_) (fun hc => ?_)
    · have h := h.2 hc
      refine ab_iconst' hG 41 _ _ _ _ 0 0 dX6_base_41 (by decide) ?_
      exact ab_ireturn' hG 42 _ _ _ _ dX6_base_42 (Or.inl rfl) (by decide) h
    · have h := h.1 hc
      refine ab_aload_n' hG 32 _ _ _ _ 0 _ dX6_base_32 rfl ?_
      refine ab_iload_n' hG 33 _ _ _ _ 1 _ dX6_base_33 rfl ?_
      refine ab_iload_n' hG 34 _ _ _ _ 2 _ dX6_base_34 rfl ?_
      exact ab_invv' hG 35 _ [_, _] _ _ 0 131 _ 2 1 0 _ (21, _) dX6_base_35 rfl rfl rfl rfl (Nat.le_of_ble_eq_true rfl) (Nat.le_of_ble_eq_true rfl) h
theorem bl_X6_base_38 {Q : ab_Po} {G : ab_Gt} (hG : ab_Cl M_X6_base Q G) (x1 : Int32) (x2 : Int32) (xs0 : Int32) (S : ab_S) (h : Q (.inl (some xs0)) S) : G 38 [some (.inr (21, 0)), some (.inl x1), some (.inl x2)] [(.inl xs0)] S 0 := by
  refine ab_goto' hG 38 _ _ _ _ (4) 42 dX6_base_38 (by decide) ?_
  exact ab_ireturn' hG 42 _ _ _ _ dX6_base_42 (Or.inl rfl) (by decide) h
theorem bl_X6_isHeads_0 {Q : ab_Po} {G : ab_Gt} (hG : ab_Cl M_X6_isHeads Q G)  (S : ab_S) (h : G 4 [some (.inr (21, 0)), some (.inl (1 : Int32)), some (.inl (0 : Int32)), none, none] [] S 0) : G 0 [some (.inr (21, 0)), none, none, none, none] [] S 0 := by
  refine ab_iconst' hG 0 _ _ _ _ 1 1 dX6_isHeads_0 (by decide) ?_
  refine ab_istore_n' hG 1 _ _ _ _ 1 _ dX6_isHeads_1 (Nat.le_of_ble_eq_true rfl) ?_
  refine ab_iconst' hG 2 _ _ _ _ 0 0 dX6_isHeads_2 (by decide) ?_
  refine ab_istore_n' hG 3 _ _ _ _ 2 _ dX6_isHeads_3 (Nat.le_of_ble_eq_true rfl) ?_
  exact h
theorem bl_X6_isHeads_4 {Q : ab_Po} {G : ab_Gt} (hG : ab_Cl M_X6_isHeads Q G) (x1 : Int32) (x2 : Int32) (S : ab_S) (h : ((24 : Int32) ≤ x2 → (x1 = 0 ∨ x1 = 1) ∧ Q (.inl (some x1)) S) ∧ (¬ (24 : Int32) ≤ x2 → (x1 = 0 → G 4 [some (.inr (21, 0)), some (.inl (0 : Int32)), some (.inl (x2 + 1)), none, none] [] S 0) ∧ (¬ x1 = 0 → vp_in ((288 : Int32) + x2) 336 ∧ vp_in (((24 : Int32) * (S 21 0 10)) + x2) 336 ∧ ((S 22 0 ((288 : Int32) + x2).toNatClampNeg) = (S 22 0 (((24 : Int32) * (S 21 0 10)) + x2).toNatClampNeg) → vp_in ((288 : Int32) + x2) 336 ∧ ((S 22 0 ((288 : Int32) + x2).toNatClampNeg) = 0 → G 4 [some (.inr (21, 0)), some (.inl (1 : Int32)), some (.inl (x2 + 1)), none, none] [] S 0) ∧ (¬ (S 22 0 ((288 : Int32) + x2).toNatClampNeg) = 0 → vp_in ((288 : Int32) + x2) 336 ∧ vp_in (((24 : Int32) * (S 21 0 10)) + x2) 336 ∧ ((S 23 0 ((288 : Int32) + x2).toNatClampNeg) = (S 23 0 (((24 : Int32) * (S 21 0 10)) + x2).toNatClampNeg) → vp_in ((288 : Int32) + x2) 336 ∧ vp_in (((24 : Int32) * (S 21 0 10)) + x2) 336 ∧ ((S 24 0 ((288 : Int32) + x2).toNatClampNeg) = (S 24 0 (((24 : Int32) * (S 21 0 10)) + x2).toNatClampNeg) → vp_in ((288 : Int32) + x2) 336 ∧ vp_in (((24 : Int32) * (S 21 0 10)) + x2) 336 ∧ ((S 25 0 ((288 : Int32) + x2).toNatClampNeg) = (S 25 0 (((24 : Int32) * (S 21 0 10)) + x2).toNatClampNeg) → G 4 [some (.inr (21, 0)), some (.inl (1 : Int32)), some (.inl (x2 + 1)), none, none] [] S 0) ∧ (¬ (S 25 0 ((288 : Int32) + x2).toNatClampNeg) = (S 25 0 (((24 : Int32) * (S 21 0 10)) + x2).toNatClampNeg) → G 4 [some (.inr (21, 0)), some (.inl (0 : Int32)), some (.inl (x2 + 1)), none, none] [] S 0)) ∧ (¬ (S 24 0 ((288 : Int32) + x2).toNatClampNeg) = (S 24 0 (((24 : Int32) * (S 21 0 10)) + x2).toNatClampNeg) → G 4 [some (.inr (21, 0)), some (.inl (0 : Int32)), some (.inl (x2 + 1)), none, none] [] S 0)) ∧ (¬ (S 23 0 ((288 : Int32) + x2).toNatClampNeg) = (S 23 0 (((24 : Int32) * (S 21 0 10)) + x2).toNatClampNeg) → G 4 [some (.inr (21, 0)), some (.inl (0 : Int32)), some (.inl (x2 + 1)), none, none] [] S 0))) ∧ (¬ (S 22 0 ((288 : Int32) + x2).toNatClampNeg) = (S 22 0 (((24 : Int32) * (S 21 0 10)) + x2).toNatClampNeg) → G 4 [some (.inr (21, 0)), some (.inl (0 : Int32)), some (.inl (x2 + 1)), none, none] [] S 0)))) : G 4 [some (.inr (21, 0)), some (.inl x1), some (.inl x2), none, none] [] S 0 := by
  refine ab_iload_n' hG 4 _ _ _ _ 2 _ dX6_isHeads_4 rfl ?_
  refine ab_bipush' hG 5 _ _ _ _ 24 24 dX6_isHeads_5 (by decide) ?_
  refine ab_icmp_ge' hG 7 _ _ _ _ (109) 116 _ _ dX6_isHeads_7 (by decide) (fun hc => ?_) (fun hc => ?_)
  · have h := h.1 hc
    refine ab_iload_n' hG 116 _ _ _ _ 1 _ dX6_isHeads_116 rfl ?_
    exact ab_ireturn' hG 117 _ _ _ _ dX6_isHeads_117 (Or.inr ⟨rfl, h.1⟩) (by decide) h.2
  · have h := h.2 hc
    refine ab_sipush' hG 10 _ _ _ _ 288 288 dX6_isHeads_10 (by decide) ?_
    refine ab_iload_n' hG 13 _ _ _ _ 2 _ dX6_isHeads_13 rfl ?_
    refine ab_iadd' hG 14 _ _ _ _ _ _ dX6_isHeads_14 ?_
    refine ab_istore_n' hG 15 _ _ _ _ 3 _ dX6_isHeads_15 (Nat.le_of_ble_eq_true rfl) ?_
    refine ab_bipush' hG 16 _ _ _ _ 24 24 dX6_isHeads_16 (by decide) ?_
    refine ab_aload_n' hG 18 _ _ _ _ 0 _ dX6_isHeads_18 rfl ?_
    refine ab_gI hG 19 _ _ _ _ 124 21 10 0 dX6_isHeads_19 (List.Mem.head _) rfl ?_
    refine ab_imul' hG 22 _ _ _ _ _ _ dX6_isHeads_22 ?_
    refine ab_iload_n' hG 23 _ _ _ _ 2 _ dX6_isHeads_23 rfl ?_
    refine ab_iadd' hG 24 _ _ _ _ _ _ dX6_isHeads_24 ?_
    refine ab_istore' hG 25 _ _ _ _ 4 _ dX6_isHeads_25 (Nat.le_of_ble_eq_true rfl) ?_
    refine ab_iload_n' hG 27 _ _ _ _ 1 _ dX6_isHeads_27 rfl ?_
    refine ab_if_eq' hG 28 _ _ _ _ (80) 108 _ dX6_isHeads_28 (by decide) (fun hc => ?_) (fun hc => ?_)
    · have h := h.1 hc
      refine ab_iconst' hG 108 _ _ _ _ 0 0 dX6_isHeads_108 (by decide) ?_
      refine ab_istore_n' hG 109 _ _ _ _ 1 _ dX6_isHeads_109 (Nat.le_of_ble_eq_true rfl) ?_
      refine ab_iinc' hG 110 _ _ _ _ 2 1 _ _ dX6_isHeads_110 rfl rfl ?_
      refine ab_goto' hG 113 _ _ _ _ (-109) 4 dX6_isHeads_113 (by decide) ?_
      refine ab_forget' hG _ _ _ _ _ 3 ?_
      refine ab_forget' hG _ _ _ _ _ 4 ?_
      exact h
    · have h := h.2 hc
      refine ab_aload_n' hG 31 _ _ _ _ 0 _ dX6_isHeads_31 rfl ?_
      refine ab_gR hG 32 _ _ _ _ 7 21 1 0 (22, 0) dX6_isHeads_32 (List.Mem.tail _ (List.Mem.head _)) rfl ?_
      refine ab_iload_n' hG 35 _ _ _ _ 3 _ dX6_isHeads_35 rfl ?_
      refine ab_baload' hG 36 _ _ _ _ 22 0 336 _ dX6_isHeads_36 rfl h.1 ?_
      have h := h.2
      refine ab_aload_n' hG 37 _ _ _ _ 0 _ dX6_isHeads_37 rfl ?_
      refine ab_gR hG 38 _ _ _ _ 7 21 1 0 (22, 0) dX6_isHeads_38 (List.Mem.tail _ (List.Mem.head _)) rfl ?_
      refine ab_iload' hG 41 _ _ _ _ 4 _ dX6_isHeads_41 rfl ?_
      refine ab_baload' hG 43 _ _ _ _ 22 0 336 _ dX6_isHeads_43 rfl h.1 ?_
      have h := h.2
      refine ab_icmp_ne' hG 44 _ _ _ _ (64) 108 _ _ dX6_isHeads_44 (by decide) (fun hc => ?_) (fun hc => ?_)
      · have h := h.2 hc
        refine ab_iconst' hG 108 _ _ _ _ 0 0 dX6_isHeads_108 (by decide) ?_
        refine ab_istore_n' hG 109 _ _ _ _ 1 _ dX6_isHeads_109 (Nat.le_of_ble_eq_true rfl) ?_
        refine ab_iinc' hG 110 _ _ _ _ 2 1 _ _ dX6_isHeads_110 rfl rfl ?_
        refine ab_goto' hG 113 _ _ _ _ (-109) 4 dX6_isHeads_113 (by decide) ?_
        refine ab_forget' hG _ _ _ _ _ 3 ?_
        refine ab_forget' hG _ _ _ _ _ 4 ?_
        exact h
      · have h := h.1 hc
        refine ab_aload_n' hG 47 _ _ _ _ 0 _ dX6_isHeads_47 rfl ?_
        refine ab_gR hG 48 _ _ _ _ 7 21 1 0 (22, 0) dX6_isHeads_48 (List.Mem.tail _ (List.Mem.head _)) rfl ?_
        refine ab_iload_n' hG 51 _ _ _ _ 3 _ dX6_isHeads_51 rfl ?_
        refine ab_baload' hG 52 _ _ _ _ 22 0 336 _ dX6_isHeads_52 rfl h.1 ?_
        have h := h.2
        refine ab_if_eq' hG 53 _ _ _ _ (51) 104 _ dX6_isHeads_53 (by decide) (fun hc => ?_) (fun hc => ?_)
        · have h := h.1 hc
          refine ab_iconst' hG 104 _ _ _ _ 1 1 dX6_isHeads_104 (by decide) ?_
          refine ab_goto' hG 105 _ _ _ _ (4) 109 dX6_isHeads_105 (by decide) ?_
          refine ab_istore_n' hG 109 _ _ _ _ 1 _ dX6_isHeads_109 (Nat.le_of_ble_eq_true rfl) ?_
          refine ab_iinc' hG 110 _ _ _ _ 2 1 _ _ dX6_isHeads_110 rfl rfl ?_
          refine ab_goto' hG 113 _ _ _ _ (-109) 4 dX6_isHeads_113 (by decide) ?_
          refine ab_forget' hG _ _ _ _ _ 3 ?_
          refine ab_forget' hG _ _ _ _ _ 4 ?_
          exact h
        · have h := h.2 hc
          refine ab_aload_n' hG 56 _ _ _ _ 0 _ dX6_isHeads_56 rfl ?_
          refine ab_gR hG 57 _ _ _ _ 13 21 2 0 (23, 0) dX6_isHeads_57 (List.Mem.tail _ (List.Mem.tail _ (List.Mem.head _))) rfl ?_
          refine ab_iload_n' hG 60 _ _ _ _ 3 _ dX6_isHeads_60 rfl ?_
          refine ab_iaload' hG 61 _ _ _ _ 23 0 336 _ dX6_isHeads_61 rfl h.1 ?_
          have h := h.2
          refine ab_aload_n' hG 62 _ _ _ _ 0 _ dX6_isHeads_62 rfl ?_
          refine ab_gR hG 63 _ _ _ _ 13 21 2 0 (23, 0) dX6_isHeads_63 (List.Mem.tail _ (List.Mem.tail _ (List.Mem.head _))) rfl ?_
          refine ab_iload' hG 66 _ _ _ _ 4 _ dX6_isHeads_66 rfl ?_
          refine ab_iaload' hG 68 _ _ _ _ 23 0 336 _ dX6_isHeads_68 rfl h.1 ?_
          have h := h.2
          refine ab_icmp_ne' hG 69 _ _ _ _ (39) 108 _ _ dX6_isHeads_69 (by decide) (fun hc => ?_) (fun hc => ?_)
          · have h := h.2 hc
            refine ab_iconst' hG 108 _ _ _ _ 0 0 dX6_isHeads_108 (by decide) ?_
            refine ab_istore_n' hG 109 _ _ _ _ 1 _ dX6_isHeads_109 (Nat.le_of_ble_eq_true rfl) ?_
            refine ab_iinc' hG 110 _ _ _ _ 2 1 _ _ dX6_isHeads_110 rfl rfl ?_
            refine ab_goto' hG 113 _ _ _ _ (-109) 4 dX6_isHeads_113 (by decide) ?_
            refine ab_forget' hG _ _ _ _ _ 3 ?_
            refine ab_forget' hG _ _ _ _ _ 4 ?_
            exact h
          · have h := h.1 hc
            refine ab_aload_n' hG 72 _ _ _ _ 0 _ dX6_isHeads_72 rfl ?_
            refine ab_gR hG 73 _ _ _ _ 17 21 3 0 (24, 0) dX6_isHeads_73 (List.Mem.tail _ (List.Mem.tail _ (List.Mem.tail _ (List.Mem.head _)))) rfl ?_
            refine ab_iload_n' hG 76 _ _ _ _ 3 _ dX6_isHeads_76 rfl ?_
            refine ab_iaload' hG 77 _ _ _ _ 24 0 336 _ dX6_isHeads_77 rfl h.1 ?_
            have h := h.2
            refine ab_aload_n' hG 78 _ _ _ _ 0 _ dX6_isHeads_78 rfl ?_
            refine ab_gR hG 79 _ _ _ _ 17 21 3 0 (24, 0) dX6_isHeads_79 (List.Mem.tail _ (List.Mem.tail _ (List.Mem.tail _ (List.Mem.head _)))) rfl ?_
            refine ab_iload' hG 82 _ _ _ _ 4 _ dX6_isHeads_82 rfl ?_
            refine ab_iaload' hG 84 _ _ _ _ 24 0 336 _ dX6_isHeads_84 rfl h.1 ?_
            have h := h.2
            refine ab_icmp_ne' hG 85 _ _ _ _ (23) 108 _ _ dX6_isHeads_85 (by decide) (fun hc => ?_) (fun hc => ?_)
            · have h := h.2 hc
              refine ab_iconst' hG 108 _ _ _ _ 0 0 dX6_isHeads_108 (by decide) ?_
              refine ab_istore_n' hG 109 _ _ _ _ 1 _ dX6_isHeads_109 (Nat.le_of_ble_eq_true rfl) ?_
              refine ab_iinc' hG 110 _ _ _ _ 2 1 _ _ dX6_isHeads_110 rfl rfl ?_
              refine ab_goto' hG 113 _ _ _ _ (-109) 4 dX6_isHeads_113 (by decide) ?_
              refine ab_forget' hG _ _ _ _ _ 3 ?_
              refine ab_forget' hG _ _ _ _ _ 4 ?_
              exact h
            · have h := h.1 hc
              refine ab_aload_n' hG 88 _ _ _ _ 0 _ dX6_isHeads_88 rfl ?_
              refine ab_gR hG 89 _ _ _ _ 20 21 4 0 (25, 0) dX6_isHeads_89 (List.Mem.tail _ (List.Mem.tail _ (List.Mem.tail _ (List.Mem.tail _ (List.Mem.head _))))) rfl ?_
              refine ab_iload_n' hG 92 _ _ _ _ 3 _ dX6_isHeads_92 rfl ?_
              refine ab_iaload' hG 93 _ _ _ _ 25 0 336 _ dX6_isHeads_93 rfl h.1 ?_
              have h := h.2
              refine ab_aload_n' hG 94 _ _ _ _ 0 _ dX6_isHeads_94 rfl ?_
              refine ab_gR hG 95 _ _ _ _ 20 21 4 0 (25, 0) dX6_isHeads_95 (List.Mem.tail _ (List.Mem.tail _ (List.Mem.tail _ (List.Mem.tail _ (List.Mem.head _))))) rfl ?_
              refine ab_iload' hG 98 _ _ _ _ 4 _ dX6_isHeads_98 rfl ?_
              refine ab_iaload' hG 100 _ _ _ _ 25 0 336 _ dX6_isHeads_100 rfl h.1 ?_
              have h := h.2
              refine ab_icmp_ne' hG 101 _ _ _ _ (7) 108 _ _ dX6_isHeads_101 (by decide) (fun hc => ?_) (fun hc => ?_)
              · have h := h.2 hc
                refine ab_iconst' hG 108 _ _ _ _ 0 0 dX6_isHeads_108 (by decide) ?_
                refine ab_istore_n' hG 109 _ _ _ _ 1 _ dX6_isHeads_109 (Nat.le_of_ble_eq_true rfl) ?_
                refine ab_iinc' hG 110 _ _ _ _ 2 1 _ _ dX6_isHeads_110 rfl rfl ?_
                refine ab_goto' hG 113 _ _ _ _ (-109) 4 dX6_isHeads_113 (by decide) ?_
                refine ab_forget' hG _ _ _ _ _ 3 ?_
                refine ab_forget' hG _ _ _ _ _ 4 ?_
                exact h
              · have h := h.1 hc
                refine ab_iconst' hG 104 _ _ _ _ 1 1 dX6_isHeads_104 (by decide) ?_
                refine ab_goto' hG 105 _ _ _ _ (4) 109 dX6_isHeads_105 (by decide) ?_
                refine ab_istore_n' hG 109 _ _ _ _ 1 _ dX6_isHeads_109 (Nat.le_of_ble_eq_true rfl) ?_
                refine ab_iinc' hG 110 _ _ _ _ 2 1 _ _ dX6_isHeads_110 rfl rfl ?_
                refine ab_goto' hG 113 _ _ _ _ (-109) 4 dX6_isHeads_113 (by decide) ?_
                refine ab_forget' hG _ _ _ _ _ 3 ?_
                refine ab_forget' hG _ _ _ _ _ 4 ?_
                exact h
theorem bl_X6_stay_0 {Q : ab_Po} {G : ab_Gt} (hG : ab_Cl M_X6_stay Q G) (x1 : Int32) (x2 : Int32) (x3 : Int32) (S : ab_S) (h : vp_in x1 336 ∧ ((S 22 0 x1.toNatClampNeg) = 0 → vp_in x1 336 ∧ ((S 22 0 x1.toNatClampNeg) = 0 → vp_in x2 336 ∧ ((S 22 0 x2.toNatClampNeg) = 0 → Q (.inl (some (0 : Int32))) S) ∧ (¬ (S 22 0 x2.toNatClampNeg) = 0 → vp_in x3 336 ∧ ((S 22 0 x3.toNatClampNeg) = 0 → Q (.inl (some (1 : Int32))) S) ∧ (¬ (S 22 0 x3.toNatClampNeg) = 0 → vp_in x3 336 ∧ vp_in x2 336 ∧ ((S 23 0 x3.toNatClampNeg) = (S 23 0 x2.toNatClampNeg) → vp_in x3 336 ∧ vp_in x2 336 ∧ ((S 24 0 x3.toNatClampNeg) = (S 24 0 x2.toNatClampNeg) → Q (.inl (some (0 : Int32))) S) ∧ (¬ (S 24 0 x3.toNatClampNeg) = (S 24 0 x2.toNatClampNeg) → Q (.inl (some (2 : Int32))) S)) ∧ (¬ (S 23 0 x3.toNatClampNeg) = (S 23 0 x2.toNatClampNeg) → Q (.inl (some (2 : Int32))) S)))) ∧ (¬ (S 22 0 x1.toNatClampNeg) = 0 → vp_in x1 336 ∧ ((S 22 0 x1.toNatClampNeg) = 0 → Q (.inl (some (0 : Int32))) S) ∧ (¬ (S 22 0 x1.toNatClampNeg) = 0 → vp_in x3 336 ∧ ((S 22 0 x3.toNatClampNeg) = 0 → Q (.inl (some (1 : Int32))) S) ∧ (¬ (S 22 0 x3.toNatClampNeg) = 0 → vp_in x3 336 ∧ vp_in x1 336 ∧ ((S 23 0 x3.toNatClampNeg) = (S 23 0 x1.toNatClampNeg) → vp_in x3 336 ∧ vp_in x1 336 ∧ ((S 24 0 x3.toNatClampNeg) = (S 24 0 x1.toNatClampNeg) → Q (.inl (some (0 : Int32))) S) ∧ (¬ (S 24 0 x3.toNatClampNeg) = (S 24 0 x1.toNatClampNeg) → Q (.inl (some (2 : Int32))) S)) ∧ (¬ (S 23 0 x3.toNatClampNeg) = (S 23 0 x1.toNatClampNeg) → Q (.inl (some (2 : Int32))) S))))) ∧ (¬ (S 22 0 x1.toNatClampNeg) = 0 → vp_in x2 336 ∧ ((S 22 0 x2.toNatClampNeg) = 0 → vp_in x1 336 ∧ ((S 22 0 x1.toNatClampNeg) = 0 → vp_in x2 336 ∧ ((S 22 0 x2.toNatClampNeg) = 0 → Q (.inl (some (0 : Int32))) S) ∧ (¬ (S 22 0 x2.toNatClampNeg) = 0 → vp_in x3 336 ∧ ((S 22 0 x3.toNatClampNeg) = 0 → Q (.inl (some (1 : Int32))) S) ∧ (¬ (S 22 0 x3.toNatClampNeg) = 0 → vp_in x3 336 ∧ vp_in x2 336 ∧ ((S 23 0 x3.toNatClampNeg) = (S 23 0 x2.toNatClampNeg) → vp_in x3 336 ∧ vp_in x2 336 ∧ ((S 24 0 x3.toNatClampNeg) = (S 24 0 x2.toNatClampNeg) → Q (.inl (some (0 : Int32))) S) ∧ (¬ (S 24 0 x3.toNatClampNeg) = (S 24 0 x2.toNatClampNeg) → Q (.inl (some (2 : Int32))) S)) ∧ (¬ (S 23 0 x3.toNatClampNeg) = (S 23 0 x2.toNatClampNeg) → Q (.inl (some (2 : Int32))) S)))) ∧ (¬ (S 22 0 x1.toNatClampNeg) = 0 → vp_in x1 336 ∧ ((S 22 0 x1.toNatClampNeg) = 0 → Q (.inl (some (0 : Int32))) S) ∧ (¬ (S 22 0 x1.toNatClampNeg) = 0 → vp_in x3 336 ∧ ((S 22 0 x3.toNatClampNeg) = 0 → Q (.inl (some (1 : Int32))) S) ∧ (¬ (S 22 0 x3.toNatClampNeg) = 0 → vp_in x3 336 ∧ vp_in x1 336 ∧ ((S 23 0 x3.toNatClampNeg) = (S 23 0 x1.toNatClampNeg) → vp_in x3 336 ∧ vp_in x1 336 ∧ ((S 24 0 x3.toNatClampNeg) = (S 24 0 x1.toNatClampNeg) → Q (.inl (some (0 : Int32))) S) ∧ (¬ (S 24 0 x3.toNatClampNeg) = (S 24 0 x1.toNatClampNeg) → Q (.inl (some (2 : Int32))) S)) ∧ (¬ (S 23 0 x3.toNatClampNeg) = (S 23 0 x1.toNatClampNeg) → Q (.inl (some (2 : Int32))) S))))) ∧ (¬ (S 22 0 x2.toNatClampNeg) = 0 → Q (.inl (some (1 : Int32))) S))) : G 0 [some (.inr (21, 0)), some (.inl x1), some (.inl x2), some (.inl x3), none] [] S 0 := by
  refine ab_aload_n' hG 0 _ _ _ _ 0 _ dX6_stay_0 rfl ?_
  refine ab_gR hG 1 _ _ _ _ 7 21 1 0 (22, 0) dX6_stay_1 (List.Mem.head _) rfl ?_
  refine ab_iload_n' hG 4 _ _ _ _ 1 _ dX6_stay_4 rfl ?_
  refine ab_baload' hG 5 _ _ _ _ 22 0 336 _ dX6_stay_5 rfl h.1 ?_
  have h := h.2
  refine ab_if_eq' hG 6 _ _ _ _ (14) 20 _ dX6_stay_6 (by decide) (fun hc => ?_) (fun hc => ?_)
  · have h := h.1 hc
    refine ab_aload_n' hG 20 _ _ _ _ 0 _ dX6_stay_20 rfl ?_
    refine ab_gR hG 21 _ _ _ _ 7 21 1 0 (22, 0) dX6_stay_21 (List.Mem.head _) rfl ?_
    refine ab_iload_n' hG 24 _ _ _ _ 1 _ dX6_stay_24 rfl ?_
    refine ab_baload' hG 25 _ _ _ _ 22 0 336 _ dX6_stay_25 rfl h.1 ?_
    have h := h.2
    refine ab_if_eq' hG 26 _ _ _ _ (7) 33 _ dX6_stay_26 (by decide) (fun hc => ?_) (fun hc => ?_)
    · have h := h.1 hc
      refine ab_iload_n' hG 33 _ _ _ _ 2 _ dX6_stay_33 rfl ?_
      refine ab_istore' hG 34 _ _ _ _ 4 _ dX6_stay_34 (Nat.le_of_ble_eq_true rfl) ?_
      refine ab_aload_n' hG 36 _ _ _ _ 0 _ dX6_stay_36 rfl ?_
      refine ab_gR hG 37 _ _ _ _ 7 21 1 0 (22, 0) dX6_stay_37 (List.Mem.head _) rfl ?_
      refine ab_iload' hG 40 _ _ _ _ 4 _ dX6_stay_40 rfl ?_
      refine ab_baload' hG 42 _ _ _ _ 22 0 336 _ dX6_stay_42 rfl h.1 ?_
      have h := h.2
      refine ab_if_ne' hG 43 _ _ _ _ (5) 48 _ dX6_stay_43 (by decide) (fun hc => ?_) (fun hc => ?_)
      · have h := h.2 hc
        refine ab_aload_n' hG 48 _ _ _ _ 0 _ dX6_stay_48 rfl ?_
        refine ab_gR hG 49 _ _ _ _ 7 21 1 0 (22, 0) dX6_stay_49 (List.Mem.head _) rfl ?_
        refine ab_iload_n' hG 52 _ _ _ _ 3 _ dX6_stay_52 rfl ?_
        refine ab_baload' hG 53 _ _ _ _ 22 0 336 _ dX6_stay_53 rfl h.1 ?_
        have h := h.2
        refine ab_if_ne' hG 54 _ _ _ _ (5) 59 _ dX6_stay_54 (by decide) (fun hc => ?_) (fun hc => ?_)
        · have h := h.2 hc
          refine ab_aload_n' hG 59 _ _ _ _ 0 _ dX6_stay_59 rfl ?_
          refine ab_gR hG 60 _ _ _ _ 13 21 2 0 (23, 0) dX6_stay_60 (List.Mem.tail _ (List.Mem.head _)) rfl ?_
          refine ab_iload_n' hG 63 _ _ _ _ 3 _ dX6_stay_63 rfl ?_
          refine ab_iaload' hG 64 _ _ _ _ 23 0 336 _ dX6_stay_64 rfl h.1 ?_
          have h := h.2
          refine ab_aload_n' hG 65 _ _ _ _ 0 _ dX6_stay_65 rfl ?_
          refine ab_gR hG 66 _ _ _ _ 13 21 2 0 (23, 0) dX6_stay_66 (List.Mem.tail _ (List.Mem.head _)) rfl ?_
          refine ab_iload' hG 69 _ _ _ _ 4 _ dX6_stay_69 rfl ?_
          refine ab_iaload' hG 71 _ _ _ _ 23 0 336 _ dX6_stay_71 rfl h.1 ?_
          have h := h.2
          refine ab_icmp_ne' hG 72 _ _ _ _ (23) 95 _ _ dX6_stay_72 (by decide) (fun hc => ?_) (fun hc => ?_)
          · have h := h.2 hc
            refine ab_iconst' hG 95 _ _ _ _ 2 2 dX6_stay_95 (by decide) ?_
            exact ab_ireturn' hG 96 _ _ _ _ dX6_stay_96 (Or.inl rfl) (by decide) h
          · have h := h.1 hc
            refine ab_aload_n' hG 75 _ _ _ _ 0 _ dX6_stay_75 rfl ?_
            refine ab_gR hG 76 _ _ _ _ 17 21 3 0 (24, 0) dX6_stay_76 (List.Mem.tail _ (List.Mem.tail _ (List.Mem.head _))) rfl ?_
            refine ab_iload_n' hG 79 _ _ _ _ 3 _ dX6_stay_79 rfl ?_
            refine ab_iaload' hG 80 _ _ _ _ 24 0 336 _ dX6_stay_80 rfl h.1 ?_
            have h := h.2
            refine ab_aload_n' hG 81 _ _ _ _ 0 _ dX6_stay_81 rfl ?_
            refine ab_gR hG 82 _ _ _ _ 17 21 3 0 (24, 0) dX6_stay_82 (List.Mem.tail _ (List.Mem.tail _ (List.Mem.head _))) rfl ?_
            refine ab_iload' hG 85 _ _ _ _ 4 _ dX6_stay_85 rfl ?_
            refine ab_iaload' hG 87 _ _ _ _ 24 0 336 _ dX6_stay_87 rfl h.1 ?_
            have h := h.2
            refine ab_icmp_ne' hG 88 _ _ _ _ (7) 95 _ _ dX6_stay_88 (by decide) (fun hc => ?_) (fun hc => ?_)
            · have h := h.2 hc
              refine ab_iconst' hG 95 _ _ _ _ 2 2 dX6_stay_95 (by decide) ?_
              exact ab_ireturn' hG 96 _ _ _ _ dX6_stay_96 (Or.inl rfl) (by decide) h
            · have h := h.1 hc
              refine ab_iconst' hG 91 _ _ _ _ 0 0 dX6_stay_91 (by decide) ?_
              refine ab_goto' hG 92 _ _ _ _ (4) 96 dX6_stay_92 (by decide) ?_
              exact ab_ireturn' hG 96 _ _ _ _ dX6_stay_96 (Or.inl rfl) (by decide) h
        · have h := h.1 hc
          refine ab_iconst' hG 57 _ _ _ _ 1 1 dX6_stay_57 (by decide) ?_
          exact ab_ireturn' hG 58 _ _ _ _ dX6_stay_58 (Or.inl rfl) (by decide) h
      · have h := h.1 hc
        refine ab_iconst' hG 46 _ _ _ _ 0 0 dX6_stay_46 (by decide) ?_
        exact ab_ireturn' hG 47 _ _ _ _ dX6_stay_47 (Or.inl rfl) (by decide) h
    · have h := h.2 hc
      refine ab_iload_n' hG 29 _ _ _ _ 1 _ dX6_stay_29 rfl ?_
      refine ab_goto' hG 30 _ _ _ _ (4) 34 dX6_stay_30 (by decide) ?_
      refine ab_istore' hG 34 _ _ _ _ 4 _ dX6_stay_34 (Nat.le_of_ble_eq_true rfl) ?_
      refine ab_aload_n' hG 36 _ _ _ _ 0 _ dX6_stay_36 rfl ?_
      refine ab_gR hG 37 _ _ _ _ 7 21 1 0 (22, 0) dX6_stay_37 (List.Mem.head _) rfl ?_
      refine ab_iload' hG 40 _ _ _ _ 4 _ dX6_stay_40 rfl ?_
      refine ab_baload' hG 42 _ _ _ _ 22 0 336 _ dX6_stay_42 rfl h.1 ?_
      have h := h.2
      refine ab_if_ne' hG 43 _ _ _ _ (5) 48 _ dX6_stay_43 (by decide) (fun hc => ?_) (fun hc => ?_)
      · have h := h.2 hc
        refine ab_aload_n' hG 48 _ _ _ _ 0 _ dX6_stay_48 rfl ?_
        refine ab_gR hG 49 _ _ _ _ 7 21 1 0 (22, 0) dX6_stay_49 (List.Mem.head _) rfl ?_
        refine ab_iload_n' hG 52 _ _ _ _ 3 _ dX6_stay_52 rfl ?_
        refine ab_baload' hG 53 _ _ _ _ 22 0 336 _ dX6_stay_53 rfl h.1 ?_
        have h := h.2
        refine ab_if_ne' hG 54 _ _ _ _ (5) 59 _ dX6_stay_54 (by decide) (fun hc => ?_) (fun hc => ?_)
        · have h := h.2 hc
          refine ab_aload_n' hG 59 _ _ _ _ 0 _ dX6_stay_59 rfl ?_
          refine ab_gR hG 60 _ _ _ _ 13 21 2 0 (23, 0) dX6_stay_60 (List.Mem.tail _ (List.Mem.head _)) rfl ?_
          refine ab_iload_n' hG 63 _ _ _ _ 3 _ dX6_stay_63 rfl ?_
          refine ab_iaload' hG 64 _ _ _ _ 23 0 336 _ dX6_stay_64 rfl h.1 ?_
          have h := h.2
          refine ab_aload_n' hG 65 _ _ _ _ 0 _ dX6_stay_65 rfl ?_
          refine ab_gR hG 66 _ _ _ _ 13 21 2 0 (23, 0) dX6_stay_66 (List.Mem.tail _ (List.Mem.head _)) rfl ?_
          refine ab_iload' hG 69 _ _ _ _ 4 _ dX6_stay_69 rfl ?_
          refine ab_iaload' hG 71 _ _ _ _ 23 0 336 _ dX6_stay_71 rfl h.1 ?_
          have h := h.2
          refine ab_icmp_ne' hG 72 _ _ _ _ (23) 95 _ _ dX6_stay_72 (by decide) (fun hc => ?_) (fun hc => ?_)
          · have h := h.2 hc
            refine ab_iconst' hG 95 _ _ _ _ 2 2 dX6_stay_95 (by decide) ?_
            exact ab_ireturn' hG 96 _ _ _ _ dX6_stay_96 (Or.inl rfl) (by decide) h
          · have h := h.1 hc
            refine ab_aload_n' hG 75 _ _ _ _ 0 _ dX6_stay_75 rfl ?_
            refine ab_gR hG 76 _ _ _ _ 17 21 3 0 (24, 0) dX6_stay_76 (List.Mem.tail _ (List.Mem.tail _ (List.Mem.head _))) rfl ?_
            refine ab_iload_n' hG 79 _ _ _ _ 3 _ dX6_stay_79 rfl ?_
            refine ab_iaload' hG 80 _ _ _ _ 24 0 336 _ dX6_stay_80 rfl h.1 ?_
            have h := h.2
            refine ab_aload_n' hG 81 _ _ _ _ 0 _ dX6_stay_81 rfl ?_
            refine ab_gR hG 82 _ _ _ _ 17 21 3 0 (24, 0) dX6_stay_82 (List.Mem.tail _ (List.Mem.tail _ (List.Mem.head _))) rfl ?_
            refine ab_iload' hG 85 _ _ _ _ 4 _ dX6_stay_85 rfl ?_
            refine ab_iaload' hG 87 _ _ _ _ 24 0 336 _ dX6_stay_87 rfl h.1 ?_
            have h := h.2
            refine ab_icmp_ne' hG 88 _ _ _ _ (7) 95 _ _ dX6_stay_88 (by decide) (fun hc => ?_) (fun hc => ?_)
            · have h := h.2 hc
              refine ab_iconst' hG 95 _ _ _ _ 2 2 dX6_stay_95 (by decide) ?_
              exact ab_ireturn' hG 96 _ _ _ _ dX6_stay_96 (Or.inl rfl) (by decide) h
            · have h := h.1 hc
              refine ab_iconst' hG 91 _ _ _ _ 0 0 dX6_stay_91 (by decide) ?_
              refine ab_goto' hG 92 _ _ _ _ (4) 96 dX6_stay_92 (by decide) ?_
              exact ab_ireturn' hG 96 _ _ _ _ dX6_stay_96 (Or.inl rfl) (by decide) h
        · have h := h.1 hc
          refine ab_iconst' hG 57 _ _ _ _ 1 1 dX6_stay_57 (by decide) ?_
          exact ab_ireturn' hG 58 _ _ _ _ dX6_stay_58 (Or.inl rfl) (by decide) h
      · have h := h.1 hc
        refine ab_iconst' hG 46 _ _ _ _ 0 0 dX6_stay_46 (by decide) ?_
        exact ab_ireturn' hG 47 _ _ _ _ dX6_stay_47 (Or.inl rfl) (by decide) h
  · have h := h.2 hc
    refine ab_aload_n' hG 9 _ _ _ _ 0 _ dX6_stay_9 rfl ?_
    refine ab_gR hG 10 _ _ _ _ 7 21 1 0 (22, 0) dX6_stay_10 (List.Mem.head _) rfl ?_
    refine ab_iload_n' hG 13 _ _ _ _ 2 _ dX6_stay_13 rfl ?_
    refine ab_baload' hG 14 _ _ _ _ 22 0 336 _ dX6_stay_14 rfl h.1 ?_
    have h := h.2
    refine ab_if_eq' hG 15 _ _ _ _ (5) 20 _ dX6_stay_15 (by decide) (fun hc => ?_) (fun hc => ?_)
    · have h := h.1 hc
      refine ab_aload_n' hG 20 _ _ _ _ 0 _ dX6_stay_20 rfl ?_
      refine ab_gR hG 21 _ _ _ _ 7 21 1 0 (22, 0) dX6_stay_21 (List.Mem.head _) rfl ?_
      refine ab_iload_n' hG 24 _ _ _ _ 1 _ dX6_stay_24 rfl ?_
      refine ab_baload' hG 25 _ _ _ _ 22 0 336 _ dX6_stay_25 rfl h.1 ?_
      have h := h.2
      refine ab_if_eq' hG 26 _ _ _ _ (7) 33 _ dX6_stay_26 (by decide) (fun hc => ?_) (fun hc => ?_)
      · have h := h.1 hc
        refine ab_iload_n' hG 33 _ _ _ _ 2 _ dX6_stay_33 rfl ?_
        refine ab_istore' hG 34 _ _ _ _ 4 _ dX6_stay_34 (Nat.le_of_ble_eq_true rfl) ?_
        refine ab_aload_n' hG 36 _ _ _ _ 0 _ dX6_stay_36 rfl ?_
        refine ab_gR hG 37 _ _ _ _ 7 21 1 0 (22, 0) dX6_stay_37 (List.Mem.head _) rfl ?_
        refine ab_iload' hG 40 _ _ _ _ 4 _ dX6_stay_40 rfl ?_
        refine ab_baload' hG 42 _ _ _ _ 22 0 336 _ dX6_stay_42 rfl h.1 ?_
        have h := h.2
        refine ab_if_ne' hG 43 _ _ _ _ (5) 48 _ dX6_stay_43 (by decide) (fun hc => ?_) (fun hc => ?_)
        · have h := h.2 hc
          refine ab_aload_n' hG 48 _ _ _ _ 0 _ dX6_stay_48 rfl ?_
          refine ab_gR hG 49 _ _ _ _ 7 21 1 0 (22, 0) dX6_stay_49 (List.Mem.head _) rfl ?_
          refine ab_iload_n' hG 52 _ _ _ _ 3 _ dX6_stay_52 rfl ?_
          refine ab_baload' hG 53 _ _ _ _ 22 0 336 _ dX6_stay_53 rfl h.1 ?_
          have h := h.2
          refine ab_if_ne' hG 54 _ _ _ _ (5) 59 _ dX6_stay_54 (by decide) (fun hc => ?_) (fun hc => ?_)
          · have h := h.2 hc
            refine ab_aload_n' hG 59 _ _ _ _ 0 _ dX6_stay_59 rfl ?_
            refine ab_gR hG 60 _ _ _ _ 13 21 2 0 (23, 0) dX6_stay_60 (List.Mem.tail _ (List.Mem.head _)) rfl ?_
            refine ab_iload_n' hG 63 _ _ _ _ 3 _ dX6_stay_63 rfl ?_
            refine ab_iaload' hG 64 _ _ _ _ 23 0 336 _ dX6_stay_64 rfl h.1 ?_
            have h := h.2
            refine ab_aload_n' hG 65 _ _ _ _ 0 _ dX6_stay_65 rfl ?_
            refine ab_gR hG 66 _ _ _ _ 13 21 2 0 (23, 0) dX6_stay_66 (List.Mem.tail _ (List.Mem.head _)) rfl ?_
            refine ab_iload' hG 69 _ _ _ _ 4 _ dX6_stay_69 rfl ?_
            refine ab_iaload' hG 71 _ _ _ _ 23 0 336 _ dX6_stay_71 rfl h.1 ?_
            have h := h.2
            refine ab_icmp_ne' hG 72 _ _ _ _ (23) 95 _ _ dX6_stay_72 (by decide) (fun hc => ?_) (fun hc => ?_)
            · have h := h.2 hc
              refine ab_iconst' hG 95 _ _ _ _ 2 2 dX6_stay_95 (by decide) ?_
              exact ab_ireturn' hG 96 _ _ _ _ dX6_stay_96 (Or.inl rfl) (by decide) h
            · have h := h.1 hc
              refine ab_aload_n' hG 75 _ _ _ _ 0 _ dX6_stay_75 rfl ?_
              refine ab_gR hG 76 _ _ _ _ 17 21 3 0 (24, 0) dX6_stay_76 (List.Mem.tail _ (List.Mem.tail _ (List.Mem.head _))) rfl ?_
              refine ab_iload_n' hG 79 _ _ _ _ 3 _ dX6_stay_79 rfl ?_
              refine ab_iaload' hG 80 _ _ _ _ 24 0 336 _ dX6_stay_80 rfl h.1 ?_
              have h := h.2
              refine ab_aload_n' hG 81 _ _ _ _ 0 _ dX6_stay_81 rfl ?_
              refine ab_gR hG 82 _ _ _ _ 17 21 3 0 (24, 0) dX6_stay_82 (List.Mem.tail _ (List.Mem.tail _ (List.Mem.head _))) rfl ?_
              refine ab_iload' hG 85 _ _ _ _ 4 _ dX6_stay_85 rfl ?_
              refine ab_iaload' hG 87 _ _ _ _ 24 0 336 _ dX6_stay_87 rfl h.1 ?_
              have h := h.2
              refine ab_icmp_ne' hG 88 _ _ _ _ (7) 95 _ _ dX6_stay_88 (by decide) (fun hc => ?_) (fun hc => ?_)
              · have h := h.2 hc
                refine ab_iconst' hG 95 _ _ _ _ 2 2 dX6_stay_95 (by decide) ?_
                exact ab_ireturn' hG 96 _ _ _ _ dX6_stay_96 (Or.inl rfl) (by decide) h
              · have h := h.1 hc
                refine ab_iconst' hG 91 _ _ _ _ 0 0 dX6_stay_91 (by decide) ?_
                refine ab_goto' hG 92 _ _ _ _ (4) 96 dX6_stay_92 (by decide) ?_
                exact ab_ireturn' hG 96 _ _ _ _ dX6_stay_96 (Or.inl rfl) (by decide) h
          · have h := h.1 hc
            refine ab_iconst' hG 57 _ _ _ _ 1 1 dX6_stay_57 (by decide) ?_
            exact ab_ireturn' hG 58 _ _ _ _ dX6_stay_58 (Or.inl rfl) (by decide) h
        · have h := h.1 hc
          refine ab_iconst' hG 46 _ _ _ _ 0 0 dX6_stay_46 (by decide) ?_
          exact ab_ireturn' hG 47 _ _ _ _ dX6_stay_47 (Or.inl rfl) (by decide) h
      · have h := h.2 hc
        refine ab_iload_n' hG 29 _ _ _ _ 1 _ dX6_stay_29 rfl ?_
        refine ab_goto' hG 30 _ _ _ _ (4) 34 dX6_stay_30 (by decide) ?_
        refine ab_istore' hG 34 _ _ _ _ 4 _ dX6_stay_34 (Nat.le_of_ble_eq_true rfl) ?_
        refine ab_aload_n' hG 36 _ _ _ _ 0 _ dX6_stay_36 rfl ?_
        refine ab_gR hG 37 _ _ _ _ 7 21 1 0 (22, 0) dX6_stay_37 (List.Mem.head _) rfl ?_
        refine ab_iload' hG 40 _ _ _ _ 4 _ dX6_stay_40 rfl ?_
        refine ab_baload' hG 42 _ _ _ _ 22 0 336 _ dX6_stay_42 rfl h.1 ?_
        have h := h.2
        refine ab_if_ne' hG 43 _ _ _ _ (5) 48 _ dX6_stay_43 (by decide) (fun hc => ?_) (fun hc => ?_)
        · have h := h.2 hc
          refine ab_aload_n' hG 48 _ _ _ _ 0 _ dX6_stay_48 rfl ?_
          refine ab_gR hG 49 _ _ _ _ 7 21 1 0 (22, 0) dX6_stay_49 (List.Mem.head _) rfl ?_
          refine ab_iload_n' hG 52 _ _ _ _ 3 _ dX6_stay_52 rfl ?_
          refine ab_baload' hG 53 _ _ _ _ 22 0 336 _ dX6_stay_53 rfl h.1 ?_
          have h := h.2
          refine ab_if_ne' hG 54 _ _ _ _ (5) 59 _ dX6_stay_54 (by decide) (fun hc => ?_) (fun hc => ?_)
          · have h := h.2 hc
            refine ab_aload_n' hG 59 _ _ _ _ 0 _ dX6_stay_59 rfl ?_
            refine ab_gR hG 60 _ _ _ _ 13 21 2 0 (23, 0) dX6_stay_60 (List.Mem.tail _ (List.Mem.head _)) rfl ?_
            refine ab_iload_n' hG 63 _ _ _ _ 3 _ dX6_stay_63 rfl ?_
            refine ab_iaload' hG 64 _ _ _ _ 23 0 336 _ dX6_stay_64 rfl h.1 ?_
            have h := h.2
            refine ab_aload_n' hG 65 _ _ _ _ 0 _ dX6_stay_65 rfl ?_
            refine ab_gR hG 66 _ _ _ _ 13 21 2 0 (23, 0) dX6_stay_66 (List.Mem.tail _ (List.Mem.head _)) rfl ?_
            refine ab_iload' hG 69 _ _ _ _ 4 _ dX6_stay_69 rfl ?_
            refine ab_iaload' hG 71 _ _ _ _ 23 0 336 _ dX6_stay_71 rfl h.1 ?_
            have h := h.2
            refine ab_icmp_ne' hG 72 _ _ _ _ (23) 95 _ _ dX6_stay_72 (by decide) (fun hc => ?_) (fun hc => ?_)
            · have h := h.2 hc
              refine ab_iconst' hG 95 _ _ _ _ 2 2 dX6_stay_95 (by decide) ?_
              exact ab_ireturn' hG 96 _ _ _ _ dX6_stay_96 (Or.inl rfl) (by decide) h
            · have h := h.1 hc
              refine ab_aload_n' hG 75 _ _ _ _ 0 _ dX6_stay_75 rfl ?_
              refine ab_gR hG 76 _ _ _ _ 17 21 3 0 (24, 0) dX6_stay_76 (List.Mem.tail _ (List.Mem.tail _ (List.Mem.head _))) rfl ?_
              refine ab_iload_n' hG 79 _ _ _ _ 3 _ dX6_stay_79 rfl ?_
              refine ab_iaload' hG 80 _ _ _ _ 24 0 336 _ dX6_stay_80 rfl h.1 ?_
              have h := h.2
              refine ab_aload_n' hG 81 _ _ _ _ 0 _ dX6_stay_81 rfl ?_
              refine ab_gR hG 82 _ _ _ _ 17 21 3 0 (24, 0) dX6_stay_82 (List.Mem.tail _ (List.Mem.tail _ (List.Mem.head _))) rfl ?_
              refine ab_iload' hG 85 _ _ _ _ 4 _ dX6_stay_85 rfl ?_
              refine ab_iaload' hG 87 _ _ _ _ 24 0 336 _ dX6_stay_87 rfl h.1 ?_
              have h := h.2
              refine ab_icmp_ne' hG 88 _ _ _ _ (7) 95 _ _ dX6_stay_88 (by decide) (fun hc => ?_) (fun hc => ?_)
              · have h := h.2 hc
                refine ab_iconst' hG 95 _ _ _ _ 2 2 dX6_stay_95 (by decide) ?_
                exact ab_ireturn' hG 96 _ _ _ _ dX6_stay_96 (Or.inl rfl) (by decide) h
              · have h := h.1 hc
                refine ab_iconst' hG 91 _ _ _ _ 0 0 dX6_stay_91 (by decide) ?_
                refine ab_goto' hG 92 _ _ _ _ (4) 96 dX6_stay_92 (by decide) ?_
                exact ab_ireturn' hG 96 _ _ _ _ dX6_stay_96 (Or.inl rfl) (by decide) h
          · have h := h.1 hc
            refine ab_iconst' hG 57 _ _ _ _ 1 1 dX6_stay_57 (by decide) ?_
            exact ab_ireturn' hG 58 _ _ _ _ dX6_stay_58 (Or.inl rfl) (by decide) h
        · have h := h.1 hc
          refine ab_iconst' hG 46 _ _ _ _ 0 0 dX6_stay_46 (by decide) ?_
          exact ab_ireturn' hG 47 _ _ _ _ dX6_stay_47 (Or.inl rfl) (by decide) h
    · have h := h.2 hc
      refine ab_iconst' hG 18 _ _ _ _ 1 1 dX6_stay_18 (by decide) ?_
      exact ab_ireturn' hG 19 _ _ _ _ dX6_stay_19 (Or.inl rfl) (by decide) h
