theorem bl_X6_found_0 {Q : ab_Po} {G : ab_Gt} (hG : ab_Cl M_X6_found Q G) (x1 : Int32) (S : ab_S) (h : G 4 [some (.inr (21, 0)), some (.inl x1), some (.inl (1 : Int32)), some (.inl (0 : Int32)), none, none, none, none, none] [] S 0) : G 0 [some (.inr (21, 0)), some (.inl x1), none, none, none, none, none, none, none] [] S 0 := by
  refine ab_iconst' hG 0 _ _ _ _ 1 1 dX6_found_0 (by decide) ?_
  refine ab_istore_n' hG 1 _ _ _ _ 2 _ dX6_found_1 (Nat.le_of_ble_eq_true rfl) ?_
  refine ab_iconst' hG 2 _ _ _ _ 0 0 dX6_found_2 (by decide) ?_
  refine ab_istore_n' hG 3 _ _ _ _ 3 _ dX6_found_3 (Nat.le_of_ble_eq_true rfl) ?_
  exact h
theorem bl_X6_found_4 {Q : ab_Po} {G : ab_Gt} (hG : ab_Cl M_X6_found Q G) (x1 : Int32) (x2 : Int32) (x3 : Int32) (S : ab_S) (h : ((6 : Int32) ≤ x3 → Q (.inl (some x2)) S) ∧ (¬ (6 : Int32) ≤ x3 → (((x1 >>> (((5 : Int32) * x3) &&& 31)) &&& (3 : Int32)) = 0 → Q (.inl (some x2)) S) ∧ (¬ ((x1 >>> (((5 : Int32) * x3) &&& 31)) &&& (3 : Int32)) = 0 → G 47 [some (.inr (21, 0)), some (.inl x1), some (.inl x2), some (.inl x3), some (.inl ((x1 >>> (((5 : Int32) * x3) &&& 31)) &&& (3 : Int32))), some (.inl ((x1 >>> ((((5 : Int32) * x3) + (2 : Int32)) &&& 31)) &&& (7 : Int32))), some (.inl (0 : Int32)), some (.inl (0 : Int32)), none] [] S 0))) : G 4 [some (.inr (21, 0)), some (.inl x1), some (.inl x2), some (.inl x3), none, none, none, none, none] [] S 0 := by
  refine ab_iload_n' hG 4 _ _ _ _ 3 _ dX6_found_4 rfl ?_
  refine ab_bipush' hG 5 _ _ _ _ 6 6 dX6_found_5 (by decide) ?_
  refine ab_icmp_ge' hG 7 _ _ _ _ (136) 143 _ _ dX6_found_7 (by decide) (fun hc => ?_) (fun hc => ?_)
  · have h := h.1 hc
    refine ab_iload_n' hG 143 _ _ _ _ 2 _ dX6_found_143 rfl ?_
    exact ab_ireturn' hG 144 _ _ _ _ dX6_found_144 (Or.inl rfl) (by decide) h
  · have h := h.2 hc
    refine ab_iload_n' hG 10 _ _ _ _ 1 _ dX6_found_10 rfl ?_
    refine ab_iconst' hG 11 _ _ _ _ 5 5 dX6_found_11 (by decide) ?_
    refine ab_iload_n' hG 12 _ _ _ _ 3 _ dX6_found_12 rfl ?_
    refine ab_imul' hG 13 _ _ _ _ _ _ dX6_found_13 ?_
    refine ab_ishr' hG 14 _ _ _ _ _ _ dX6_found_14 ?_
    refine ab_iconst' hG 15 _ _ _ _ 3 3 dX6_found_15 (by decide) ?_
    refine ab_iand' hG 16 _ _ _ _ _ _ dX6_found_16 ?_
    refine ab_if_eq' hG 17 _ _ _ _ (126) 143 _ dX6_found_17 (by decide) (fun hc => ?_) (fun hc => ?_)
    · have h := h.1 hc
      refine ab_iload_n' hG 143 _ _ _ _ 2 _ dX6_found_143 rfl ?_
      exact ab_ireturn' hG 144 _ _ _ _ dX6_found_144 (Or.inl rfl) (by decide) h
    · have h := h.2 hc
      refine ab_iload_n' hG 20 _ _ _ _ 1 _ dX6_found_20 rfl ?_
      refine ab_iconst' hG 21 _ _ _ _ 5 5 dX6_found_21 (by decide) ?_
      refine ab_iload_n' hG 22 _ _ _ _ 3 _ dX6_found_22 rfl ?_
      refine ab_imul' hG 23 _ _ _ _ _ _ dX6_found_23 ?_
      refine ab_ishr' hG 24 _ _ _ _ _ _ dX6_found_24 ?_
      refine ab_iconst' hG 25 _ _ _ _ 3 3 dX6_found_25 (by decide) ?_
      refine ab_iand' hG 26 _ _ _ _ _ _ dX6_found_26 ?_
      refine ab_istore' hG 27 _ _ _ _ 4 _ dX6_found_27 (Nat.le_of_ble_eq_true rfl) ?_
      refine ab_iload_n' hG 29 _ _ _ _ 1 _ dX6_found_29 rfl ?_
      refine ab_iconst' hG 30 _ _ _ _ 5 5 dX6_found_30 (by decide) ?_
      refine ab_iload_n' hG 31 _ _ _ _ 3 _ dX6_found_31 rfl ?_
      refine ab_imul' hG 32 _ _ _ _ _ _ dX6_found_32 ?_
      refine ab_iconst' hG 33 _ _ _ _ 2 2 dX6_found_33 (by decide) ?_
      refine ab_iadd' hG 34 _ _ _ _ _ _ dX6_found_34 ?_
      refine ab_ishr' hG 35 _ _ _ _ _ _ dX6_found_35 ?_
      refine ab_bipush' hG 36 _ _ _ _ 7 7 dX6_found_36 (by decide) ?_
      refine ab_iand' hG 38 _ _ _ _ _ _ dX6_found_38 ?_
      refine ab_istore' hG 39 _ _ _ _ 5 _ dX6_found_39 (Nat.le_of_ble_eq_true rfl) ?_
      refine ab_iconst' hG 41 _ _ _ _ 0 0 dX6_found_41 (by decide) ?_
      refine ab_istore' hG 42 _ _ _ _ 6 _ dX6_found_42 (Nat.le_of_ble_eq_true rfl) ?_
      refine ab_iconst' hG 44 _ _ _ _ 0 0 dX6_found_44 (by decide) ?_
      refine ab_istore' hG 45 _ _ _ _ 7 _ dX6_found_45 (Nat.le_of_ble_eq_true rfl) ?_
      exact h
theorem bl_X6_found_47 {Q : ab_Po} {G : ab_Gt} (hG : ab_Cl M_X6_found Q G) (x1 : Int32) (x2 : Int32) (x3 : Int32) (x4 : Int32) (x5 : Int32) (x6 : Int32) (x7 : Int32) (S : ab_S) (h : ((24 : Int32) ≤ x7 → G 4 [some (.inr (21, 0)), some (.inl x1), some (.inl x6), some (.inl (x3 + 1)), none, none, none, none, none] [] S 0) ∧ (¬ (24 : Int32) ≤ x7 → vp_in ((288 : Int32) + x7) 336 ∧ ((S 22 0 ((288 : Int32) + x7).toNatClampNeg) = 0 → ((0 : Int32) = 0 → G 47 [some (.inr (21, 0)), some (.inl x1), some (.inl x2), some (.inl x3), some (.inl x4), some (.inl x5), some (.inl x6), some (.inl (x7 + 1)), none] [] S 0) ∧ (¬ (0 : Int32) = 0 → Sp_X6_isFound [(.inr (21, 0)), (.inl x7), (.inl x4), (.inl x2)] S (ab_back Q G 111 [some (.inr (21, 0)), some (.inl x1), some (.inl x2), some (.inl x3), some (.inl x4), some (.inl x5), some (.inl x6), some (.inl x7), some (.inl (0 : Int32))] [] 0))) ∧ (¬ (S 22 0 ((288 : Int32) + x7).toNatClampNeg) = 0 → ((5 : Int32) < x5 → ((1 : Int32) = 0 → G 47 [some (.inr (21, 0)), some (.inl x1), some (.inl x2), some (.inl x3), some (.inl x4), some (.inl x5), some (.inl x6), some (.inl (x7 + 1)), none] [] S 0) ∧ (¬ (1 : Int32) = 0 → Sp_X6_isFound [(.inr (21, 0)), (.inl x7), (.inl x4), (.inl x2)] S (ab_back Q G 111 [some (.inr (21, 0)), some (.inl x1), some (.inl x2), some (.inl x3), some (.inl x4), some (.inl x5), some (.inl x6), some (.inl x7), some (.inl (1 : Int32))] [] 0))) ∧ (¬ (5 : Int32) < x5 → vp_in ((288 : Int32) + x7) 336 ∧ ((S 23 0 ((288 : Int32) + x7).toNatClampNeg) = x5 → ((1 : Int32) = 0 → G 47 [some (.inr (21, 0)), some (.inl x1), some (.inl x2), some (.inl x3), some (.inl x4), some (.inl x5), some (.inl x6), some (.inl (x7 + 1)), none] [] S 0) ∧ (¬ (1 : Int32) = 0 → Sp_X6_isFound [(.inr (21, 0)), (.inl x7), (.inl x4), (.inl x2)] S (ab_back Q G 111 [some (.inr (21, 0)), some (.inl x1), some (.inl x2), some (.inl x3), some (.inl x4), some (.inl x5), some (.inl x6), some (.inl x7), some (.inl (1 : Int32))] [] 0))) ∧ (¬ (S 23 0 ((288 : Int32) + x7).toNatClampNeg) = x5 → ((0 : Int32) = 0 → G 47 [some (.inr (21, 0)), some (.inl x1), some (.inl x2), some (.inl x3), some (.inl x4), some (.inl x5), some (.inl x6), some (.inl (x7 + 1)), none] [] S 0) ∧ (¬ (0 : Int32) = 0 → Sp_X6_isFound [(.inr (21, 0)), (.inl x7), (.inl x4), (.inl x2)] S (ab_back Q G 111 [some (.inr (21, 0)), some (.inl x1), some (.inl x2), some (.inl x3), some (.inl x4), some (.inl x5), some (.inl x6), some (.inl x7), some (.inl (0 : Int32))] [] 0))))))) : G 47 [some (.inr (21, 0)), some (.inl x1), some (.inl x2), some (.inl x3), some (.inl x4), some (.inl x5), some (.inl x6), some (.inl x7), none] [] S 0 := by
  refine ab_iload' hG 47 _ _ _ _ 7 _ dX6_found_47 rfl ?_
  refine ab_bipush' hG 49 _ _ _ _ 24 24 dX6_found_49 (by decide) ?_
  refine ab_icmp_ge' hG 51 _ _ _ _ (83) 134 _ _ dX6_found_51 (by decide) (fun hc => ?_) (fun hc => ?_)
  · have h := h.1 hc
    refine ab_iload' hG 134 _ _ _ _ 6 _ dX6_found_134 rfl ?_
    refine ab_istore_n' hG 136 _ _ _ _ 2 _ dX6_found_136 (Nat.le_of_ble_eq_true rfl) ?_
    refine ab_iinc' hG 137 _ _ _ _ 3 1 _ _ dX6_found_137 rfl rfl ?_
    refine ab_goto' hG 140 _ _ _ _ (-136) 4 dX6_found_140 (by decide) ?_
    refine ab_forget' hG _ _ _ _ _ 4 ?_
    refine ab_forget' hG _ _ _ _ _ 5 ?_
    refine ab_forget' hG _ _ _ _ _ 6 ?_
    refine ab_forget' hG _ _ _ _ _ 7 ?_
    exact h
  · have h := h.2 hc
    refine ab_aload_n' hG 54 _ _ _ _ 0 _ dX6_found_54 rfl ?_
    refine ab_gR hG 55 _ _ _ _ 7 21 1 0 (22, 0) dX6_found_55 (List.Mem.head _) rfl ?_
    refine ab_sipush' hG 58 _ _ _ _ 288 288 dX6_found_58 (by decide) ?_
    refine ab_iload' hG 61 _ _ _ _ 7 _ dX6_found_61 rfl ?_
    refine ab_iadd' hG 63 _ _ _ _ _ _ dX6_found_63 ?_
    refine ab_baload' hG 64 _ _ _ _ 22 0 336 _ dX6_found_64 rfl h.1 ?_
    have h := h.2
    refine ab_if_eq' hG 65 _ _ _ _ (29) 94 _ dX6_found_65 (by decide) (fun hc => ?_) (fun hc => ?_)
    · have h := h.1 hc
      refine ab_iconst' hG 94 _ _ _ _ 0 0 dX6_found_94 (by decide) ?_
      refine ab_istore' hG 95 _ _ _ _ 8 _ dX6_found_95 (Nat.le_of_ble_eq_true rfl) ?_
      refine ab_iload' hG 97 _ _ _ _ 8 _ dX6_found_97 rfl ?_
      refine ab_if_eq' hG 99 _ _ _ _ (25) 124 _ dX6_found_99 (by decide) (fun hc => ?_) (fun hc => ?_)
      · have h := h.1 hc
        refine ab_iload' hG 124 _ _ _ _ 6 _ dX6_found_124 rfl ?_
        refine ab_istore' hG 126 _ _ _ _ 6 _ dX6_found_126 (Nat.le_of_ble_eq_true rfl) ?_
        refine ab_iinc' hG 128 _ _ _ _ 7 1 _ _ dX6_found_128 rfl rfl ?_
        refine ab_goto' hG 131 _ _ _ _ (-84) 47 dX6_found_131 (by decide) ?_
        refine ab_forget' hG _ _ _ _ _ 8 ?_
        exact h
      · have h := h.2 hc
        refine ab_aload_n' hG 102 _ _ _ _ 0 _ dX6_found_102 rfl ?_
        refine ab_iload' hG 103 _ _ _ _ 7 _ dX6_found_103 rfl ?_
        refine ab_iload' hG 105 _ _ _ _ 4 _ dX6_found_105 rfl ?_
        refine ab_iload_n' hG 107 _ _ _ _ 2 _ dX6_found_107 rfl ?_
        exact ab_invv' hG 108 _ [_, _, _] _ _ 0 175 _ 3 1 0 _ (21, _) dX6_found_108 rfl rfl rfl rfl (Nat.le_of_ble_eq_true rfl) (Nat.le_of_ble_eq_true rfl) h
    · have h := h.2 hc
      refine ab_iload' hG 68 _ _ _ _ 5 _ dX6_found_68 rfl ?_
      refine ab_iconst' hG 70 _ _ _ _ 5 5 dX6_found_70 (by decide) ?_
      refine ab_icmp_gt' hG 71 _ _ _ _ (19) 90 _ _ dX6_found_71 (by decide) (fun hc => ?_) (fun hc => ?_)
      · have h := h.1 hc
        refine ab_iconst' hG 90 _ _ _ _ 1 1 dX6_found_90 (by decide) ?_
        refine ab_goto' hG 91 _ _ _ _ (4) 95 dX6_found_91 (by decide) ?_
        refine ab_istore' hG 95 _ _ _ _ 8 _ dX6_found_95 (Nat.le_of_ble_eq_true rfl) ?_
        refine ab_iload' hG 97 _ _ _ _ 8 _ dX6_found_97 rfl ?_
        refine ab_if_eq' hG 99 _ _ _ _ (25) 124 _ dX6_found_99 (by decide) (fun hc => ?_) (fun hc => ?_)
        · have h := h.1 hc
          refine ab_iload' hG 124 _ _ _ _ 6 _ dX6_found_124 rfl ?_
          refine ab_istore' hG 126 _ _ _ _ 6 _ dX6_found_126 (Nat.le_of_ble_eq_true rfl) ?_
          refine ab_iinc' hG 128 _ _ _ _ 7 1 _ _ dX6_found_128 rfl rfl ?_
          refine ab_goto' hG 131 _ _ _ _ (-84) 47 dX6_found_131 (by decide) ?_
          refine ab_forget' hG _ _ _ _ _ 8 ?_
          exact h
        · have h := h.2 hc
          refine ab_aload_n' hG 102 _ _ _ _ 0 _ dX6_found_102 rfl ?_
          refine ab_iload' hG 103 _ _ _ _ 7 _ dX6_found_103 rfl ?_
          refine ab_iload' hG 105 _ _ _ _ 4 _ dX6_found_105 rfl ?_
          refine ab_iload_n' hG 107 _ _ _ _ 2 _ dX6_found_107 rfl ?_
          exact ab_invv' hG 108 _ [_, _, _] _ _ 0 175 _ 3 1 0 _ (21, _) dX6_found_108 rfl rfl rfl rfl (Nat.le_of_ble_eq_true rfl) (Nat.le_of_ble_eq_true rfl) h
      · have h := h.2 hc
        refine ab_aload_n' hG 74 _ _ _ _ 0 _ dX6_found_74 rfl ?_
        refine ab_gR hG 75 _ _ _ _ 13 21 2 0 (23, 0) dX6_found_75 (List.Mem.tail _ (List.Mem.head _)) rfl ?_
        refine ab_sipush' hG 78 _ _ _ _ 288 288 dX6_found_78 (by decide) ?_
        refine ab_iload' hG 81 _ _ _ _ 7 _ dX6_found_81 rfl ?_
        refine ab_iadd' hG 83 _ _ _ _ _ _ dX6_found_83 ?_
        refine ab_iaload' hG 84 _ _ _ _ 23 0 336 _ dX6_found_84 rfl h.1 ?_
        have h := h.2
        refine ab_iload' hG 85 _ _ _ _ 5 _ dX6_found_85 rfl ?_
        refine ab_icmp_ne' hG 87 _ _ _ _ (7) 94 _ _ dX6_found_87 (by decide) (fun hc => ?_) (fun hc => ?_)
        · have h := h.2 hc
          refine ab_iconst' hG 94 _ _ _ _ 0 0 dX6_found_94 (by decide) ?_
          refine ab_istore' hG 95 _ _ _ _ 8 _ dX6_found_95 (Nat.le_of_ble_eq_true rfl) ?_
          refine ab_iload' hG 97 _ _ _ _ 8 _ dX6_found_97 rfl ?_
          refine ab_if_eq' hG 99 _ _ _ _ (25) 124 _ dX6_found_99 (by decide) (fun hc => ?_) (fun hc => ?_)
          · have h := h.1 hc
            refine ab_iload' hG 124 _ _ _ _ 6 _ dX6_found_124 rfl ?_
            refine ab_istore' hG 126 _ _ _ _ 6 _ dX6_found_126 (Nat.le_of_ble_eq_true rfl) ?_
            refine ab_iinc' hG 128 _ _ _ _ 7 1 _ _ dX6_found_128 rfl rfl ?_
            refine ab_goto' hG 131 _ _ _ _ (-84) 47 dX6_found_131 (by decide) ?_
            refine ab_forget' hG _ _ _ _ _ 8 ?_
            exact h
          · have h := h.2 hc
            refine ab_aload_n' hG 102 _ _ _ _ 0 _ dX6_found_102 rfl ?_
            refine ab_iload' hG 103 _ _ _ _ 7 _ dX6_found_103 rfl ?_
            refine ab_iload' hG 105 _ _ _ _ 4 _ dX6_found_105 rfl ?_
            refine ab_iload_n' hG 107 _ _ _ _ 2 _ dX6_found_107 rfl ?_
            exact ab_invv' hG 108 _ [_, _, _] _ _ 0 175 _ 3 1 0 _ (21, _) dX6_found_108 rfl rfl rfl rfl (Nat.le_of_ble_eq_true rfl) (Nat.le_of_ble_eq_true rfl) h
        · have h := h.1 hc
          refine ab_iconst' hG 90 _ _ _ _ 1 1 dX6_found_90 (by decide) ?_
          refine ab_goto' hG 91 _ _ _ _ (4) 95 dX6_found_91 (by decide) ?_
          refine ab_istore' hG 95 _ _ _ _ 8 _ dX6_found_95 (Nat.le_of_ble_eq_true rfl) ?_
          refine ab_iload' hG 97 _ _ _ _ 8 _ dX6_found_97 rfl ?_
          refine ab_if_eq' hG 99 _ _ _ _ (25) 124 _ dX6_found_99 (by decide) (fun hc => ?_) (fun hc => ?_)
          · have h := h.1 hc
            refine ab_iload' hG 124 _ _ _ _ 6 _ dX6_found_124 rfl ?_
            refine ab_istore' hG 126 _ _ _ _ 6 _ dX6_found_126 (Nat.le_of_ble_eq_true rfl) ?_
            refine ab_iinc' hG 128 _ _ _ _ 7 1 _ _ dX6_found_128 rfl rfl ?_
            refine ab_goto' hG 131 _ _ _ _ (-84) 47 dX6_found_131 (by decide) ?_
            refine ab_forget' hG _ _ _ _ _ 8 ?_
            exact h
          · have h := h.2 hc
            refine ab_aload_n' hG 102 _ _ _ _ 0 _ dX6_found_102 rfl ?_
            refine ab_iload' hG 103 _ _ _ _ 7 _ dX6_found_103 rfl ?_
            refine ab_iload' hG 105 _ _ _ _ 4 _ dX6_found_105 rfl ?_
            refine ab_iload_n' hG 107 _ _ _ _ 2 _ dX6_found_107 rfl ?_
            exact ab_invv' hG 108 _ [_, _, _] _ _ 0 175 _ 3 1 0 _ (21, _) dX6_found_108 rfl rfl rfl rfl (Nat.le_of_ble_eq_true rfl) (Nat.le_of_ble_eq_true rfl) h
theorem bl_X6_found_111 {Q : ab_Po} {G : ab_Gt} (hG : ab_Cl M_X6_found Q G) (x1 : Int32) (x2 : Int32) (x3 : Int32) (x4 : Int32) (x5 : Int32) (x6 : Int32) (x7 : Int32) (x8 : Int32) (xs0 : Int32) (S : ab_S) (h : (xs0 = 0 → G 47 [some (.inr (21, 0)), some (.inl x1), some (.inl x2), some (.inl x3), some (.inl x4), some (.inl x5), some (.inl x6), some (.inl (x7 + 1)), none] [] S 0) ∧ (¬ xs0 = 0 → G 47 [some (.inr (21, 0)), some (.inl x1), some (.inl x2), some (.inl x3), some (.inl x4), some (.inl x5), some (.inl (x6 ||| ((1 : Int32) <<< (x7 &&& 31)))), some (.inl (x7 + 1)), none] [] S 0)) : G 111 [some (.inr (21, 0)), some (.inl x1), some (.inl x2), some (.inl x3), some (.inl x4), some (.inl x5), some (.inl x6), some (.inl x7), some (.inl x8)] [(.inl xs0)] S 0 := by
  refine ab_if_eq' hG 111 _ _ _ _ (13) 124 _ dX6_found_111 (by decide) (fun hc => ?_) (fun hc => ?_)
  · have h := h.1 hc
    refine ab_iload' hG 124 _ _ _ _ 6 _ dX6_found_124 rfl ?_
    refine ab_istore' hG 126 _ _ _ _ 6 _ dX6_found_126 (Nat.le_of_ble_eq_true rfl) ?_
    refine ab_iinc' hG 128 _ _ _ _ 7 1 _ _ dX6_found_128 rfl rfl ?_
    refine ab_goto' hG 131 _ _ _ _ (-84) 47 dX6_found_131 (by decide) ?_
    refine ab_forget' hG _ _ _ _ _ 8 ?_
    exact h
  · have h := h.2 hc
    refine ab_iload' hG 114 _ _ _ _ 6 _ dX6_found_114 rfl ?_
    refine ab_iconst' hG 116 _ _ _ _ 1 1 dX6_found_116 (by decide) ?_
    refine ab_iload' hG 117 _ _ _ _ 7 _ dX6_found_117 rfl ?_
    refine ab_ishl' hG 119 _ _ _ _ _ _ dX6_found_119 ?_
    refine ab_ior' hG 120 _ _ _ _ _ _ dX6_found_120 ?_
    refine ab_goto' hG 121 _ _ _ _ (5) 126 dX6_found_121 (by decide) ?_
    refine ab_istore' hG 126 _ _ _ _ 6 _ dX6_found_126 (Nat.le_of_ble_eq_true rfl) ?_
    refine ab_iinc' hG 128 _ _ _ _ 7 1 _ _ dX6_found_128 rfl rfl ?_
    refine ab_goto' hG 131 _ _ _ _ (-84) 47 dX6_found_131 (by decide) ?_
    refine ab_forget' hG _ _ _ _ _ 8 ?_
    exact h
theorem bl_X6_count_0 {Q : ab_Po} {G : ab_Gt} (hG : ab_Cl M_X6_count Q G) (x1 : Int32) (S : ab_S) (h : (∀ S1 : ab_S, S1 = ab_su S 21 0 0 (0 : Int32) → Sp_X6_found [(.inr (21, 0)), (.inl x1)] S1 (ab_back Q G 10 [some (.inr (21, 0)), some (.inl x1), none, none, none] [] 0))) : G 0 [some (.inr (21, 0)), some (.inl x1), none, none, none] [] S 0 := by
  refine ab_aload_n' hG 0 _ _ _ _ 0 _ dX6_count_0 rfl ?_
  refine ab_iconst' hG 1 _ _ _ _ 0 0 dX6_count_1 (by decide) ?_
  refine ab_putfield' hG 2 _ _ _ _ 82 21 0 0 _ dX6_count_2 (List.Mem.head _) ?_
  have h := h _ rfl
  refine ab_aload_n' hG 5 _ _ _ _ 0 _ dX6_count_5 rfl ?_
  refine ab_iload_n' hG 6 _ _ _ _ 1 _ dX6_count_6 rfl ?_
  exact ab_invv' hG 7 _ [_] _ _ 0 178 _ 1 1 0 _ (21, _) dX6_count_7 rfl rfl rfl rfl (Nat.le_of_ble_eq_true rfl) (Nat.le_of_ble_eq_true rfl) h
theorem bl_X6_count_10 {Q : ab_Po} {G : ab_Gt} (hG : ab_Cl M_X6_count Q G) (x1 : Int32) (xs0 : Int32) (S : ab_S) (h : G 16 [some (.inr (21, 0)), some (.inl x1), some (.inl xs0), some (.inl (0 : Int32)), some (.inl (0 : Int32))] [] S 0) : G 10 [some (.inr (21, 0)), some (.inl x1), none, none, none] [(.inl xs0)] S 0 := by
  refine ab_istore_n' hG 10 _ _ _ _ 2 _ dX6_count_10 (Nat.le_of_ble_eq_true rfl) ?_
  refine ab_iconst' hG 11 _ _ _ _ 0 0 dX6_count_11 (by decide) ?_
  refine ab_istore_n' hG 12 _ _ _ _ 3 _ dX6_count_12 (Nat.le_of_ble_eq_true rfl) ?_
  refine ab_iconst' hG 13 _ _ _ _ 0 0 dX6_count_13 (by decide) ?_
  refine ab_istore' hG 14 _ _ _ _ 4 _ dX6_count_14 (Nat.le_of_ble_eq_true rfl) ?_
  exact h
theorem bl_X6_count_16 {Q : ab_Po} {G : ab_Gt} (hG : ab_Cl M_X6_count Q G) (x1 : Int32) (x2 : Int32) (x3 : Int32) (x4 : Int32) (S : ab_S) (h : ((24 : Int32) ≤ x4 → Q (.inl (some x3)) S) ∧ (¬ (24 : Int32) ≤ x4 → G 16 [some (.inr (21, 0)), some (.inl x1), some (.inl x2), some (.inl (x3 + ((x2 >>> (x4 &&& 31)) &&& (1 : Int32)))), some (.inl (x4 + 1))] [] S 0)) : G 16 [some (.inr (21, 0)), some (.inl x1), some (.inl x2), some (.inl x3), some (.inl x4)] [] S 0 := by
  refine ab_iload' hG 16 _ _ _ _ 4 _ dX6_count_16 rfl ?_
  refine ab_bipush' hG 18 _ _ _ _ 24 24 dX6_count_18 (by decide) ?_
  refine ab_icmp_ge' hG 20 _ _ _ _ (18) 38 _ _ dX6_count_20 (by decide) (fun hc => ?_) (fun hc => ?_)
  · have h := h.1 hc
    refine ab_iload_n' hG 38 _ _ _ _ 3 _ dX6_count_38 rfl ?_
    exact ab_ireturn' hG 39 _ _ _ _ dX6_count_39 (Or.inl rfl) (by decide) h
  · have h := h.2 hc
    refine ab_iload_n' hG 23 _ _ _ _ 3 _ dX6_count_23 rfl ?_
    refine ab_iload_n' hG 24 _ _ _ _ 2 _ dX6_count_24 rfl ?_
    refine ab_iload' hG 25 _ _ _ _ 4 _ dX6_count_25 rfl ?_
    refine ab_ishr' hG 27 _ _ _ _ _ _ dX6_count_27 ?_
    refine ab_iconst' hG 28 _ _ _ _ 1 1 dX6_count_28 (by decide) ?_
    refine ab_iand' hG 29 _ _ _ _ _ _ dX6_count_29 ?_
    refine ab_iadd' hG 30 _ _ _ _ _ _ dX6_count_30 ?_
    refine ab_istore_n' hG 31 _ _ _ _ 3 _ dX6_count_31 (Nat.le_of_ble_eq_true rfl) ?_
    refine ab_iinc' hG 32 _ _ _ _ 4 1 _ _ dX6_count_32 rfl rfl ?_
    refine ab_goto' hG 35 _ _ _ _ (-19) 16 dX6_count_35 (by decide) ?_
    exact h
theorem bl_X6_find_0 {Q : ab_Po} {G : ab_Gt} (hG : ab_Cl M_X6_find Q G) (x1 : Int32) (x2 : Int32) (S : ab_S) (h : (∀ S1 : ab_S, S1 = ab_su S 21 0 0 (0 : Int32) → Sp_X6_found [(.inr (21, 0)), (.inl x1)] S1 (ab_back Q G 10 [some (.inr (21, 0)), some (.inl x1), some (.inl x2), none, none, none] [] 0))) : G 0 [some (.inr (21, 0)), some (.inl x1), some (.inl x2), none, none, none] [] S 0 := by
  refine ab_aload_n' hG 0 _ _ _ _ 0 _ dX6_find_0 rfl ?_
  refine ab_iconst' hG 1 _ _ _ _ 0 0 dX6_find_1 (by decide) ?_
  refine ab_putfield' hG 2 _ _ _ _ 82 21 0 0 _ dX6_find_2 (List.Mem.head _) ?_
  have h := h _ rfl
  refine ab_aload_n' hG 5 _ _ _ _ 0 _ dX6_find_5 rfl ?_
  refine ab_iload_n' hG 6 _ _ _ _ 1 _ dX6_find_6 rfl ?_
  exact ab_invv' hG 7 _ [_] _ _ 0 178 _ 1 1 0 _ (21, _) dX6_find_7 rfl rfl rfl rfl (Nat.le_of_ble_eq_true rfl) (Nat.le_of_ble_eq_true rfl) h
theorem bl_X6_find_10 {Q : ab_Po} {G : ab_Gt} (hG : ab_Cl M_X6_find Q G) (x1 : Int32) (x2 : Int32) (xs0 : Int32) (S : ab_S) (h : Sp_X6_walk [(.inr (21, 0)), (.inl (12 : Int32))] S (ab_back Q G 17 [some (.inr (21, 0)), some (.inl x1), some (.inl x2), some (.inl xs0), none, none] [] 0)) : G 10 [some (.inr (21, 0)), some (.inl x1), some (.inl x2), none, none, none] [(.inl xs0)] S 0 := by
  refine ab_istore_n' hG 10 _ _ _ _ 3 _ dX6_find_10 (Nat.le_of_ble_eq_true rfl) ?_
  refine ab_aload_n' hG 11 _ _ _ _ 0 _ dX6_find_11 rfl ?_
  refine ab_bipush' hG 12 _ _ _ _ 12 12 dX6_find_12 (by decide) ?_
  exact ab_invv' hG 14 _ [_] _ _ 0 114 _ 1 0 0 _ (21, _) dX6_find_14 rfl rfl rfl rfl (Nat.le_of_ble_eq_true rfl) (Nat.le_of_ble_eq_true rfl) h
theorem bl_X6_find_17 {Q : ab_Po} {G : ab_Gt} (hG : ab_Cl M_X6_find Q G) (x1 : Int32) (x2 : Int32) (x3 : Int32) (S : ab_S) (h : G 23 [some (.inr (21, 0)), some (.inl x1), some (.inl x2), some (.inl x3), some (.inl (0 : Int32)), some (.inl (0 : Int32))] [] S 0) : G 17 [some (.inr (21, 0)), some (.inl x1), some (.inl x2), some (.inl x3), none, none] [] S 0 := by
  refine ab_iconst' hG 17 _ _ _ _ 0 0 dX6_find_17 (by decide) ?_
  refine ab_istore' hG 18 _ _ _ _ 4 _ dX6_find_18 (Nat.le_of_ble_eq_true rfl) ?_
  refine ab_iconst' hG 20 _ _ _ _ 0 0 dX6_find_20 (by decide) ?_
  refine ab_istore' hG 21 _ _ _ _ 5 _ dX6_find_21 (Nat.le_of_ble_eq_true rfl) ?_
  exact h
theorem bl_X6_find_23 {Q : ab_Po} {G : ab_Gt} (hG : ab_Cl M_X6_find Q G) (x1 : Int32) (x2 : Int32) (x3 : Int32) (x4 : Int32) (x5 : Int32) (S : ab_S) (h : ((S 21 0 18) ≤ x5 → Sp_X6_fail [(.inr (21, 0)), (.inl (1 : Int32))] S (ab_back Q G 75 [some (.inr (21, 0)), some (.inl x1), some (.inl x2), some (.inl x3), some (.inl x4), some (.inl x5)] [] 0)) ∧ (¬ (S 21 0 18) ≤ x5 → vp_in x5 24 ∧ (((x3 >>> ((S 34 0 x5.toNatClampNeg) &&& 31)) &&& (1 : Int32)) = (1 : Int32) → (x4 = x2 → vp_in x5 24 ∧ Q (.inl (some (S 34 0 x5.toNatClampNeg))) S) ∧ (¬ x4 = x2 → G 23 [some (.inr (21, 0)), some (.inl x1), some (.inl x2), some (.inl x3), some (.inl (x4 + 1)), some (.inl (x5 + 1))] [] S 0)) ∧ (¬ ((x3 >>> ((S 34 0 x5.toNatClampNeg) &&& 31)) &&& (1 : Int32)) = (1 : Int32) → G 23 [some (.inr (21, 0)), some (.inl x1), some (.inl x2), some (.inl x3), some (.inl x4), some (.inl (x5 + 1))] [] S 0))) : G 23 [some (.inr (21, 0)), some (.inl x1), some (.inl x2), some (.inl x3), some (.inl x4), some (.inl x5)] [] S 0 := by
  refine ab_iload' hG 23 _ _ _ _ 5 _ dX6_find_23 rfl ?_
  refine ab_aload_n' hG 25 _ _ _ _ 0 _ dX6_find_25 rfl ?_
  refine ab_gI hG 26 _ _ _ _ 93 21 18 0 dX6_find_26 (List.Mem.head _) rfl ?_
  refine ab_icmp_ge' hG 29 _ _ _ _ (41) 70 _ _ dX6_find_29 (by decide) (fun hc => ?_) (fun hc => ?_)
  · have h := h.1 hc
    refine ab_aload_n' hG 70 _ _ _ _ 0 _ dX6_find_70 rfl ?_
    refine ab_iconst' hG 71 _ _ _ _ 1 1 dX6_find_71 (by decide) ?_
    exact ab_invv' hG 72 _ [_] _ _ 0 181 _ 1 1 0 _ (21, _) dX6_find_72 rfl rfl rfl rfl (Nat.le_of_ble_eq_true rfl) (Nat.le_of_ble_eq_true rfl) h
  · have h := h.2 hc
    refine ab_iload_n' hG 32 _ _ _ _ 3 _ dX6_find_32 rfl ?_
    refine ab_aload_n' hG 33 _ _ _ _ 0 _ dX6_find_33 rfl ?_
    refine ab_gR hG 34 _ _ _ _ 57 21 19 0 (34, 0) dX6_find_34 (List.Mem.tail _ (List.Mem.head _)) rfl ?_
    refine ab_iload' hG 37 _ _ _ _ 5 _ dX6_find_37 rfl ?_
    refine ab_iaload' hG 39 _ _ _ _ 34 0 24 _ dX6_find_39 rfl h.1 ?_
    have h := h.2
    refine ab_ishr' hG 40 _ _ _ _ _ _ dX6_find_40 ?_
    refine ab_iconst' hG 41 _ _ _ _ 1 1 dX6_find_41 (by decide) ?_
    refine ab_iand' hG 42 _ _ _ _ _ _ dX6_find_42 ?_
    refine ab_iconst' hG 43 _ _ _ _ 1 1 dX6_find_43 (by decide) ?_
    refine ab_icmp_ne' hG 44 _ _ _ _ (20) 64 _ _ dX6_find_44 (by decide) (fun hc => ?_) (fun hc => ?_)
    · have h := h.2 hc
      refine ab_iinc' hG 64 _ _ _ _ 5 1 _ _ dX6_find_64 rfl rfl ?_
      refine ab_goto' hG 67 _ _ _ _ (-44) 23 dX6_find_67 (by decide) ?_
      exact h
    · have h := h.1 hc
      refine ab_iload' hG 47 _ _ _ _ 4 _ dX6_find_47 rfl ?_
      refine ab_iload_n' hG 49 _ _ _ _ 2 _ dX6_find_49 rfl ?_
      refine ab_icmp_ne' hG 50 _ _ _ _ (11) 61 _ _ dX6_find_50 (by decide) (fun hc => ?_) (fun hc => ?_)
      · have h := h.2 hc
        refine ab_iinc' hG 61 _ _ _ _ 4 1 _ _ dX6_find_61 rfl rfl ?_
        refine ab_iinc' hG 64 _ _ _ _ 5 1 _ _ dX6_find_64 rfl rfl ?_
        refine ab_goto' hG 67 _ _ _ _ (-44) 23 dX6_find_67 (by decide) ?_
        exact h
      · have h := h.1 hc
        refine ab_aload_n' hG 53 _ _ _ _ 0 _ dX6_find_53 rfl ?_
        refine ab_gR hG 54 _ _ _ _ 57 21 19 0 (34, 0) dX6_find_54 (List.Mem.tail _ (List.Mem.head _)) rfl ?_
        refine ab_iload' hG 57 _ _ _ _ 5 _ dX6_find_57 rfl ?_
        refine ab_iaload' hG 59 _ _ _ _ 34 0 24 _ dX6_find_59 rfl h.1 ?_
        have h := h.2
        exact ab_ireturn' hG 60 _ _ _ _ dX6_find_60 (Or.inl rfl) (by decide) h
theorem bl_X6_find_75 {Q : ab_Po} {G : ab_Gt} (hG : ab_Cl M_X6_find Q G) (x1 : Int32) (x2 : Int32) (x3 : Int32) (x4 : Int32) (x5 : Int32) (xs0 : Int32) (S : ab_S) (h : Q (.inl (some xs0)) S) : G 75 [some (.inr (21, 0)), some (.inl x1), some (.inl x2), some (.inl x3), some (.inl x4), some (.inl x5)] [(.inl xs0)] S 0 := by
  exact ab_ireturn' hG 75 _ _ _ _ dX6_find_75 (Or.inl rfl) (by decide) h
theorem bl_X6_areAlike_0 {Q : ab_Po} {G : ab_Gt} (hG : ab_Cl M_X6_areAlike Q G) (x1 : Int32) (x2 : Int32) (S : ab_S) (h : Sp_X6_children [(.inr (21, 0)), (.inl (12 : Int32)), (.inl x1)] S (ab_back Q G 7 [some (.inr (21, 0)), some (.inl x1), some (.inl x2), none, none, none] [] 0)) : G 0 [some (.inr (21, 0)), some (.inl x1), some (.inl x2), none, none, none] [] S 0 := by
  refine ab_aload_n' hG 0 _ _ _ _ 0 _ dX6_areAlike_0 rfl ?_
  refine ab_bipush' hG 1 _ _ _ _ 12 12 dX6_areAlike_1 (by decide) ?_
  refine ab_iload_n' hG 3 _ _ _ _ 1 _ dX6_areAlike_3 rfl ?_
  exact ab_invv' hG 4 _ [_, _] _ _ 0 99 _ 2 1 0 _ (21, _) dX6_areAlike_4 rfl rfl rfl rfl (Nat.le_of_ble_eq_true rfl) (Nat.le_of_ble_eq_true rfl) h
theorem bl_X6_areAlike_7 {Q : ab_Po} {G : ab_Gt} (hG : ab_Cl M_X6_areAlike Q G) (x1 : Int32) (x2 : Int32) (xs0 : Int32) (S : ab_S) (h : vp_in ((288 : Int32) + x1) 336 ∧ vp_in ((288 : Int32) + x2) 336 ∧ ((S 23 0 ((288 : Int32) + x1).toNatClampNeg) = (S 23 0 ((288 : Int32) + x2).toNatClampNeg) → Sp_X6_children [(.inr (21, 0)), (.inl (12 : Int32)), (.inl x2)] S (ab_back Q G 39 [some (.inr (21, 0)), some (.inl x1), some (.inl x2), some (.inl xs0), none, none] [(.inl xs0)] 0)) ∧ (¬ (S 23 0 ((288 : Int32) + x1).toNatClampNeg) = (S 23 0 ((288 : Int32) + x2).toNatClampNeg) → G 52 [some (.inr (21, 0)), some (.inl x1), some (.inl x2), some (.inl xs0), some (.inl (0 : Int32)), some (.inl (0 : Int32))] [] S 0)) : G 7 [some (.inr (21, 0)), some (.inl x1), some (.inl x2), none, none, none] [(.inl xs0)] S 0 := by
  refine ab_istore_n' hG 7 _ _ _ _ 3 _ dX6_areAlike_7 (Nat.le_of_ble_eq_true rfl) ?_
  refine ab_aload_n' hG 8 _ _ _ _ 0 _ dX6_areAlike_8 rfl ?_
  refine ab_gR hG 9 _ _ _ _ 13 21 2 0 (23, 0) dX6_areAlike_9 (List.Mem.head _) rfl ?_
  refine ab_sipush' hG 12 _ _ _ _ 288 288 dX6_areAlike_12 (by decide) ?_
  refine ab_iload_n' hG 15 _ _ _ _ 1 _ dX6_areAlike_15 rfl ?_
  refine ab_iadd' hG 16 _ _ _ _ _ _ dX6_areAlike_16 ?_
  refine ab_iaload' hG 17 _ _ _ _ 23 0 336 _ dX6_areAlike_17 rfl h.1 ?_
  have h := h.2
  refine ab_aload_n' hG 18 _ _ _ _ 0 _ dX6_areAlike_18 rfl ?_
  refine ab_gR hG 19 _ _ _ _ 13 21 2 0 (23, 0) dX6_areAlike_19 (List.Mem.head _) rfl ?_
  refine ab_sipush' hG 22 _ _ _ _ 288 288 dX6_areAlike_22 (by decide) ?_
  refine ab_iload_n' hG 25 _ _ _ _ 2 _ dX6_areAlike_25 rfl ?_
  refine ab_iadd' hG 26 _ _ _ _ _ _ dX6_areAlike_26 ?_
  refine ab_iaload' hG 27 _ _ _ _ 23 0 336 _ dX6_areAlike_27 rfl h.1 ?_
  have h := h.2
  refine ab_icmp_ne' hG 28 _ _ _ _ (18) 46 _ _ dX6_areAlike_28 (by decide) (fun hc => ?_) (fun hc => ?_)
  · have h := h.2 hc
    refine ab_iconst' hG 46 _ _ _ _ 0 0 dX6_areAlike_46 (by decide) ?_
    refine ab_istore' hG 47 _ _ _ _ 4 _ dX6_areAlike_47 (Nat.le_of_ble_eq_true rfl) ?_
    refine ab_iconst' hG 49 _ _ _ _ 0 0 dX6_areAlike_49 (by decide) ?_
    refine ab_istore' hG 50 _ _ _ _ 5 _ dX6_areAlike_50 (Nat.le_of_ble_eq_true rfl) ?_
    exact h
  · have h := h.1 hc
    refine ab_iload_n' hG 31 _ _ _ _ 3 _ dX6_areAlike_31 rfl ?_
    refine ab_aload_n' hG 32 _ _ _ _ 0 _ dX6_areAlike_32 rfl ?_
    refine ab_bipush' hG 33 _ _ _ _ 12 12 dX6_areAlike_33 (by decide) ?_
    refine ab_iload_n' hG 35 _ _ _ _ 2 _ dX6_areAlike_35 rfl ?_
    exact ab_invv' hG 36 _ [_, _] _ _ 0 99 _ 2 1 0 _ (21, _) dX6_areAlike_36 rfl rfl rfl rfl (Nat.le_of_ble_eq_true rfl) (Nat.le_of_ble_eq_true rfl) h
theorem bl_X6_areAlike_39 {Q : ab_Po} {G : ab_Gt} (hG : ab_Cl M_X6_areAlike Q G) (x1 : Int32) (x2 : Int32) (x3 : Int32) (xs0 : Int32) (xs1 : Int32) (S : ab_S) (h : (xs1 = xs0 → G 52 [some (.inr (21, 0)), some (.inl x1), some (.inl x2), some (.inl x3), some (.inl (1 : Int32)), some (.inl (0 : Int32))] [] S 0) ∧ (¬ xs1 = xs0 → G 52 [some (.inr (21, 0)), some (.inl x1), some (.inl x2), some (.inl x3), some (.inl (0 : Int32)), some (.inl (0 : Int32))] [] S 0)) : G 39 [some (.inr (21, 0)), some (.inl x1), some (.inl x2), some (.inl x3), none, none] [(.inl xs0), (.inl xs1)] S 0 := by
  refine ab_icmp_ne' hG 39 _ _ _ _ (7) 46 _ _ dX6_areAlike_39 (by decide) (fun hc => ?_) (fun hc => ?_)
  · have h := h.2 hc
    refine ab_iconst' hG 46 _ _ _ _ 0 0 dX6_areAlike_46 (by decide) ?_
    refine ab_istore' hG 47 _ _ _ _ 4 _ dX6_areAlike_47 (Nat.le_of_ble_eq_true rfl) ?_
    refine ab_iconst' hG 49 _ _ _ _ 0 0 dX6_areAlike_49 (by decide) ?_
    refine ab_istore' hG 50 _ _ _ _ 5 _ dX6_areAlike_50 (Nat.le_of_ble_eq_true rfl) ?_
    exact h
  · have h := h.1 hc
    refine ab_iconst' hG 42 _ _ _ _ 1 1 dX6_areAlike_42 (by decide) ?_
    refine ab_goto' hG 43 _ _ _ _ (4) 47 dX6_areAlike_43 (by decide) ?_
    refine ab_istore' hG 47 _ _ _ _ 4 _ dX6_areAlike_47 (Nat.le_of_ble_eq_true rfl) ?_
    refine ab_iconst' hG 49 _ _ _ _ 0 0 dX6_areAlike_49 (by decide) ?_
    refine ab_istore' hG 50 _ _ _ _ 5 _ dX6_areAlike_50 (Nat.le_of_ble_eq_true rfl) ?_
    exact h
theorem bl_X6_areAlike_52 {Q : ab_Po} {G : ab_Gt} (hG : ab_Cl M_X6_areAlike Q G) (x1 : Int32) (x2 : Int32) (x3 : Int32) (x4 : Int32) (x5 : Int32) (S : ab_S) (h : (x3 ≤ x5 → (x4 = 0 ∨ x4 = 1) ∧ Q (.inl (some x4)) S) ∧ (¬ x3 ≤ x5 → (x4 = 0 → (x4 = 0 ∨ x4 = 1) ∧ Q (.inl (some x4)) S) ∧ (¬ x4 = 0 → Sp_X6_childAt [(.inr (21, 0)), (.inl (12 : Int32)), (.inl x1), (.inl x5)] S (ab_back Q G 76 [some (.inr (21, 0)), some (.inl x1), some (.inl x2), some (.inl x3), some (.inl x4), some (.inl x5)] [(.inr (36, 0))] 0)))) : G 52 [some (.inr (21, 0)), some (.inl x1), some (.inl x2), some (.inl x3), some (.inl x4), some (.inl x5)] [] S 0 := by
  refine ab_iload' hG 52 _ _ _ _ 5 _ dX6_areAlike_52 rfl ?_
  refine ab_iload_n' hG 54 _ _ _ _ 3 _ dX6_areAlike_54 rfl ?_
  refine ab_icmp_ge' hG 55 _ _ _ _ (52) 107 _ _ dX6_areAlike_55 (by decide) (fun hc => ?_) (fun hc => ?_)
  · have h := h.1 hc
    refine ab_iload' hG 107 _ _ _ _ 4 _ dX6_areAlike_107 rfl ?_
    exact ab_ireturn' hG 109 _ _ _ _ dX6_areAlike_109 (Or.inr ⟨rfl, h.1⟩) (by decide) h.2
  · have h := h.2 hc
    refine ab_iload' hG 58 _ _ _ _ 4 _ dX6_areAlike_58 rfl ?_
    refine ab_if_eq' hG 60 _ _ _ _ (47) 107 _ dX6_areAlike_60 (by decide) (fun hc => ?_) (fun hc => ?_)
    · have h := h.1 hc
      refine ab_iload' hG 107 _ _ _ _ 4 _ dX6_areAlike_107 rfl ?_
      exact ab_ireturn' hG 109 _ _ _ _ dX6_areAlike_109 (Or.inr ⟨rfl, h.1⟩) (by decide) h.2
    · have h := h.2 hc
      refine ab_aload_n' hG 63 _ _ _ _ 0 _ dX6_areAlike_63 rfl ?_
      refine ab_gR hG 64 _ _ _ _ 63 21 22 0 (36, 0) dX6_areAlike_64 (List.Mem.tail _ (List.Mem.head _)) rfl ?_
      refine ab_aload_n' hG 67 _ _ _ _ 0 _ dX6_areAlike_67 rfl ?_
      refine ab_bipush' hG 68 _ _ _ _ 12 12 dX6_areAlike_68 (by decide) ?_
      refine ab_iload_n' hG 70 _ _ _ _ 1 _ dX6_areAlike_70 rfl ?_
      refine ab_iload' hG 71 _ _ _ _ 5 _ dX6_areAlike_71 rfl ?_
      exact ab_invv' hG 73 _ [_, _, _] _ _ 0 103 _ 3 1 0 _ (21, _) dX6_areAlike_73 rfl rfl rfl rfl (Nat.le_of_ble_eq_true rfl) (Nat.le_of_ble_eq_true rfl) h
theorem bl_X6_areAlike_76 {Q : ab_Po} {G : ab_Gt} (hG : ab_Cl M_X6_areAlike Q G) (x1 : Int32) (x2 : Int32) (x3 : Int32) (x4 : Int32) (x5 : Int32) (xs0 : Int32) (S : ab_S) (h : vp_in xs0 24 ∧ Sp_X6_childAt [(.inr (21, 0)), (.inl (12 : Int32)), (.inl x2), (.inl x5)] S (ab_back Q G 90 [some (.inr (21, 0)), some (.inl x1), some (.inl x2), some (.inl x3), some (.inl x4), some (.inl x5)] [(.inr (36, 0)), (.inl (S 36 0 xs0.toNatClampNeg))] 0)) : G 76 [some (.inr (21, 0)), some (.inl x1), some (.inl x2), some (.inl x3), some (.inl x4), some (.inl x5)] [(.inl xs0), (.inr (36, 0))] S 0 := by
  refine ab_iaload' hG 76 _ _ _ _ 36 0 24 _ dX6_areAlike_76 rfl h.1 ?_
  have h := h.2
  refine ab_aload_n' hG 77 _ _ _ _ 0 _ dX6_areAlike_77 rfl ?_
  refine ab_gR hG 78 _ _ _ _ 63 21 22 0 (36, 0) dX6_areAlike_78 (List.Mem.tail _ (List.Mem.head _)) rfl ?_
  refine ab_aload_n' hG 81 _ _ _ _ 0 _ dX6_areAlike_81 rfl ?_
  refine ab_bipush' hG 82 _ _ _ _ 12 12 dX6_areAlike_82 (by decide) ?_
  refine ab_iload_n' hG 84 _ _ _ _ 2 _ dX6_areAlike_84 rfl ?_
  refine ab_iload' hG 85 _ _ _ _ 5 _ dX6_areAlike_85 rfl ?_
  exact ab_invv' hG 87 _ [_, _, _] _ _ 0 103 _ 3 1 0 _ (21, _) dX6_areAlike_87 rfl rfl rfl rfl (Nat.le_of_ble_eq_true rfl) (Nat.le_of_ble_eq_true rfl) h
theorem bl_X6_areAlike_90 {Q : ab_Po} {G : ab_Gt} (hG : ab_Cl M_X6_areAlike Q G) (x1 : Int32) (x2 : Int32) (x3 : Int32) (x4 : Int32) (x5 : Int32) (xs0 : Int32) (xs2 : Int32) (S : ab_S) (h : vp_in xs0 24 ∧ (xs2 = (S 36 0 xs0.toNatClampNeg) → G 52 [some (.inr (21, 0)), some (.inl x1), some (.inl x2), some (.inl x3), some (.inl (1 : Int32)), some (.inl (x5 + 1))] [] S 0) ∧ (¬ xs2 = (S 36 0 xs0.toNatClampNeg) → G 52 [some (.inr (21, 0)), some (.inl x1), some (.inl x2), some (.inl x3), some (.inl (0 : Int32)), some (.inl (x5 + 1))] [] S 0)) : G 90 [some (.inr (21, 0)), some (.inl x1), some (.inl x2), some (.inl x3), some (.inl x4), some (.inl x5)] [(.inl xs0), (.inr (36, 0)), (.inl xs2)] S 0 := by
  refine ab_iaload' hG 90 _ _ _ _ 36 0 24 _ dX6_areAlike_90 rfl h.1 ?_
  have h := h.2
  refine ab_icmp_ne' hG 91 _ _ _ _ (7) 98 _ _ dX6_areAlike_91 (by decide) (fun hc => ?_) (fun hc => ?_)
  · have h := h.2 hc
    refine ab_iconst' hG 98 _ _ _ _ 0 0 dX6_areAlike_98 (by decide) ?_
    refine ab_istore' hG 99 _ _ _ _ 4 _ dX6_areAlike_99 (Nat.le_of_ble_eq_true rfl) ?_
    refine ab_iinc' hG 101 _ _ _ _ 5 1 _ _ dX6_areAlike_101 rfl rfl ?_
    refine ab_goto' hG 104 _ _ _ _ (-52) 52 dX6_areAlike_104 (by decide) ?_
    exact h
  · have h := h.1 hc
    refine ab_iconst' hG 94 _ _ _ _ 1 1 dX6_areAlike_94 (by decide) ?_
    refine ab_goto' hG 95 _ _ _ _ (4) 99 dX6_areAlike_95 (by decide) ?_
    refine ab_istore' hG 99 _ _ _ _ 4 _ dX6_areAlike_99 (Nat.le_of_ble_eq_true rfl) ?_
    refine ab_iinc' hG 101 _ _ _ _ 5 1 _ _ dX6_areAlike_101 rfl rfl ?_
    refine ab_goto' hG 104 _ _ _ _ (-52) 52 dX6_areAlike_104 (by decide) ?_
    exact h
theorem bl_X6_alike_0 {Q : ab_Po} {G : ab_Gt} (hG : ab_Cl M_X6_alike Q G) (x1 : Int32) (S : ab_S) (h : Sp_X6_has [(.inr (21, 0)), (.inl (12 : Int32)), (.inl x1)] S (ab_back Q G 8 [some (.inr (21, 0)), some (.inl x1), none, none, none] [(.inr (21, 0))] 0)) : G 0 [some (.inr (21, 0)), some (.inl x1), none, none, none] [] S 0 := by
  refine ab_aload_n' hG 0 _ _ _ _ 0 _ dX6_alike_0 rfl ?_
  refine ab_aload_n' hG 1 _ _ _ _ 0 _ dX6_alike_1 rfl ?_
  refine ab_bipush' hG 2 _ _ _ _ 12 12 dX6_alike_2 (by decide) ?_
  refine ab_iload_n' hG 4 _ _ _ _ 1 _ dX6_alike_4 rfl ?_
  exact ab_invv' hG 5 _ [_, _] _ _ 0 107 _ 2 1 0 _ (21, _) dX6_alike_5 rfl rfl rfl rfl (Nat.le_of_ble_eq_true rfl) (Nat.le_of_ble_eq_true rfl) h
theorem bl_X6_alike_8 {Q : ab_Po} {G : ab_Gt} (hG : ab_Cl M_X6_alike Q G) (x1 : Int32) (xs0 : Int32) (S : ab_S) (h : (xs0 = 0 → (∀ S1 : ab_S, S1 = ab_su S 21 0 0 (1 : Int32) → ((S1 21 0 0) ≤ 0 → Sp_X6_walk [(.inr (21, 0)), (.inl (12 : Int32))] S1 (ab_back Q G 34 [some (.inr (21, 0)), some (.inl x1), none, none, none] [] 0)) ∧ (¬ (S1 21 0 0) ≤ 0 → Q (.inl (some (0 : Int32))) S1))) ∧ (¬ xs0 = 0 → (∀ S2 : ab_S, S2 = ab_su S 21 0 0 (0 : Int32) → ((S2 21 0 0) ≤ 0 → Sp_X6_walk [(.inr (21, 0)), (.inl (12 : Int32))] S2 (ab_back Q G 34 [some (.inr (21, 0)), some (.inl x1), none, none, none] [] 0)) ∧ (¬ (S2 21 0 0) ≤ 0 → Q (.inl (some (0 : Int32))) S2)))) : G 8 [some (.inr (21, 0)), some (.inl x1), none, none, none] [(.inl xs0), (.inr (21, 0))] S 0 := by
  refine ab_if_eq' hG 8 _ _ _ _ (7) 15 _ dX6_alike_8 (by decide) (fun hc => ?_) (fun hc => ?_)
  · have h := h.1 hc
    refine ab_iconst' hG 15 _ _ _ _ 1 1 dX6_alike_15 (by decide) ?_
    refine ab_putfield' hG 16 _ _ _ _ 82 21 0 0 _ dX6_alike_16 (List.Mem.head _) ?_
    have h := h _ rfl
    refine ab_aload_n' hG 19 _ _ _ _ 0 _ dX6_alike_19 rfl ?_
    refine ab_gI hG 20 _ _ _ _ 82 21 0 0 dX6_alike_20 (List.Mem.head _) rfl ?_
    refine ab_if_le' hG 23 _ _ _ _ (5) 28 _ dX6_alike_23 (by decide) (fun hc => ?_) (fun hc => ?_)
    · have h := h.1 hc
      refine ab_aload_n' hG 28 _ _ _ _ 0 _ dX6_alike_28 rfl ?_
      refine ab_bipush' hG 29 _ _ _ _ 12 12 dX6_alike_29 (by decide) ?_
      exact ab_invv' hG 31 _ [_] _ _ 0 114 _ 1 0 0 _ (21, _) dX6_alike_31 rfl rfl rfl rfl (Nat.le_of_ble_eq_true rfl) (Nat.le_of_ble_eq_true rfl) h
    · have h := h.2 hc
      refine ab_iconst' hG 26 _ _ _ _ 0 0 dX6_alike_26 (by decide) ?_
      exact ab_ireturn' hG 27 _ _ _ _ dX6_alike_27 (Or.inl rfl) (by decide) h
  · have h := h.2 hc
    refine ab_iconst' hG 11 _ _ _ _ 0 0 dX6_alike_11 (by decide) ?_
    refine ab_goto' hG 12 _ _ _ _ (4) 16 dX6_alike_12 (by decide) ?_
    refine ab_putfield' hG 16 _ _ _ _ 82 21 0 0 _ dX6_alike_16 (List.Mem.head _) ?_
    have h := h _ rfl
    refine ab_aload_n' hG 19 _ _ _ _ 0 _ dX6_alike_19 rfl ?_
    refine ab_gI hG 20 _ _ _ _ 82 21 0 0 dX6_alike_20 (List.Mem.head _) rfl ?_
    refine ab_if_le' hG 23 _ _ _ _ (5) 28 _ dX6_alike_23 (by decide) (fun hc => ?_) (fun hc => ?_)
    · have h := h.1 hc
      refine ab_aload_n' hG 28 _ _ _ _ 0 _ dX6_alike_28 rfl ?_
      refine ab_bipush' hG 29 _ _ _ _ 12 12 dX6_alike_29 (by decide) ?_
      exact ab_invv' hG 31 _ [_] _ _ 0 114 _ 1 0 0 _ (21, _) dX6_alike_31 rfl rfl rfl rfl (Nat.le_of_ble_eq_true rfl) (Nat.le_of_ble_eq_true rfl) h
    · have h := h.2 hc
      refine ab_iconst' hG 26 _ _ _ _ 0 0 dX6_alike_26 (by decide) ?_
      exact ab_ireturn' hG 27 _ _ _ _ dX6_alike_27 (Or.inl rfl) (by decide) h
theorem bl_X6_alike_34 {Q : ab_Po} {G : ab_Gt} (hG : ab_Cl M_X6_alike Q G) (x1 : Int32) (S : ab_S) (h : G 41 [some (.inr (21, 0)), some (.inl x1), some (.inl ((S 21 0 18) - (1 : Int32))), none, none] [] S 0) : G 34 [some (.inr (21, 0)), some (.inl x1), none, none, none] [] S 0 := by
  refine ab_aload_n' hG 34 _ _ _ _ 0 _ dX6_alike_34 rfl ?_
  refine ab_gI hG 35 _ _ _ _ 93 21 18 0 dX6_alike_35 (List.Mem.tail _ (List.Mem.head _)) rfl ?_
  refine ab_iconst' hG 38 _ _ _ _ 1 1 dX6_alike_38 (by decide) ?_
  refine ab_isub' hG 39 _ _ _ _ _ _ dX6_alike_39 ?_
  refine ab_istore_n' hG 40 _ _ _ _ 2 _ dX6_alike_40 (Nat.le_of_ble_eq_true rfl) ?_
  exact h
theorem bl_X6_alike_41 {Q : ab_Po} {G : ab_Gt} (hG : ab_Cl M_X6_alike Q G) (x1 : Int32) (x2 : Int32) (S : ab_S) (h : (x2 < 0 → G 134 [some (.inr (21, 0)), some (.inl x1), some (.inl (0 : Int32)), none, none] [] S 0) ∧ (¬ x2 < 0 → vp_in x2 24 ∧ vp_in (S 34 0 x2.toNatClampNeg) 24 ∧ (∀ S1 : ab_S, S1 = ab_su S 36 0 (S 34 0 x2.toNatClampNeg).toNatClampNeg (S 34 0 x2.toNatClampNeg) → G 67 [some (.inr (21, 0)), some (.inl x1), some (.inl x2), some (.inl (S 34 0 x2.toNatClampNeg)), some (.inl ((S1 21 0 18) - (1 : Int32)))] [] S1 0))) : G 41 [some (.inr (21, 0)), some (.inl x1), some (.inl x2), none, none] [] S 0 := by
  refine ab_iload_n' hG 41 _ _ _ _ 2 _ dX6_alike_41 rfl ?_
  refine ab_if_lt' hG 42 _ _ _ _ (90) 132 _ dX6_alike_42 (by decide) (fun hc => ?_) (fun hc => ?_)
  · have h := h.1 hc
    refine ab_iconst' hG 132 _ _ _ _ 0 0 dX6_alike_132 (by decide) ?_
    refine ab_istore_n' hG 133 _ _ _ _ 2 _ dX6_alike_133 (Nat.le_of_ble_eq_true rfl) ?_
    exact h
  · have h := h.2 hc
    refine ab_aload_n' hG 45 _ _ _ _ 0 _ dX6_alike_45 rfl ?_
    refine ab_gR hG 46 _ _ _ _ 57 21 19 0 (34, 0) dX6_alike_46 (List.Mem.tail _ (List.Mem.tail _ (List.Mem.head _))) rfl ?_
    refine ab_iload_n' hG 49 _ _ _ _ 2 _ dX6_alike_49 rfl ?_
    refine ab_iaload' hG 50 _ _ _ _ 34 0 24 _ dX6_alike_50 rfl h.1 ?_
    have h := h.2
    refine ab_istore_n' hG 51 _ _ _ _ 3 _ dX6_alike_51 (Nat.le_of_ble_eq_true rfl) ?_
    refine ab_aload_n' hG 52 _ _ _ _ 0 _ dX6_alike_52 rfl ?_
    refine ab_gR hG 53 _ _ _ _ 63 21 22 0 (36, 0) dX6_alike_53 (List.Mem.tail _ (List.Mem.tail _ (List.Mem.tail _ (List.Mem.head _)))) rfl ?_
    refine ab_iload_n' hG 56 _ _ _ _ 3 _ dX6_alike_56 rfl ?_
    refine ab_iload_n' hG 57 _ _ _ _ 3 _ dX6_alike_57 rfl ?_
    refine ab_iastore' hG 58 _ _ _ _ 36 0 24 _ _ dX6_alike_58 rfl h.1 ?_
    have h := h.2
    have h := h _ rfl
    refine ab_aload_n' hG 59 _ _ _ _ 0 _ dX6_alike_59 rfl ?_
    refine ab_gI hG 60 _ _ _ _ 93 21 18 0 dX6_alike_60 (List.Mem.tail _ (List.Mem.head _)) rfl ?_
    refine ab_iconst' hG 63 _ _ _ _ 1 1 dX6_alike_63 (by decide) ?_
    refine ab_isub' hG 64 _ _ _ _ _ _ dX6_alike_64 ?_
    refine ab_istore' hG 65 _ _ _ _ 4 _ dX6_alike_65 (Nat.le_of_ble_eq_true rfl) ?_
    exact h
theorem bl_X6_alike_67 {Q : ab_Po} {G : ab_Gt} (hG : ab_Cl M_X6_alike Q G) (x1 : Int32) (x2 : Int32) (x3 : Int32) (x4 : Int32) (S : ab_S) (h : (x4 ≤ x2 → G 41 [some (.inr (21, 0)), some (.inl x1), some (.inl (x2 + (-1))), none, none] [] S 0) ∧ (¬ x4 ≤ x2 → vp_in x3 24 ∧ ((S 36 0 x3.toNatClampNeg) = x3 → vp_in x4 24 ∧ Sp_X6_areAlike [(.inr (21, 0)), (.inl x3), (.inl (S 34 0 x4.toNatClampNeg))] S (ab_back Q G 100 [some (.inr (21, 0)), some (.inl x1), some (.inl x2), some (.inl x3), some (.inl x4)] [(.inl x3), (.inr (36, 0))] 0)) ∧ (¬ (S 36 0 x3.toNatClampNeg) = x3 → G 41 [some (.inr (21, 0)), some (.inl x1), some (.inl (x2 + (-1))), none, none] [] S 0))) : G 67 [some (.inr (21, 0)), some (.inl x1), some (.inl x2), some (.inl x3), some (.inl x4)] [] S 0 := by
  refine ab_iload' hG 67 _ _ _ _ 4 _ dX6_alike_67 rfl ?_
  refine ab_iload_n' hG 69 _ _ _ _ 2 _ dX6_alike_69 rfl ?_
  refine ab_icmp_le' hG 70 _ _ _ _ (56) 126 _ _ dX6_alike_70 (by decide) (fun hc => ?_) (fun hc => ?_)
  · have h := h.1 hc
    refine ab_iinc' hG 126 _ _ _ _ 2 (-1) _ _ dX6_alike_126 rfl rfl ?_
    refine ab_goto' hG 129 _ _ _ _ (-88) 41 dX6_alike_129 (by decide) ?_
    refine ab_forget' hG _ _ _ _ _ 3 ?_
    refine ab_forget' hG _ _ _ _ _ 4 ?_
    exact h
  · have h := h.2 hc
    refine ab_aload_n' hG 73 _ _ _ _ 0 _ dX6_alike_73 rfl ?_
    refine ab_gR hG 74 _ _ _ _ 63 21 22 0 (36, 0) dX6_alike_74 (List.Mem.tail _ (List.Mem.tail _ (List.Mem.tail _ (List.Mem.head _)))) rfl ?_
    refine ab_iload_n' hG 77 _ _ _ _ 3 _ dX6_alike_77 rfl ?_
    refine ab_iaload' hG 78 _ _ _ _ 36 0 24 _ dX6_alike_78 rfl h.1 ?_
    have h := h.2
    refine ab_iload_n' hG 79 _ _ _ _ 3 _ dX6_alike_79 rfl ?_
    refine ab_icmp_ne' hG 80 _ _ _ _ (46) 126 _ _ dX6_alike_80 (by decide) (fun hc => ?_) (fun hc => ?_)
    · have h := h.2 hc
      refine ab_iinc' hG 126 _ _ _ _ 2 (-1) _ _ dX6_alike_126 rfl rfl ?_
      refine ab_goto' hG 129 _ _ _ _ (-88) 41 dX6_alike_129 (by decide) ?_
      refine ab_forget' hG _ _ _ _ _ 3 ?_
      refine ab_forget' hG _ _ _ _ _ 4 ?_
      exact h
    · have h := h.1 hc
      refine ab_aload_n' hG 83 _ _ _ _ 0 _ dX6_alike_83 rfl ?_
      refine ab_gR hG 84 _ _ _ _ 63 21 22 0 (36, 0) dX6_alike_84 (List.Mem.tail _ (List.Mem.tail _ (List.Mem.tail _ (List.Mem.head _)))) rfl ?_
      refine ab_iload_n' hG 87 _ _ _ _ 3 _ dX6_alike_87 rfl ?_
      refine ab_aload_n' hG 88 _ _ _ _ 0 _ dX6_alike_88 rfl ?_
      refine ab_iload_n' hG 89 _ _ _ _ 3 _ dX6_alike_89 rfl ?_
      refine ab_aload_n' hG 90 _ _ _ _ 0 _ dX6_alike_90 rfl ?_
      refine ab_gR hG 91 _ _ _ _ 57 21 19 0 (34, 0) dX6_alike_91 (List.Mem.tail _ (List.Mem.tail _ (List.Mem.head _))) rfl ?_
      refine ab_iload' hG 94 _ _ _ _ 4 _ dX6_alike_94 rfl ?_
      refine ab_iaload' hG 96 _ _ _ _ 34 0 24 _ dX6_alike_96 rfl h.1 ?_
      have h := h.2
      exact ab_invv' hG 97 _ [_, _] _ _ 0 184 _ 2 1 0 _ (21, _) dX6_alike_97 rfl rfl rfl rfl (Nat.le_of_ble_eq_true rfl) (Nat.le_of_ble_eq_true rfl) h
theorem bl_X6_alike_100 {Q : ab_Po} {G : ab_Gt} (hG : ab_Cl M_X6_alike Q G) (x1 : Int32) (x2 : Int32) (x3 : Int32) (x4 : Int32) (xs0 : Int32) (xs1 : Int32) (S : ab_S) (h : (xs0 = 0 → vp_in xs1 24 ∧ (∀ S1 : ab_S, S1 = ab_su S 36 0 xs1.toNatClampNeg x3 → G 67 [some (.inr (21, 0)), some (.inl x1), some (.inl x2), some (.inl x3), some (.inl (x4 + (-1)))] [] S1 0)) ∧ (¬ xs0 = 0 → vp_in x4 24 ∧ vp_in (S 34 0 x4.toNatClampNeg) 24 ∧ vp_in xs1 24 ∧ (∀ S2 : ab_S, S2 = ab_su S 36 0 xs1.toNatClampNeg (S 36 0 (S 34 0 x4.toNatClampNeg).toNatClampNeg) → G 67 [some (.inr (21, 0)), some (.inl x1), some (.inl x2), some (.inl x3), some (.inl (x4 + (-1)))] [] S2 0))) : G 100 [some (.inr (21, 0)), some (.inl x1), some (.inl x2), some (.inl x3), some (.inl x4)] [(.inl xs0), (.inl xs1), (.inr (36, 0))] S 0 := by
  refine ab_if_eq' hG 100 _ _ _ _ (18) 118 _ dX6_alike_100 (by decide) (fun hc => ?_) (fun hc => ?_)
  · have h := h.1 hc
    refine ab_iload_n' hG 118 _ _ _ _ 3 _ dX6_alike_118 rfl ?_
    refine ab_iastore' hG 119 _ _ _ _ 36 0 24 _ _ dX6_alike_119 rfl h.1 ?_
    have h := h.2
    have h := h _ rfl
    refine ab_iinc' hG 120 _ _ _ _ 4 (-1) _ _ dX6_alike_120 rfl rfl ?_
    refine ab_goto' hG 123 _ _ _ _ (-56) 67 dX6_alike_123 (by decide) ?_
    exact h
  · have h := h.2 hc
    refine ab_aload_n' hG 103 _ _ _ _ 0 _ dX6_alike_103 rfl ?_
    refine ab_gR hG 104 _ _ _ _ 63 21 22 0 (36, 0) dX6_alike_104 (List.Mem.tail _ (List.Mem.tail _ (List.Mem.tail _ (List.Mem.head _)))) rfl ?_
    refine ab_aload_n' hG 107 _ _ _ _ 0 _ dX6_alike_107 rfl ?_
    refine ab_gR hG 108 _ _ _ _ 57 21 19 0 (34, 0) dX6_alike_108 (List.Mem.tail _ (List.Mem.tail _ (List.Mem.head _))) rfl ?_
    refine ab_iload' hG 111 _ _ _ _ 4 _ dX6_alike_111 rfl ?_
    refine ab_iaload' hG 113 _ _ _ _ 34 0 24 _ dX6_alike_113 rfl h.1 ?_
    have h := h.2
    refine ab_iaload' hG 114 _ _ _ _ 36 0 24 _ dX6_alike_114 rfl h.1 ?_
    have h := h.2
    refine ab_goto' hG 115 _ _ _ _ (4) 119 dX6_alike_115 (by decide) ?_
    refine ab_iastore' hG 119 _ _ _ _ 36 0 24 _ _ dX6_alike_119 rfl h.1 ?_
    have h := h.2
    have h := h _ rfl
    refine ab_iinc' hG 120 _ _ _ _ 4 (-1) _ _ dX6_alike_120 rfl rfl ?_
    refine ab_goto' hG 123 _ _ _ _ (-56) 67 dX6_alike_123 (by decide) ?_
    exact h
theorem bl_X6_alike_134 {Q : ab_Po} {G : ab_Gt} (hG : ab_Cl M_X6_alike Q G) (x1 : Int32) (x2 : Int32) (S : ab_S) (h : vp_in x2 24 ∧ vp_in (S 34 0 x2.toNatClampNeg) 24 ∧ vp_in x1 24 ∧ ((S 36 0 (S 34 0 x2.toNatClampNeg).toNatClampNeg) = (S 36 0 x1.toNatClampNeg) → vp_in x2 24 ∧ Q (.inl (some (S 34 0 x2.toNatClampNeg))) S) ∧ (¬ (S 36 0 (S 34 0 x2.toNatClampNeg).toNatClampNeg) = (S 36 0 x1.toNatClampNeg) → G 134 [some (.inr (21, 0)), some (.inl x1), some (.inl (x2 + 1)), none, none] [] S 0)) : G 134 [some (.inr (21, 0)), some (.inl x1), some (.inl x2), none, none] [] S 0 := by
  refine ab_aload_n' hG 134 _ _ _ _ 0 _ dX6_alike_134 rfl ?_
  refine ab_gR hG 135 _ _ _ _ 63 21 22 0 (36, 0) dX6_alike_135 (List.Mem.tail _ (List.Mem.tail _ (List.Mem.tail _ (List.Mem.head _)))) rfl ?_
  refine ab_aload_n' hG 138 _ _ _ _ 0 _ dX6_alike_138 rfl ?_
  refine ab_gR hG 139 _ _ _ _ 57 21 19 0 (34, 0) dX6_alike_139 (List.Mem.tail _ (List.Mem.tail _ (List.Mem.head _))) rfl ?_
  refine ab_iload_n' hG 142 _ _ _ _ 2 _ dX6_alike_142 rfl ?_
  refine ab_iaload' hG 143 _ _ _ _ 34 0 24 _ dX6_alike_143 rfl h.1 ?_
  have h := h.2
  refine ab_iaload' hG 144 _ _ _ _ 36 0 24 _ dX6_alike_144 rfl h.1 ?_
  have h := h.2
  refine ab_aload_n' hG 145 _ _ _ _ 0 _ dX6_alike_145 rfl ?_
  refine ab_gR hG 146 _ _ _ _ 63 21 22 0 (36, 0) dX6_alike_146 (List.Mem.tail _ (List.Mem.tail _ (List.Mem.tail _ (List.Mem.head _)))) rfl ?_
  refine ab_iload_n' hG 149 _ _ _ _ 1 _ dX6_alike_149 rfl ?_
  refine ab_iaload' hG 150 _ _ _ _ 36 0 24 _ dX6_alike_150 rfl h.1 ?_
  have h := h.2
  refine ab_icmp_eq' hG 151 _ _ _ _ (9) 160 _ _ dX6_alike_151 (by decide) (fun hc => ?_) (fun hc => ?_)
  · have h := h.1 hc
    refine ab_aload_n' hG 160 _ _ _ _ 0 _ dX6_alike_160 rfl ?_
    refine ab_gR hG 161 _ _ _ _ 57 21 19 0 (34, 0) dX6_alike_161 (List.Mem.tail _ (List.Mem.tail _ (List.Mem.head _))) rfl ?_
    refine ab_iload_n' hG 164 _ _ _ _ 2 _ dX6_alike_164 rfl ?_
    refine ab_iaload' hG 165 _ _ _ _ 34 0 24 _ dX6_alike_165 rfl h.1 ?_
    have h := h.2
    exact ab_ireturn' hG 166 _ _ _ _ dX6_alike_166 (Or.inl rfl) (by decide) h
  · have h := h.2 hc
    refine ab_iinc' hG 154 _ _ _ _ 2 1 _ _ dX6_alike_154 rfl rfl ?_
    refine ab_goto' hG 157 _ _ _ _ (-23) 134 dX6_alike_157 (by decide) ?_
    exact h
theorem bl_X6_leave_0 {Q : ab_Po} {G : ab_Gt} (hG : ab_Cl M_X6_leave Q G) (x1 : Int32) (x2 : Int32) (S : ab_S) (h : Sp_X6_walk [(.inr (21, 0)), (.inl x1)] S (ab_back Q G 5 [some (.inr (21, 0)), some (.inl x1), some (.inl x2), none, none, none, none] [] 0)) : G 0 [some (.inr (21, 0)), some (.inl x1), some (.inl x2), none, none, none, none] [] S 0 := by
  refine ab_aload_n' hG 0 _ _ _ _ 0 _ dX6_leave_0 rfl ?_
  refine ab_iload_n' hG 1 _ _ _ _ 1 _ dX6_leave_1 rfl ?_
  exact ab_invv' hG 2 _ [_] _ _ 0 114 _ 1 0 0 _ (21, _) dX6_leave_2 rfl rfl rfl rfl (Nat.le_of_ble_eq_true rfl) (Nat.le_of_ble_eq_true rfl) h
theorem bl_X6_leave_5 {Q : ab_Po} {G : ab_Gt} (hG : ab_Cl M_X6_leave Q G) (x1 : Int32) (x2 : Int32) (S : ab_S) (h : (∀ S1 : ab_S, S1 = ab_su S 21 0 21 (0 : Int32) → G 15 [some (.inr (21, 0)), some (.inl x1), some (.inl x2), some (.inl (0 : Int32)), some (.inl (0 : Int32)), none, none] [] S1 0)) : G 5 [some (.inr (21, 0)), some (.inl x1), some (.inl x2), none, none, none, none] [] S 0 := by
  refine ab_iconst' hG 5 _ _ _ _ 0 0 dX6_leave_5 (by decide) ?_
  refine ab_istore_n' hG 6 _ _ _ _ 3 _ dX6_leave_6 (Nat.le_of_ble_eq_true rfl) ?_
  refine ab_aload_n' hG 7 _ _ _ _ 0 _ dX6_leave_7 rfl ?_
  refine ab_iconst' hG 8 _ _ _ _ 0 0 dX6_leave_8 (by decide) ?_
  refine ab_putfield' hG 9 _ _ _ _ 96 21 21 0 _ dX6_leave_9 (List.Mem.head _) ?_
  have h := h _ rfl
  refine ab_iconst' hG 12 _ _ _ _ 0 0 dX6_leave_12 (by decide) ?_
  refine ab_istore' hG 13 _ _ _ _ 4 _ dX6_leave_13 (Nat.le_of_ble_eq_true rfl) ?_
  exact h
theorem bl_X6_leave_15 {Q : ab_Po} {G : ab_Gt} (hG : ab_Cl M_X6_leave Q G) (x1 : Int32) (x2 : Int32) (x3 : Int32) (x4 : Int32) (S : ab_S) (h : ((S 21 0 18) ≤ x4 → G 121 [some (.inr (21, 0)), some (.inl x1), some (.inl x2), some (.inl x3), some (.inl x4), none, none] [] S 0) ∧ (¬ (S 21 0 18) ≤ x4 → vp_in x4 24 ∧ G 33 [some (.inr (21, 0)), some (.inl x1), some (.inl x2), some (.inl x3), some (.inl x4), some (.inl (S 34 0 x4.toNatClampNeg)), none] [] S 0)) : G 15 [some (.inr (21, 0)), some (.inl x1), some (.inl x2), some (.inl x3), some (.inl x4), none, none] [] S 0 := by
  refine ab_iload' hG 15 _ _ _ _ 4 _ dX6_leave_15 rfl ?_
  refine ab_aload_n' hG 17 _ _ _ _ 0 _ dX6_leave_17 rfl ?_
  refine ab_gI hG 18 _ _ _ _ 93 21 18 0 dX6_leave_18 (List.Mem.head _) rfl ?_
  refine ab_icmp_ge' hG 21 _ _ _ _ (100) 121 _ _ dX6_leave_21 (by decide) (fun hc => ?_) (fun hc => ?_)
  · have h := h.1 hc
    exact h
  · have h := h.2 hc
    refine ab_aload_n' hG 24 _ _ _ _ 0 _ dX6_leave_24 rfl ?_
    refine ab_gR hG 25 _ _ _ _ 57 21 19 0 (34, 0) dX6_leave_25 (List.Mem.tail _ (List.Mem.head _)) rfl ?_
    refine ab_iload' hG 28 _ _ _ _ 4 _ dX6_leave_28 rfl ?_
    refine ab_iaload' hG 30 _ _ _ _ 34 0 24 _ dX6_leave_30 rfl h.1 ?_
    have h := h.2
    refine ab_istore' hG 31 _ _ _ _ 5 _ dX6_leave_31 (Nat.le_of_ble_eq_true rfl) ?_
    exact h
theorem bl_X6_leave_33 {Q : ab_Po} {G : ab_Gt} (hG : ab_Cl M_X6_leave Q G) (x1 : Int32) (x2 : Int32) (x3 : Int32) (x4 : Int32) (x5 : Int32) (S : ab_S) (h : ((S 21 0 21) ≤ 0 → vp_in (S 21 0 21) 24 ∧ (∀ S1 : ab_S, S1 = ab_su S 35 0 (S 21 0 21).toNatClampNeg x5 → (∀ S2 : ab_S, S2 = ab_su S1 21 0 21 ((S1 21 0 21) + (1 : Int32)) → G 15 [some (.inr (21, 0)), some (.inl x1), some (.inl x2), some (.inl x3), some (.inl (x4 + 1)), none, none] [] S2 0))) ∧ (¬ (S 21 0 21) ≤ 0 → vp_in ((S 21 0 21) - (1 : Int32)) 24 ∧ Sp_X6_isAt [(.inr (21, 0)), (.inl x1), (.inl x5), (.inl (S 35 0 ((S 21 0 21) - (1 : Int32)).toNatClampNeg))] S (ab_back Q G 58 [some (.inr (21, 0)), some (.inl x1), some (.inl x2), some (.inl x3), some (.inl x4), some (.inl x5), none] [] 0))) : G 33 [some (.inr (21, 0)), some (.inl x1), some (.inl x2), some (.inl x3), some (.inl x4), some (.inl x5), none] [] S 0 := by
  refine ab_aload_n' hG 33 _ _ _ _ 0 _ dX6_leave_33 rfl ?_
  refine ab_gI hG 34 _ _ _ _ 96 21 21 0 dX6_leave_34 (List.Mem.tail _ (List.Mem.tail _ (List.Mem.head _))) rfl ?_
  refine ab_if_le' hG 37 _ _ _ _ (57) 94 _ dX6_leave_37 (by decide) (fun hc => ?_) (fun hc => ?_)
  · have h := h.1 hc
    refine ab_aload_n' hG 94 _ _ _ _ 0 _ dX6_leave_94 rfl ?_
    refine ab_gR hG 95 _ _ _ _ 60 21 20 0 (35, 0) dX6_leave_95 (List.Mem.tail _ (List.Mem.tail _ (List.Mem.tail _ (List.Mem.head _)))) rfl ?_
    refine ab_aload_n' hG 98 _ _ _ _ 0 _ dX6_leave_98 rfl ?_
    refine ab_gI hG 99 _ _ _ _ 96 21 21 0 dX6_leave_99 (List.Mem.tail _ (List.Mem.tail _ (List.Mem.head _))) rfl ?_
    refine ab_iload' hG 102 _ _ _ _ 5 _ dX6_leave_102 rfl ?_
    refine ab_iastore' hG 104 _ _ _ _ 35 0 24 _ _ dX6_leave_104 rfl h.1 ?_
    have h := h.2
    have h := h _ rfl
    refine ab_aload_n' hG 105 _ _ _ _ 0 _ dX6_leave_105 rfl ?_
    refine ab_dup' hG 106 _ _ _ _ _ dX6_leave_106 ?_
    refine ab_gI hG 107 _ _ _ _ 96 21 21 0 dX6_leave_107 (List.Mem.tail _ (List.Mem.tail _ (List.Mem.head _))) rfl ?_
    refine ab_iconst' hG 110 _ _ _ _ 1 1 dX6_leave_110 (by decide) ?_
    refine ab_iadd' hG 111 _ _ _ _ _ _ dX6_leave_111 ?_
    refine ab_putfield' hG 112 _ _ _ _ 96 21 21 0 _ dX6_leave_112 (List.Mem.head _) ?_
    have h := h _ rfl
    refine ab_iinc' hG 115 _ _ _ _ 4 1 _ _ dX6_leave_115 rfl rfl ?_
    refine ab_goto' hG 118 _ _ _ _ (-103) 15 dX6_leave_118 (by decide) ?_
    refine ab_forget' hG _ _ _ _ _ 5 ?_
    exact h
  · have h := h.2 hc
    refine ab_aload_n' hG 40 _ _ _ _ 0 _ dX6_leave_40 rfl ?_
    refine ab_iload_n' hG 41 _ _ _ _ 1 _ dX6_leave_41 rfl ?_
    refine ab_iload' hG 42 _ _ _ _ 5 _ dX6_leave_42 rfl ?_
    refine ab_aload_n' hG 44 _ _ _ _ 0 _ dX6_leave_44 rfl ?_
    refine ab_gR hG 45 _ _ _ _ 60 21 20 0 (35, 0) dX6_leave_45 (List.Mem.tail _ (List.Mem.tail _ (List.Mem.tail _ (List.Mem.head _)))) rfl ?_
    refine ab_aload_n' hG 48 _ _ _ _ 0 _ dX6_leave_48 rfl ?_
    refine ab_gI hG 49 _ _ _ _ 96 21 21 0 dX6_leave_49 (List.Mem.tail _ (List.Mem.tail _ (List.Mem.head _))) rfl ?_
    refine ab_iconst' hG 52 _ _ _ _ 1 1 dX6_leave_52 (by decide) ?_
    refine ab_isub' hG 53 _ _ _ _ _ _ dX6_leave_53 ?_
    refine ab_iaload' hG 54 _ _ _ _ 35 0 24 _ dX6_leave_54 rfl h.1 ?_
    have h := h.2
    exact ab_invv' hG 55 _ [_, _, _] _ _ 0 121 _ 3 1 0 _ (21, _) dX6_leave_55 rfl rfl rfl rfl (Nat.le_of_ble_eq_true rfl) (Nat.le_of_ble_eq_true rfl) h
theorem bl_X6_leave_58 {Q : ab_Po} {G : ab_Gt} (hG : ab_Cl M_X6_leave Q G) (x1 : Int32) (x2 : Int32) (x3 : Int32) (x4 : Int32) (x5 : Int32) (xs0 : Int32) (S : ab_S) (h : (xs0 = 0 → (∀ S3 : ab_S, S3 = ab_su S 21 0 21 ((S 21 0 21) - (1 : Int32)) → vp_in (S3 21 0 21) 24 ∧ vp_in (x2 + x3) 48 ∧ (∀ S4 : ab_S, S4 = ab_su S3 37 0 (x2 + x3).toNatClampNeg (S3 35 0 (S3 21 0 21).toNatClampNeg) → G 33 [some (.inr (21, 0)), some (.inl x1), some (.inl x2), some (.inl (x3 + 1)), some (.inl x4), some (.inl x5), none] [] S4 0))) ∧ (¬ xs0 = 0 → vp_in (S 21 0 21) 24 ∧ (∀ S1 : ab_S, S1 = ab_su S 35 0 (S 21 0 21).toNatClampNeg x5 → (∀ S2 : ab_S, S2 = ab_su S1 21 0 21 ((S1 21 0 21) + (1 : Int32)) → G 15 [some (.inr (21, 0)), some (.inl x1), some (.inl x2), some (.inl x3), some (.inl (x4 + 1)), none, none] [] S2 0)))) : G 58 [some (.inr (21, 0)), some (.inl x1), some (.inl x2), some (.inl x3), some (.inl x4), some (.inl x5), none] [(.inl xs0)] S 0 := by
  refine ab_if_ne' hG 58 _ _ _ _ (36) 94 _ dX6_leave_58 (by decide) (fun hc => ?_) (fun hc => ?_)
  · have h := h.2 hc
    refine ab_aload_n' hG 94 _ _ _ _ 0 _ dX6_leave_94 rfl ?_
    refine ab_gR hG 95 _ _ _ _ 60 21 20 0 (35, 0) dX6_leave_95 (List.Mem.tail _ (List.Mem.tail _ (List.Mem.tail _ (List.Mem.head _)))) rfl ?_
    refine ab_aload_n' hG 98 _ _ _ _ 0 _ dX6_leave_98 rfl ?_
    refine ab_gI hG 99 _ _ _ _ 96 21 21 0 dX6_leave_99 (List.Mem.tail _ (List.Mem.tail _ (List.Mem.head _))) rfl ?_
    refine ab_iload' hG 102 _ _ _ _ 5 _ dX6_leave_102 rfl ?_
    refine ab_iastore' hG 104 _ _ _ _ 35 0 24 _ _ dX6_leave_104 rfl h.1 ?_
    have h := h.2
    have h := h _ rfl
    refine ab_aload_n' hG 105 _ _ _ _ 0 _ dX6_leave_105 rfl ?_
    refine ab_dup' hG 106 _ _ _ _ _ dX6_leave_106 ?_
    refine ab_gI hG 107 _ _ _ _ 96 21 21 0 dX6_leave_107 (List.Mem.tail _ (List.Mem.tail _ (List.Mem.head _))) rfl ?_
    refine ab_iconst' hG 110 _ _ _ _ 1 1 dX6_leave_110 (by decide) ?_
    refine ab_iadd' hG 111 _ _ _ _ _ _ dX6_leave_111 ?_
    refine ab_putfield' hG 112 _ _ _ _ 96 21 21 0 _ dX6_leave_112 (List.Mem.head _) ?_
    have h := h _ rfl
    refine ab_iinc' hG 115 _ _ _ _ 4 1 _ _ dX6_leave_115 rfl rfl ?_
    refine ab_goto' hG 118 _ _ _ _ (-103) 15 dX6_leave_118 (by decide) ?_
    refine ab_forget' hG _ _ _ _ _ 5 ?_
    exact h
  · have h := h.1 hc
    refine ab_aload_n' hG 61 _ _ _ _ 0 _ dX6_leave_61 rfl ?_
    refine ab_dup' hG 62 _ _ _ _ _ dX6_leave_62 ?_
    refine ab_gI hG 63 _ _ _ _ 96 21 21 0 dX6_leave_63 (List.Mem.tail _ (List.Mem.tail _ (List.Mem.head _))) rfl ?_
    refine ab_iconst' hG 66 _ _ _ _ 1 1 dX6_leave_66 (by decide) ?_
    refine ab_isub' hG 67 _ _ _ _ _ _ dX6_leave_67 ?_
    refine ab_putfield' hG 68 _ _ _ _ 96 21 21 0 _ dX6_leave_68 (List.Mem.head _) ?_
    have h := h _ rfl
    refine ab_aload_n' hG 71 _ _ _ _ 0 _ dX6_leave_71 rfl ?_
    refine ab_gR hG 72 _ _ _ _ 66 21 23 0 (37, 0) dX6_leave_72 (List.Mem.tail _ (List.Mem.tail _ (List.Mem.tail _ (List.Mem.tail _ (List.Mem.head _))))) rfl ?_
    refine ab_iload_n' hG 75 _ _ _ _ 2 _ dX6_leave_75 rfl ?_
    refine ab_iload_n' hG 76 _ _ _ _ 3 _ dX6_leave_76 rfl ?_
    refine ab_iadd' hG 77 _ _ _ _ _ _ dX6_leave_77 ?_
    refine ab_aload_n' hG 78 _ _ _ _ 0 _ dX6_leave_78 rfl ?_
    refine ab_gR hG 79 _ _ _ _ 60 21 20 0 (35, 0) dX6_leave_79 (List.Mem.tail _ (List.Mem.tail _ (List.Mem.tail _ (List.Mem.head _)))) rfl ?_
    refine ab_aload_n' hG 82 _ _ _ _ 0 _ dX6_leave_82 rfl ?_
    refine ab_gI hG 83 _ _ _ _ 96 21 21 0 dX6_leave_83 (List.Mem.tail _ (List.Mem.tail _ (List.Mem.head _))) rfl ?_
    refine ab_iaload' hG 86 _ _ _ _ 35 0 24 _ dX6_leave_86 rfl h.1 ?_
    have h := h.2
    refine ab_iastore' hG 87 _ _ _ _ 37 0 48 _ _ dX6_leave_87 rfl h.1 ?_
    have h := h.2
    have h := h _ rfl
    refine ab_iinc' hG 88 _ _ _ _ 3 1 _ _ dX6_leave_88 rfl rfl ?_
    refine ab_goto' hG 91 _ _ _ _ (-58) 33 dX6_leave_91 (by decide) ?_
    exact h
theorem bl_X6_leave_121 {Q : ab_Po} {G : ab_Gt} (hG : ab_Cl M_X6_leave Q G) (x1 : Int32) (x2 : Int32) (x3 : Int32) (x4 : Int32) (S : ab_S) (h : ((S 21 0 21) ≤ 0 → G 164 [some (.inr (21, 0)), some (.inl x1), some (.inl x2), some (.inl x3), some (.inl (0 : Int32)), none, none] [] S 0) ∧ (¬ (S 21 0 21) ≤ 0 → (∀ S1 : ab_S, S1 = ab_su S 21 0 21 ((S 21 0 21) - (1 : Int32)) → vp_in (S1 21 0 21) 24 ∧ vp_in (x2 + x3) 48 ∧ (∀ S2 : ab_S, S2 = ab_su S1 37 0 (x2 + x3).toNatClampNeg (S1 35 0 (S1 21 0 21).toNatClampNeg) → G 121 [some (.inr (21, 0)), some (.inl x1), some (.inl x2), some (.inl (x3 + 1)), some (.inl x4), none, none] [] S2 0)))) : G 121 [some (.inr (21, 0)), some (.inl x1), some (.inl x2), some (.inl x3), some (.inl x4), none, none] [] S 0 := by
  refine ab_aload_n' hG 121 _ _ _ _ 0 _ dX6_leave_121 rfl ?_
  refine ab_gI hG 122 _ _ _ _ 96 21 21 0 dX6_leave_122 (List.Mem.tail _ (List.Mem.tail _ (List.Mem.head _))) rfl ?_
  refine ab_if_le' hG 125 _ _ _ _ (36) 161 _ dX6_leave_125 (by decide) (fun hc => ?_) (fun hc => ?_)
  · have h := h.1 hc
    refine ab_iconst' hG 161 _ _ _ _ 0 0 dX6_leave_161 (by decide) ?_
    refine ab_istore' hG 162 _ _ _ _ 4 _ dX6_leave_162 (Nat.le_of_ble_eq_true rfl) ?_
    exact h
  · have h := h.2 hc
    refine ab_aload_n' hG 128 _ _ _ _ 0 _ dX6_leave_128 rfl ?_
    refine ab_dup' hG 129 _ _ _ _ _ dX6_leave_129 ?_
    refine ab_gI hG 130 _ _ _ _ 96 21 21 0 dX6_leave_130 (List.Mem.tail _ (List.Mem.tail _ (List.Mem.head _))) rfl ?_
    refine ab_iconst' hG 133 _ _ _ _ 1 1 dX6_leave_133 (by decide) ?_
    refine ab_isub' hG 134 _ _ _ _ _ _ dX6_leave_134 ?_
    refine ab_putfield' hG 135 _ _ _ _ 96 21 21 0 _ dX6_leave_135 (List.Mem.head _) ?_
    have h := h _ rfl
    refine ab_aload_n' hG 138 _ _ _ _ 0 _ dX6_leave_138 rfl ?_
    refine ab_gR hG 139 _ _ _ _ 66 21 23 0 (37, 0) dX6_leave_139 (List.Mem.tail _ (List.Mem.tail _ (List.Mem.tail _ (List.Mem.tail _ (List.Mem.head _))))) rfl ?_
    refine ab_iload_n' hG 142 _ _ _ _ 2 _ dX6_leave_142 rfl ?_
    refine ab_iload_n' hG 143 _ _ _ _ 3 _ dX6_leave_143 rfl ?_
    refine ab_iadd' hG 144 _ _ _ _ _ _ dX6_leave_144 ?_
    refine ab_aload_n' hG 145 _ _ _ _ 0 _ dX6_leave_145 rfl ?_
    refine ab_gR hG 146 _ _ _ _ 60 21 20 0 (35, 0) dX6_leave_146 (List.Mem.tail _ (List.Mem.tail _ (List.Mem.tail _ (List.Mem.head _)))) rfl ?_
    refine ab_aload_n' hG 149 _ _ _ _ 0 _ dX6_leave_149 rfl ?_
    refine ab_gI hG 150 _ _ _ _ 96 21 21 0 dX6_leave_150 (List.Mem.tail _ (List.Mem.tail _ (List.Mem.head _))) rfl ?_
    refine ab_iaload' hG 153 _ _ _ _ 35 0 24 _ dX6_leave_153 rfl h.1 ?_
    have h := h.2
    refine ab_iastore' hG 154 _ _ _ _ 37 0 48 _ _ dX6_leave_154 rfl h.1 ?_
    have h := h.2
    have h := h _ rfl
    refine ab_iinc' hG 155 _ _ _ _ 3 1 _ _ dX6_leave_155 rfl rfl ?_
    refine ab_goto' hG 158 _ _ _ _ (-37) 121 dX6_leave_158 (by decide) ?_
    exact h
theorem bl_X6_leave_164 {Q : ab_Po} {G : ab_Gt} (hG : ab_Cl M_X6_leave Q G) (x1 : Int32) (x2 : Int32) (x3 : Int32) (x4 : Int32) (S : ab_S) (h : (x3 ≤ x4 → Q (.inl (some x3)) S) ∧ (¬ x3 ≤ x4 → G 180 [some (.inr (21, 0)), some (.inl x1), some (.inl x2), some (.inl x3), some (.inl x4), some (.inl x4), some (.inl (x4 - (1 : Int32)))] [] S 0)) : G 164 [some (.inr (21, 0)), some (.inl x1), some (.inl x2), some (.inl x3), some (.inl x4), none, none] [] S 0 := by
  refine ab_iload' hG 164 _ _ _ _ 4 _ dX6_leave_164 rfl ?_
  refine ab_iload_n' hG 166 _ _ _ _ 3 _ dX6_leave_166 rfl ?_
  refine ab_icmp_ge' hG 167 _ _ _ _ (76) 243 _ _ dX6_leave_167 (by decide) (fun hc => ?_) (fun hc => ?_)
  · have h := h.1 hc
    refine ab_iload_n' hG 243 _ _ _ _ 3 _ dX6_leave_243 rfl ?_
    exact ab_ireturn' hG 244 _ _ _ _ dX6_leave_244 (Or.inl rfl) (by decide) h
  · have h := h.2 hc
    refine ab_iload' hG 170 _ _ _ _ 4 _ dX6_leave_170 rfl ?_
    refine ab_istore' hG 172 _ _ _ _ 5 _ dX6_leave_172 (Nat.le_of_ble_eq_true rfl) ?_
    refine ab_iload' hG 174 _ _ _ _ 4 _ dX6_leave_174 rfl ?_
    refine ab_iconst' hG 176 _ _ _ _ 1 1 dX6_leave_176 (by decide) ?_
    refine ab_isub' hG 177 _ _ _ _ _ _ dX6_leave_177 ?_
    refine ab_istore' hG 178 _ _ _ _ 6 _ dX6_leave_178 (Nat.le_of_ble_eq_true rfl) ?_
    exact h
theorem bl_X6_leave_180 {Q : ab_Po} {G : ab_Gt} (hG : ab_Cl M_X6_leave Q G) (x1 : Int32) (x2 : Int32) (x3 : Int32) (x4 : Int32) (x5 : Int32) (x6 : Int32) (S : ab_S) (h : (x6 < 0 → vp_in (x2 + x4) 48 ∧ (∀ S1 : ab_S, S1 = ab_su S 38 0 (x2 + x4).toNatClampNeg x5 → G 164 [some (.inr (21, 0)), some (.inl x1), some (.inl x2), some (.inl x3), some (.inl (x4 + 1)), none, none] [] S1 0)) ∧ (¬ x6 < 0 → vp_in (x2 + x6) 48 ∧ vp_in (x2 + x4) 48 ∧ Sp_X6_isAt [(.inr (21, 0)), (.inl x1), (.inl (S 37 0 (x2 + x6).toNatClampNeg)), (.inl (S 37 0 (x2 + x4).toNatClampNeg))] S (ab_back Q G 208 [some (.inr (21, 0)), some (.inl x1), some (.inl x2), some (.inl x3), some (.inl x4), some (.inl x5), some (.inl x6)] [] 0))) : G 180 [some (.inr (21, 0)), some (.inl x1), some (.inl x2), some (.inl x3), some (.inl x4), some (.inl x5), some (.inl x6)] [] S 0 := by
  refine ab_iload' hG 180 _ _ _ _ 6 _ dX6_leave_180 rfl ?_
  refine ab_if_lt' hG 182 _ _ _ _ (44) 226 _ dX6_leave_182 (by decide) (fun hc => ?_) (fun hc => ?_)
  · have h := h.1 hc
    refine ab_aload_n' hG 226 _ _ _ _ 0 _ dX6_leave_226 rfl ?_
    refine ab_gR hG 227 _ _ _ _ 69 21 24 0 (38, 0) dX6_leave_227 (List.Mem.tail _ (List.Mem.tail _ (List.Mem.tail _ (List.Mem.tail _ (List.Mem.tail _ (List.Mem.head _)))))) rfl ?_
    refine ab_iload_n' hG 230 _ _ _ _ 2 _ dX6_leave_230 rfl ?_
    refine ab_iload' hG 231 _ _ _ _ 4 _ dX6_leave_231 rfl ?_
    refine ab_iadd' hG 233 _ _ _ _ _ _ dX6_leave_233 ?_
    refine ab_iload' hG 234 _ _ _ _ 5 _ dX6_leave_234 rfl ?_
    refine ab_iastore' hG 236 _ _ _ _ 38 0 48 _ _ dX6_leave_236 rfl h.1 ?_
    have h := h.2
    have h := h _ rfl
    refine ab_iinc' hG 237 _ _ _ _ 4 1 _ _ dX6_leave_237 rfl rfl ?_
    refine ab_goto' hG 240 _ _ _ _ (-76) 164 dX6_leave_240 (by decide) ?_
    refine ab_forget' hG _ _ _ _ _ 5 ?_
    refine ab_forget' hG _ _ _ _ _ 6 ?_
    exact h
  · have h := h.2 hc
    refine ab_aload_n' hG 185 _ _ _ _ 0 _ dX6_leave_185 rfl ?_
    refine ab_iload_n' hG 186 _ _ _ _ 1 _ dX6_leave_186 rfl ?_
    refine ab_aload_n' hG 187 _ _ _ _ 0 _ dX6_leave_187 rfl ?_
    refine ab_gR hG 188 _ _ _ _ 66 21 23 0 (37, 0) dX6_leave_188 (List.Mem.tail _ (List.Mem.tail _ (List.Mem.tail _ (List.Mem.tail _ (List.Mem.head _))))) rfl ?_
    refine ab_iload_n' hG 191 _ _ _ _ 2 _ dX6_leave_191 rfl ?_
    refine ab_iload' hG 192 _ _ _ _ 6 _ dX6_leave_192 rfl ?_
    refine ab_iadd' hG 194 _ _ _ _ _ _ dX6_leave_194 ?_
    refine ab_iaload' hG 195 _ _ _ _ 37 0 48 _ dX6_leave_195 rfl h.1 ?_
    have h := h.2
    refine ab_aload_n' hG 196 _ _ _ _ 0 _ dX6_leave_196 rfl ?_
    refine ab_gR hG 197 _ _ _ _ 66 21 23 0 (37, 0) dX6_leave_197 (List.Mem.tail _ (List.Mem.tail _ (List.Mem.tail _ (List.Mem.tail _ (List.Mem.head _))))) rfl ?_
    refine ab_iload_n' hG 200 _ _ _ _ 2 _ dX6_leave_200 rfl ?_
    refine ab_iload' hG 201 _ _ _ _ 4 _ dX6_leave_201 rfl ?_
    refine ab_iadd' hG 203 _ _ _ _ _ _ dX6_leave_203 ?_
    refine ab_iaload' hG 204 _ _ _ _ 37 0 48 _ dX6_leave_204 rfl h.1 ?_
    have h := h.2
    exact ab_invv' hG 205 _ [_, _, _] _ _ 0 121 _ 3 1 0 _ (21, _) dX6_leave_205 rfl rfl rfl rfl (Nat.le_of_ble_eq_true rfl) (Nat.le_of_ble_eq_true rfl) h
theorem bl_X6_leave_208 {Q : ab_Po} {G : ab_Gt} (hG : ab_Cl M_X6_leave Q G) (x1 : Int32) (x2 : Int32) (x3 : Int32) (x4 : Int32) (x5 : Int32) (x6 : Int32) (xs0 : Int32) (S : ab_S) (h : (xs0 = 0 → G 180 [some (.inr (21, 0)), some (.inl x1), some (.inl x2), some (.inl x3), some (.inl x4), some (.inl x5), some (.inl (x6 + (-1)))] [] S 0) ∧ (¬ xs0 = 0 → G 180 [some (.inr (21, 0)), some (.inl x1), some (.inl x2), some (.inl x3), some (.inl x4), some (.inl x6), some (.inl (x6 + (-1)))] [] S 0)) : G 208 [some (.inr (21, 0)), some (.inl x1), some (.inl x2), some (.inl x3), some (.inl x4), some (.inl x5), some (.inl x6)] [(.inl xs0)] S 0 := by
  refine ab_if_eq' hG 208 _ _ _ _ (8) 216 _ dX6_leave_208 (by decide) (fun hc => ?_) (fun hc => ?_)
  · have h := h.1 hc
    refine ab_iload' hG 216 _ _ _ _ 5 _ dX6_leave_216 rfl ?_
    refine ab_istore' hG 218 _ _ _ _ 5 _ dX6_leave_218 (Nat.le_of_ble_eq_true rfl) ?_
    refine ab_iinc' hG 220 _ _ _ _ 6 (-1) _ _ dX6_leave_220 rfl rfl ?_
    refine ab_goto' hG 223 _ _ _ _ (-43) 180 dX6_leave_223 (by decide) ?_
    exact h
  · have h := h.2 hc
    refine ab_iload' hG 211 _ _ _ _ 6 _ dX6_leave_211 rfl ?_
    refine ab_goto' hG 213 _ _ _ _ (5) 218 dX6_leave_213 (by decide) ?_
    refine ab_istore' hG 218 _ _ _ _ 5 _ dX6_leave_218 (Nat.le_of_ble_eq_true rfl) ?_
    refine ab_iinc' hG 220 _ _ _ _ 6 (-1) _ _ dX6_leave_220 rfl rfl ?_
    refine ab_goto' hG 223 _ _ _ _ (-43) 180 dX6_leave_223 (by decide) ?_
    exact h
theorem bl_X6_least_0 {Q : ab_Po} {G : ab_Gt} (hG : ab_Cl M_X6_least Q G) (x0 : Int32) (x1 : Int32) (S : ab_S) (h : (x1 ≤ x0 → Q (.inl (some x1)) S) ∧ (¬ x1 ≤ x0 → Q (.inl (some x0)) S)) : G 0 [some (.inl x0), some (.inl x1)] [] S 0 := by
  refine ab_iload_n' hG 0 _ _ _ _ 0 _ dX6_least_0 rfl ?_
  refine ab_iload_n' hG 1 _ _ _ _ 1 _ dX6_least_1 rfl ?_
  refine ab_icmp_ge' hG 2 _ _ _ _ (7) 9 _ _ dX6_least_2 (by decide) (fun hc => ?_) (fun hc => ?_)
  · have h := h.1 hc
    refine ab_iload_n' hG 9 _ _ _ _ 1 _ dX6_least_9 rfl ?_
    exact ab_ireturn' hG 10 _ _ _ _ dX6_least_10 (Or.inl rfl) (by decide) h
  · have h := h.2 hc
    refine ab_iload_n' hG 5 _ _ _ _ 0 _ dX6_least_5 rfl ?_
    refine ab_goto' hG 6 _ _ _ _ (4) 10 dX6_least_6 (by decide) ?_
    exact ab_ireturn' hG 10 _ _ _ _ dX6_least_10 (Or.inl rfl) (by decide) h
theorem bl_X6_compare_0 {Q : ab_Po} {G : ab_Gt} (hG : ab_Cl M_X6_compare Q G) (x1 : Int32) (x2 : Int32) (x3 : Int32) (x4 : Int32) (S : ab_S) (h : vp_in x3 48 ∧ vp_in ((24 : Int32) + x4) 48 ∧ G 26 [some (.inr (21, 0)), some (.inl x1), some (.inl x2), some (.inl x3), some (.inl x4), some (.inl (S 38 0 x3.toNatClampNeg)), some (.inl (S 38 0 ((24 : Int32) + x4).toNatClampNeg)), some (.inl ((S 38 0 x3.toNatClampNeg) - (1 : Int32))), none, none, none, none] [] S 0) : G 0 [some (.inr (21, 0)), some (.inl x1), some (.inl x2), some (.inl x3), some (.inl x4), none, none, none, none, none, none, none] [] S 0 := by
  refine ab_aload_n' hG 0 _ _ _ _ 0 _ dX6_compare_0 rfl ?_
  refine ab_gR hG 1 _ _ _ _ 69 21 24 0 (38, 0) dX6_compare_1 (List.Mem.head _) rfl ?_
  refine ab_iload_n' hG 4 _ _ _ _ 3 _ dX6_compare_4 rfl ?_
  refine ab_iaload' hG 5 _ _ _ _ 38 0 48 _ dX6_compare_5 rfl h.1 ?_
  have h := h.2
  refine ab_istore' hG 6 _ _ _ _ 5 _ dX6_compare_6 (Nat.le_of_ble_eq_true rfl) ?_
  refine ab_aload_n' hG 8 _ _ _ _ 0 _ dX6_compare_8 rfl ?_
  refine ab_gR hG 9 _ _ _ _ 69 21 24 0 (38, 0) dX6_compare_9 (List.Mem.head _) rfl ?_
  refine ab_bipush' hG 12 _ _ _ _ 24 24 dX6_compare_12 (by decide) ?_
  refine ab_iload' hG 14 _ _ _ _ 4 _ dX6_compare_14 rfl ?_
  refine ab_iadd' hG 16 _ _ _ _ _ _ dX6_compare_16 ?_
  refine ab_iaload' hG 17 _ _ _ _ 38 0 48 _ dX6_compare_17 rfl h.1 ?_
  have h := h.2
  refine ab_istore' hG 18 _ _ _ _ 6 _ dX6_compare_18 (Nat.le_of_ble_eq_true rfl) ?_
  refine ab_iload' hG 20 _ _ _ _ 5 _ dX6_compare_20 rfl ?_
  refine ab_iconst' hG 22 _ _ _ _ 1 1 dX6_compare_22 (by decide) ?_
  refine ab_isub' hG 23 _ _ _ _ _ _ dX6_compare_23 ?_
  refine ab_istore' hG 24 _ _ _ _ 7 _ dX6_compare_24 (Nat.le_of_ble_eq_true rfl) ?_
  exact h
theorem bl_X6_compare_26 {Q : ab_Po} {G : ab_Gt} (hG : ab_Cl M_X6_compare Q G) (x1 : Int32) (x2 : Int32) (x3 : Int32) (x4 : Int32) (x5 : Int32) (x6 : Int32) (x7 : Int32) (S : ab_S) (h : (x3 < x7 → Q (.inl none) S) ∧ (¬ x3 < x7 → G 38 [some (.inr (21, 0)), some (.inl x1), some (.inl x2), some (.inl x3), some (.inl x4), some (.inl x5), some (.inl x6), some (.inl x7), some (.inl (x6 - (1 : Int32))), none, none, none] [] S 0)) : G 26 [some (.inr (21, 0)), some (.inl x1), some (.inl x2), some (.inl x3), some (.inl x4), some (.inl x5), some (.inl x6), some (.inl x7), none, none, none, none] [] S 0 := by
  refine ab_iload' hG 26 _ _ _ _ 7 _ dX6_compare_26 rfl ?_
  refine ab_iload_n' hG 28 _ _ _ _ 3 _ dX6_compare_28 rfl ?_
  refine ab_icmp_gt' hG 29 _ _ _ _ (291) 320 _ _ dX6_compare_29 (by decide) (fun hc => ?_) (fun hc => ?_)
  · have h := h.1 hc
    exact ab_return_' hG 320 _ _ _ dX6_compare_320 rfl (by decide) h
  · have h := h.2 hc
    refine ab_iload' hG 32 _ _ _ _ 6 _ dX6_compare_32 rfl ?_
    refine ab_iconst' hG 34 _ _ _ _ 1 1 dX6_compare_34 (by decide) ?_
    refine ab_isub' hG 35 _ _ _ _ _ _ dX6_compare_35 ?_
    refine ab_istore' hG 36 _ _ _ _ 8 _ dX6_compare_36 (Nat.le_of_ble_eq_true rfl) ?_
    exact h
theorem bl_X6_compare_38 {Q : ab_Po} {G : ab_Gt} (hG : ab_Cl M_X6_compare Q G) (x1 : Int32) (x2 : Int32) (x3 : Int32) (x4 : Int32) (x5 : Int32) (x6 : Int32) (x7 : Int32) (x8 : Int32) (S : ab_S) (h : (x4 < x8 → G 26 [some (.inr (21, 0)), some (.inl x1), some (.inl x2), some (.inl x3), some (.inl x4), some (.inl x5), some (.inl x6), some (.inl (x7 + 1)), none, none, none, none] [] S 0) ∧ (¬ x4 < x8 → (x7 < x5 → vp_in (((((25 : Int32) * ((x7 - x5) + (1 : Int32))) + x8) - x6) + (1 : Int32)) 625 ∧ (∀ S1 : ab_S, S1 = ab_su S 40 0 (((((25 : Int32) * ((x7 - x5) + (1 : Int32))) + x8) - x6) + (1 : Int32)).toNatClampNeg (((((x7 - x5) + (1 : Int32)) + x8) - x6) + (1 : Int32)) → G 38 [some (.inr (21, 0)), some (.inl x1), some (.inl x2), some (.inl x3), some (.inl x4), some (.inl x5), some (.inl x6), some (.inl x7), some (.inl (x8 + 1)), none, none, none] [] S1 0)) ∧ (¬ x7 < x5 → (x6 ≤ x8 → vp_in ((((((25 : Int32) * ((x7 - x5) + (1 : Int32))) + x8) - x6) + (1 : Int32)) - (25 : Int32)) 625 ∧ vp_in ((((((25 : Int32) * ((x7 - x5) + (1 : Int32))) + x8) - x6) + (1 : Int32)) - (1 : Int32)) 625 ∧ Sp_X6_least [(.inl (S 40 0 ((((((25 : Int32) * ((x7 - x5) + (1 : Int32))) + x8) - x6) + (1 : Int32)) - (25 : Int32)).toNatClampNeg)), (.inl (S 40 0 ((((((25 : Int32) * ((x7 - x5) + (1 : Int32))) + x8) - x6) + (1 : Int32)) - (1 : Int32)).toNatClampNeg))] S (ab_back Q G 126 [some (.inr (21, 0)), some (.inl x1), some (.inl x2), some (.inl x3), some (.inl x4), some (.inl x5), some (.inl x6), some (.inl x7), some (.inl x8), some (.inl (((((25 : Int32) * ((x7 - x5) + (1 : Int32))) + x8) - x6) + (1 : Int32))), none, none] [] 0)) ∧ (¬ x6 ≤ x8 → vp_in (((((25 : Int32) * ((x7 - x5) + (1 : Int32))) + x8) - x6) + (1 : Int32)) 625 ∧ (∀ S2 : ab_S, S2 = ab_su S 40 0 (((((25 : Int32) * ((x7 - x5) + (1 : Int32))) + x8) - x6) + (1 : Int32)).toNatClampNeg (((((x7 - x5) + (1 : Int32)) + x8) - x6) + (1 : Int32)) → G 38 [some (.inr (21, 0)), some (.inl x1), some (.inl x2), some (.inl x3), some (.inl x4), some (.inl x5), some (.inl x6), some (.inl x7), some (.inl (x8 + 1)), none, none, none] [] S2 0))))) : G 38 [some (.inr (21, 0)), some (.inl x1), some (.inl x2), some (.inl x3), some (.inl x4), some (.inl x5), some (.inl x6), some (.inl x7), some (.inl x8), none, none, none] [] S 0 := by
  refine ab_iload' hG 38 _ _ _ _ 8 _ dX6_compare_38 rfl ?_
  refine ab_iload' hG 40 _ _ _ _ 4 _ dX6_compare_40 rfl ?_
  refine ab_icmp_gt' hG 42 _ _ _ _ (272) 314 _ _ dX6_compare_42 (by decide) (fun hc => ?_) (fun hc => ?_)
  · have h := h.1 hc
    refine ab_iinc' hG 314 _ _ _ _ 7 1 _ _ dX6_compare_314 rfl rfl ?_
    refine ab_goto' hG 317 _ _ _ _ (-291) 26 dX6_compare_317 (by decide) ?_
    refine ab_forget' hG _ _ _ _ _ 8 ?_
    exact h
  · have h := h.2 hc
    refine ab_bipush' hG 45 _ _ _ _ 25 25 dX6_compare_45 (by decide) ?_
    refine ab_iload' hG 47 _ _ _ _ 7 _ dX6_compare_47 rfl ?_
    refine ab_iload' hG 49 _ _ _ _ 5 _ dX6_compare_49 rfl ?_
    refine ab_isub' hG 51 _ _ _ _ _ _ dX6_compare_51 ?_
    refine ab_iconst' hG 52 _ _ _ _ 1 1 dX6_compare_52 (by decide) ?_
    refine ab_iadd' hG 53 _ _ _ _ _ _ dX6_compare_53 ?_
    refine ab_imul' hG 54 _ _ _ _ _ _ dX6_compare_54 ?_
    refine ab_iload' hG 55 _ _ _ _ 8 _ dX6_compare_55 rfl ?_
    refine ab_iadd' hG 57 _ _ _ _ _ _ dX6_compare_57 ?_
    refine ab_iload' hG 58 _ _ _ _ 6 _ dX6_compare_58 rfl ?_
    refine ab_isub' hG 60 _ _ _ _ _ _ dX6_compare_60 ?_
    refine ab_iconst' hG 61 _ _ _ _ 1 1 dX6_compare_61 (by decide) ?_
    refine ab_iadd' hG 62 _ _ _ _ _ _ dX6_compare_62 ?_
    refine ab_istore' hG 63 _ _ _ _ 9 _ dX6_compare_63 (Nat.le_of_ble_eq_true rfl) ?_
    refine ab_iload' hG 65 _ _ _ _ 7 _ dX6_compare_65 rfl ?_
    refine ab_iload' hG 67 _ _ _ _ 5 _ dX6_compare_67 rfl ?_
    refine ab_icmp_lt' hG 69 _ _ _ _ (10) 79 _ _ dX6_compare_69 (by decide) (fun hc => ?_) (fun hc => ?_)
    · have h := h.1 hc
      refine ab_aload_n' hG 79 _ _ _ _ 0 _ dX6_compare_79 rfl ?_
      refine ab_gR hG 80 _ _ _ _ 75 21 26 0 (40, 0) dX6_compare_80 (List.Mem.tail _ (List.Mem.head _)) rfl ?_
      refine ab_iload' hG 83 _ _ _ _ 9 _ dX6_compare_83 rfl ?_
      refine ab_iload' hG 85 _ _ _ _ 7 _ dX6_compare_85 rfl ?_
      refine ab_iload' hG 87 _ _ _ _ 5 _ dX6_compare_87 rfl ?_
      refine ab_isub' hG 89 _ _ _ _ _ _ dX6_compare_89 ?_
      refine ab_iconst' hG 90 _ _ _ _ 1 1 dX6_compare_90 (by decide) ?_
      refine ab_iadd' hG 91 _ _ _ _ _ _ dX6_compare_91 ?_
      refine ab_iload' hG 92 _ _ _ _ 8 _ dX6_compare_92 rfl ?_
      refine ab_iadd' hG 94 _ _ _ _ _ _ dX6_compare_94 ?_
      refine ab_iload' hG 95 _ _ _ _ 6 _ dX6_compare_95 rfl ?_
      refine ab_isub' hG 97 _ _ _ _ _ _ dX6_compare_97 ?_
      refine ab_iconst' hG 98 _ _ _ _ 1 1 dX6_compare_98 (by decide) ?_
      refine ab_iadd' hG 99 _ _ _ _ _ _ dX6_compare_99 ?_
      refine ab_iastore' hG 100 _ _ _ _ 40 0 625 _ _ dX6_compare_100 rfl h.1 ?_
      have h := h.2
      have h := h _ rfl
      refine ab_goto' hG 101 _ _ _ _ (207) 308 dX6_compare_101 (by decide) ?_
      refine ab_iinc' hG 308 _ _ _ _ 8 1 _ _ dX6_compare_308 rfl rfl ?_
      refine ab_goto' hG 311 _ _ _ _ (-273) 38 dX6_compare_311 (by decide) ?_
      refine ab_forget' hG _ _ _ _ _ 9 ?_
      exact h
    · have h := h.2 hc
      refine ab_iload' hG 72 _ _ _ _ 8 _ dX6_compare_72 rfl ?_
      refine ab_iload' hG 74 _ _ _ _ 6 _ dX6_compare_74 rfl ?_
      refine ab_icmp_ge' hG 76 _ _ _ _ (28) 104 _ _ dX6_compare_76 (by decide) (fun hc => ?_) (fun hc => ?_)
      · have h := h.1 hc
        refine ab_aload_n' hG 104 _ _ _ _ 0 _ dX6_compare_104 rfl ?_
        refine ab_gR hG 105 _ _ _ _ 75 21 26 0 (40, 0) dX6_compare_105 (List.Mem.tail _ (List.Mem.head _)) rfl ?_
        refine ab_iload' hG 108 _ _ _ _ 9 _ dX6_compare_108 rfl ?_
        refine ab_bipush' hG 110 _ _ _ _ 25 25 dX6_compare_110 (by decide) ?_
        refine ab_isub' hG 112 _ _ _ _ _ _ dX6_compare_112 ?_
        refine ab_iaload' hG 113 _ _ _ _ 40 0 625 _ dX6_compare_113 rfl h.1 ?_
        have h := h.2
        refine ab_aload_n' hG 114 _ _ _ _ 0 _ dX6_compare_114 rfl ?_
        refine ab_gR hG 115 _ _ _ _ 75 21 26 0 (40, 0) dX6_compare_115 (List.Mem.tail _ (List.Mem.head _)) rfl ?_
        refine ab_iload' hG 118 _ _ _ _ 9 _ dX6_compare_118 rfl ?_
        refine ab_iconst' hG 120 _ _ _ _ 1 1 dX6_compare_120 (by decide) ?_
        refine ab_isub' hG 121 _ _ _ _ _ _ dX6_compare_121 ?_
        refine ab_iaload' hG 122 _ _ _ _ 40 0 625 _ dX6_compare_122 rfl h.1 ?_
        have h := h.2
        exact ab_invs' hG 123 _ [_, _] _ _ 0 187 _ 2 1 0 _ dX6_compare_123 rfl rfl (Nat.le_of_ble_eq_true rfl) (Nat.le_of_ble_eq_true rfl) h
      · have h := h.2 hc
        refine ab_aload_n' hG 79 _ _ _ _ 0 _ dX6_compare_79 rfl ?_
        refine ab_gR hG 80 _ _ _ _ 75 21 26 0 (40, 0) dX6_compare_80 (List.Mem.tail _ (List.Mem.head _)) rfl ?_
        refine ab_iload' hG 83 _ _ _ _ 9 _ dX6_compare_83 rfl ?_
        refine ab_iload' hG 85 _ _ _ _ 7 _ dX6_compare_85 rfl ?_
        refine ab_iload' hG 87 _ _ _ _ 5 _ dX6_compare_87 rfl ?_
        refine ab_isub' hG 89 _ _ _ _ _ _ dX6_compare_89 ?_
        refine ab_iconst' hG 90 _ _ _ _ 1 1 dX6_compare_90 (by decide) ?_
        refine ab_iadd' hG 91 _ _ _ _ _ _ dX6_compare_91 ?_
        refine ab_iload' hG 92 _ _ _ _ 8 _ dX6_compare_92 rfl ?_
        refine ab_iadd' hG 94 _ _ _ _ _ _ dX6_compare_94 ?_
        refine ab_iload' hG 95 _ _ _ _ 6 _ dX6_compare_95 rfl ?_
        refine ab_isub' hG 97 _ _ _ _ _ _ dX6_compare_97 ?_
        refine ab_iconst' hG 98 _ _ _ _ 1 1 dX6_compare_98 (by decide) ?_
        refine ab_iadd' hG 99 _ _ _ _ _ _ dX6_compare_99 ?_
        refine ab_iastore' hG 100 _ _ _ _ 40 0 625 _ _ dX6_compare_100 rfl h.1 ?_
        have h := h.2
        have h := h _ rfl
        refine ab_goto' hG 101 _ _ _ _ (207) 308 dX6_compare_101 (by decide) ?_
        refine ab_iinc' hG 308 _ _ _ _ 8 1 _ _ dX6_compare_308 rfl rfl ?_
        refine ab_goto' hG 311 _ _ _ _ (-273) 38 dX6_compare_311 (by decide) ?_
        refine ab_forget' hG _ _ _ _ _ 9 ?_
        exact h
theorem bl_X6_compare_126 {Q : ab_Po} {G : ab_Gt} (hG : ab_Cl M_X6_compare Q G) (x1 : Int32) (x2 : Int32) (x3 : Int32) (x4 : Int32) (x5 : Int32) (x6 : Int32) (x7 : Int32) (x8 : Int32) (x9 : Int32) (xs0 : Int32) (S : ab_S) (h : vp_in x7 48 ∧ ((S 38 0 x7.toNatClampNeg) = x5 → vp_in ((24 : Int32) + x8) 48 ∧ ((S 38 0 ((24 : Int32) + x8).toNatClampNeg) = x6 → vp_in x7 48 ∧ vp_in (((24 : Int32) * x1) + (S 37 0 x7.toNatClampNeg)) 336 ∧ vp_in ((24 : Int32) + x8) 48 ∧ vp_in (((24 : Int32) * x2) + (S 37 0 ((24 : Int32) + x8).toNatClampNeg)) 336 ∧ ((S 23 0 (((24 : Int32) * x1) + (S 37 0 x7.toNatClampNeg)).toNatClampNeg) = (S 23 0 (((24 : Int32) * x2) + (S 37 0 ((24 : Int32) + x8).toNatClampNeg)).toNatClampNeg) → vp_in (x9 - (26 : Int32)) 625 ∧ Sp_X6_least [(.inl (xs0 + (1 : Int32))), (.inl ((S 40 0 (x9 - (26 : Int32)).toNatClampNeg) + (0 : Int32)))] S (ab_back Q G 222 [some (.inr (21, 0)), some (.inl x1), some (.inl x2), some (.inl x3), some (.inl x4), some (.inl x5), some (.inl x6), some (.inl x7), some (.inl x8), some (.inl x9), some (.inl (xs0 + (1 : Int32))), some (.inl (0 : Int32))] [] 0)) ∧ (¬ (S 23 0 (((24 : Int32) * x1) + (S 37 0 x7.toNatClampNeg)).toNatClampNeg) = (S 23 0 (((24 : Int32) * x2) + (S 37 0 ((24 : Int32) + x8).toNatClampNeg)).toNatClampNeg) → vp_in (x9 - (26 : Int32)) 625 ∧ Sp_X6_least [(.inl (xs0 + (1 : Int32))), (.inl ((S 40 0 (x9 - (26 : Int32)).toNatClampNeg) + (1 : Int32)))] S (ab_back Q G 222 [some (.inr (21, 0)), some (.inl x1), some (.inl x2), some (.inl x3), some (.inl x4), some (.inl x5), some (.inl x6), some (.inl x7), some (.inl x8), some (.inl x9), some (.inl (xs0 + (1 : Int32))), some (.inl (1 : Int32))] [] 0))) ∧ (¬ (S 38 0 ((24 : Int32) + x8).toNatClampNeg) = x6 → vp_in x7 48 ∧ vp_in ((24 : Int32) + x8) 48 ∧ vp_in ((((25 : Int32) * ((S 38 0 x7.toNatClampNeg) - x5)) + (S 38 0 ((24 : Int32) + x8).toNatClampNeg)) - x6) 625 ∧ vp_in (((24 : Int32) * x7) + x8) 576 ∧ Sp_X6_least [(.inl (xs0 + (1 : Int32))), (.inl ((S 40 0 ((((25 : Int32) * ((S 38 0 x7.toNatClampNeg) - x5)) + (S 38 0 ((24 : Int32) + x8).toNatClampNeg)) - x6).toNatClampNeg) + (S 39 0 (((24 : Int32) * x7) + x8).toNatClampNeg)))] S (ab_back Q G 297 [some (.inr (21, 0)), some (.inl x1), some (.inl x2), some (.inl x3), some (.inl x4), some (.inl x5), some (.inl x6), some (.inl x7), some (.inl x8), some (.inl x9), some (.inl (xs0 + (1 : Int32))), some (.inl ((((25 : Int32) * ((S 38 0 x7.toNatClampNeg) - x5)) + (S 38 0 ((24 : Int32) + x8).toNatClampNeg)) - x6))] [] 0))) ∧ (¬ (S 38 0 x7.toNatClampNeg) = x5 → vp_in x7 48 ∧ vp_in ((24 : Int32) + x8) 48 ∧ vp_in ((((25 : Int32) * ((S 38 0 x7.toNatClampNeg) - x5)) + (S 38 0 ((24 : Int32) + x8).toNatClampNeg)) - x6) 625 ∧ vp_in (((24 : Int32) * x7) + x8) 576 ∧ Sp_X6_least [(.inl (xs0 + (1 : Int32))), (.inl ((S 40 0 ((((25 : Int32) * ((S 38 0 x7.toNatClampNeg) - x5)) + (S 38 0 ((24 : Int32) + x8).toNatClampNeg)) - x6).toNatClampNeg) + (S 39 0 (((24 : Int32) * x7) + x8).toNatClampNeg)))] S (ab_back Q G 297 [some (.inr (21, 0)), some (.inl x1), some (.inl x2), some (.inl x3), some (.inl x4), some (.inl x5), some (.inl x6), some (.inl x7), some (.inl x8), some (.inl x9), some (.inl (xs0 + (1 : Int32))), some (.inl ((((25 : Int32) * ((S 38 0 x7.toNatClampNeg) - x5)) + (S 38 0 ((24 : Int32) + x8).toNatClampNeg)) - x6))] [] 0))) : G 126 [some (.inr (21, 0)), some (.inl x1), some (.inl x2), some (.inl x3), some (.inl x4), some (.inl x5), some (.inl x6), some (.inl x7), some (.inl x8), some (.inl x9), none, none] [(.inl xs0)] S 0 := by
  refine ab_iconst' hG 126 _ _ _ _ 1 1 dX6_compare_126 (by decide) ?_
  refine ab_iadd' hG 127 _ _ _ _ _ _ dX6_compare_127 ?_
  refine ab_istore' hG 128 _ _ _ _ 10 _ dX6_compare_128 (Nat.le_of_ble_eq_true rfl) ?_
  refine ab_aload_n' hG 130 _ _ _ _ 0 _ dX6_compare_130 rfl ?_
  refine ab_gR hG 131 _ _ _ _ 69 21 24 0 (38, 0) dX6_compare_131 (List.Mem.head _) rfl ?_
  refine ab_iload' hG 134 _ _ _ _ 7 _ dX6_compare_134 rfl ?_
  refine ab_iaload' hG 136 _ _ _ _ 38 0 48 _ dX6_compare_136 rfl h.1 ?_
  have h := h.2
  refine ab_iload' hG 137 _ _ _ _ 5 _ dX6_compare_137 rfl ?_
  refine ab_icmp_ne' hG 139 _ _ _ _ (103) 242 _ _ dX6_compare_139 (by decide) (fun hc => ?_) (fun hc => ?_)
  · have h := h.2 hc
    refine ab_bipush' hG 242 _ _ _ _ 25 25 dX6_compare_242 (by decide) ?_
    refine ab_aload_n' hG 244 _ _ _ _ 0 _ dX6_compare_244 rfl ?_
    refine ab_gR hG 245 _ _ _ _ 69 21 24 0 (38, 0) dX6_compare_245 (List.Mem.head _) rfl ?_
    refine ab_iload' hG 248 _ _ _ _ 7 _ dX6_compare_248 rfl ?_
    refine ab_iaload' hG 250 _ _ _ _ 38 0 48 _ dX6_compare_250 rfl h.1 ?_
    have h := h.2
    refine ab_iload' hG 251 _ _ _ _ 5 _ dX6_compare_251 rfl ?_
    refine ab_isub' hG 253 _ _ _ _ _ _ dX6_compare_253 ?_
    refine ab_imul' hG 254 _ _ _ _ _ _ dX6_compare_254 ?_
    refine ab_aload_n' hG 255 _ _ _ _ 0 _ dX6_compare_255 rfl ?_
    refine ab_gR hG 256 _ _ _ _ 69 21 24 0 (38, 0) dX6_compare_256 (List.Mem.head _) rfl ?_
    refine ab_bipush' hG 259 _ _ _ _ 24 24 dX6_compare_259 (by decide) ?_
    refine ab_iload' hG 261 _ _ _ _ 8 _ dX6_compare_261 rfl ?_
    refine ab_iadd' hG 263 _ _ _ _ _ _ dX6_compare_263 ?_
    refine ab_iaload' hG 264 _ _ _ _ 38 0 48 _ dX6_compare_264 rfl h.1 ?_
    have h := h.2
    refine ab_iadd' hG 265 _ _ _ _ _ _ dX6_compare_265 ?_
    refine ab_iload' hG 266 _ _ _ _ 6 _ dX6_compare_266 rfl ?_
    refine ab_isub' hG 268 _ _ _ _ _ _ dX6_compare_268 ?_
    refine ab_istore' hG 269 _ _ _ _ 11 _ dX6_compare_269 (Nat.le_of_ble_eq_true rfl) ?_
    refine ab_iload' hG 271 _ _ _ _ 10 _ dX6_compare_271 rfl ?_
    refine ab_aload_n' hG 273 _ _ _ _ 0 _ dX6_compare_273 rfl ?_
    refine ab_gR hG 274 _ _ _ _ 75 21 26 0 (40, 0) dX6_compare_274 (List.Mem.tail _ (List.Mem.head _)) rfl ?_
    refine ab_iload' hG 277 _ _ _ _ 11 _ dX6_compare_277 rfl ?_
    refine ab_iaload' hG 279 _ _ _ _ 40 0 625 _ dX6_compare_279 rfl h.1 ?_
    have h := h.2
    refine ab_aload_n' hG 280 _ _ _ _ 0 _ dX6_compare_280 rfl ?_
    refine ab_gR hG 281 _ _ _ _ 72 21 25 0 (39, 0) dX6_compare_281 (List.Mem.tail _ (List.Mem.tail _ (List.Mem.tail _ (List.Mem.tail _ (List.Mem.head _))))) rfl ?_
    refine ab_bipush' hG 284 _ _ _ _ 24 24 dX6_compare_284 (by decide) ?_
    refine ab_iload' hG 286 _ _ _ _ 7 _ dX6_compare_286 rfl ?_
    refine ab_imul' hG 288 _ _ _ _ _ _ dX6_compare_288 ?_
    refine ab_iload' hG 289 _ _ _ _ 8 _ dX6_compare_289 rfl ?_
    refine ab_iadd' hG 291 _ _ _ _ _ _ dX6_compare_291 ?_
    refine ab_iaload' hG 292 _ _ _ _ 39 0 576 _ dX6_compare_292 rfl h.1 ?_
    have h := h.2
    refine ab_iadd' hG 293 _ _ _ _ _ _ dX6_compare_293 ?_
    exact ab_invs' hG 294 _ [_, _] _ _ 0 187 _ 2 1 0 _ dX6_compare_294 rfl rfl (Nat.le_of_ble_eq_true rfl) (Nat.le_of_ble_eq_true rfl) h
  · have h := h.1 hc
    refine ab_aload_n' hG 142 _ _ _ _ 0 _ dX6_compare_142 rfl ?_
    refine ab_gR hG 143 _ _ _ _ 69 21 24 0 (38, 0) dX6_compare_143 (List.Mem.head _) rfl ?_
    refine ab_bipush' hG 146 _ _ _ _ 24 24 dX6_compare_146 (by decide) ?_
    refine ab_iload' hG 148 _ _ _ _ 8 _ dX6_compare_148 rfl ?_
    refine ab_iadd' hG 150 _ _ _ _ _ _ dX6_compare_150 ?_
    refine ab_iaload' hG 151 _ _ _ _ 38 0 48 _ dX6_compare_151 rfl h.1 ?_
    have h := h.2
    refine ab_iload' hG 152 _ _ _ _ 6 _ dX6_compare_152 rfl ?_
    refine ab_icmp_ne' hG 154 _ _ _ _ (88) 242 _ _ dX6_compare_154 (by decide) (fun hc => ?_) (fun hc => ?_)
    · have h := h.2 hc
      refine ab_bipush' hG 242 _ _ _ _ 25 25 dX6_compare_242 (by decide) ?_
      refine ab_aload_n' hG 244 _ _ _ _ 0 _ dX6_compare_244 rfl ?_
      refine ab_gR hG 245 _ _ _ _ 69 21 24 0 (38, 0) dX6_compare_245 (List.Mem.head _) rfl ?_
      refine ab_iload' hG 248 _ _ _ _ 7 _ dX6_compare_248 rfl ?_
      refine ab_iaload' hG 250 _ _ _ _ 38 0 48 _ dX6_compare_250 rfl h.1 ?_
      have h := h.2
      refine ab_iload' hG 251 _ _ _ _ 5 _ dX6_compare_251 rfl ?_
      refine ab_isub' hG 253 _ _ _ _ _ _ dX6_compare_253 ?_
      refine ab_imul' hG 254 _ _ _ _ _ _ dX6_compare_254 ?_
      refine ab_aload_n' hG 255 _ _ _ _ 0 _ dX6_compare_255 rfl ?_
      refine ab_gR hG 256 _ _ _ _ 69 21 24 0 (38, 0) dX6_compare_256 (List.Mem.head _) rfl ?_
      refine ab_bipush' hG 259 _ _ _ _ 24 24 dX6_compare_259 (by decide) ?_
      refine ab_iload' hG 261 _ _ _ _ 8 _ dX6_compare_261 rfl ?_
      refine ab_iadd' hG 263 _ _ _ _ _ _ dX6_compare_263 ?_
      refine ab_iaload' hG 264 _ _ _ _ 38 0 48 _ dX6_compare_264 rfl h.1 ?_
      have h := h.2
      refine ab_iadd' hG 265 _ _ _ _ _ _ dX6_compare_265 ?_
      refine ab_iload' hG 266 _ _ _ _ 6 _ dX6_compare_266 rfl ?_
      refine ab_isub' hG 268 _ _ _ _ _ _ dX6_compare_268 ?_
      refine ab_istore' hG 269 _ _ _ _ 11 _ dX6_compare_269 (Nat.le_of_ble_eq_true rfl) ?_
      refine ab_iload' hG 271 _ _ _ _ 10 _ dX6_compare_271 rfl ?_
      refine ab_aload_n' hG 273 _ _ _ _ 0 _ dX6_compare_273 rfl ?_
      refine ab_gR hG 274 _ _ _ _ 75 21 26 0 (40, 0) dX6_compare_274 (List.Mem.tail _ (List.Mem.head _)) rfl ?_
      refine ab_iload' hG 277 _ _ _ _ 11 _ dX6_compare_277 rfl ?_
      refine ab_iaload' hG 279 _ _ _ _ 40 0 625 _ dX6_compare_279 rfl h.1 ?_
      have h := h.2
      refine ab_aload_n' hG 280 _ _ _ _ 0 _ dX6_compare_280 rfl ?_
      refine ab_gR hG 281 _ _ _ _ 72 21 25 0 (39, 0) dX6_compare_281 (List.Mem.tail _ (List.Mem.tail _ (List.Mem.tail _ (List.Mem.tail _ (List.Mem.head _))))) rfl ?_
      refine ab_bipush' hG 284 _ _ _ _ 24 24 dX6_compare_284 (by decide) ?_
      refine ab_iload' hG 286 _ _ _ _ 7 _ dX6_compare_286 rfl ?_
      refine ab_imul' hG 288 _ _ _ _ _ _ dX6_compare_288 ?_
      refine ab_iload' hG 289 _ _ _ _ 8 _ dX6_compare_289 rfl ?_
      refine ab_iadd' hG 291 _ _ _ _ _ _ dX6_compare_291 ?_
      refine ab_iaload' hG 292 _ _ _ _ 39 0 576 _ dX6_compare_292 rfl h.1 ?_
      have h := h.2
      refine ab_iadd' hG 293 _ _ _ _ _ _ dX6_compare_293 ?_
      exact ab_invs' hG 294 _ [_, _] _ _ 0 187 _ 2 1 0 _ dX6_compare_294 rfl rfl (Nat.le_of_ble_eq_true rfl) (Nat.le_of_ble_eq_true rfl) h
    · have h := h.1 hc
      refine ab_aload_n' hG 157 _ _ _ _ 0 _ dX6_compare_157 rfl ?_
      refine ab_gR hG 158 _ _ _ _ 13 21 2 0 (23, 0) dX6_compare_158 (List.Mem.tail _ (List.Mem.tail _ (List.Mem.head _))) rfl ?_
      refine ab_bipush' hG 161 _ _ _ _ 24 24 dX6_compare_161 (by decide) ?_
      refine ab_iload_n' hG 163 _ _ _ _ 1 _ dX6_compare_163 rfl ?_
      refine ab_imul' hG 164 _ _ _ _ _ _ dX6_compare_164 ?_
      refine ab_aload_n' hG 165 _ _ _ _ 0 _ dX6_compare_165 rfl ?_
      refine ab_gR hG 166 _ _ _ _ 66 21 23 0 (37, 0) dX6_compare_166 (List.Mem.tail _ (List.Mem.tail _ (List.Mem.tail _ (List.Mem.head _)))) rfl ?_
      refine ab_iload' hG 169 _ _ _ _ 7 _ dX6_compare_169 rfl ?_
      refine ab_iaload' hG 171 _ _ _ _ 37 0 48 _ dX6_compare_171 rfl h.1 ?_
      have h := h.2
      refine ab_iadd' hG 172 _ _ _ _ _ _ dX6_compare_172 ?_
      refine ab_iaload' hG 173 _ _ _ _ 23 0 336 _ dX6_compare_173 rfl h.1 ?_
      have h := h.2
      refine ab_aload_n' hG 174 _ _ _ _ 0 _ dX6_compare_174 rfl ?_
      refine ab_gR hG 175 _ _ _ _ 13 21 2 0 (23, 0) dX6_compare_175 (List.Mem.tail _ (List.Mem.tail _ (List.Mem.head _))) rfl ?_
      refine ab_bipush' hG 178 _ _ _ _ 24 24 dX6_compare_178 (by decide) ?_
      refine ab_iload_n' hG 180 _ _ _ _ 2 _ dX6_compare_180 rfl ?_
      refine ab_imul' hG 181 _ _ _ _ _ _ dX6_compare_181 ?_
      refine ab_aload_n' hG 182 _ _ _ _ 0 _ dX6_compare_182 rfl ?_
      refine ab_gR hG 183 _ _ _ _ 66 21 23 0 (37, 0) dX6_compare_183 (List.Mem.tail _ (List.Mem.tail _ (List.Mem.tail _ (List.Mem.head _)))) rfl ?_
      refine ab_bipush' hG 186 _ _ _ _ 24 24 dX6_compare_186 (by decide) ?_
      refine ab_iload' hG 188 _ _ _ _ 8 _ dX6_compare_188 rfl ?_
      refine ab_iadd' hG 190 _ _ _ _ _ _ dX6_compare_190 ?_
      refine ab_iaload' hG 191 _ _ _ _ 37 0 48 _ dX6_compare_191 rfl h.1 ?_
      have h := h.2
      refine ab_iadd' hG 192 _ _ _ _ _ _ dX6_compare_192 ?_
      refine ab_iaload' hG 193 _ _ _ _ 23 0 336 _ dX6_compare_193 rfl h.1 ?_
      have h := h.2
      refine ab_icmp_ne' hG 194 _ _ _ _ (7) 201 _ _ dX6_compare_194 (by decide) (fun hc => ?_) (fun hc => ?_)
      · have h := h.2 hc
        refine ab_iconst' hG 201 _ _ _ _ 1 1 dX6_compare_201 (by decide) ?_
        refine ab_istore' hG 202 _ _ _ _ 11 _ dX6_compare_202 (Nat.le_of_ble_eq_true rfl) ?_
        refine ab_iload' hG 204 _ _ _ _ 10 _ dX6_compare_204 rfl ?_
        refine ab_aload_n' hG 206 _ _ _ _ 0 _ dX6_compare_206 rfl ?_
        refine ab_gR hG 207 _ _ _ _ 75 21 26 0 (40, 0) dX6_compare_207 (List.Mem.tail _ (List.Mem.head _)) rfl ?_
        refine ab_iload' hG 210 _ _ _ _ 9 _ dX6_compare_210 rfl ?_
        refine ab_bipush' hG 212 _ _ _ _ 26 26 dX6_compare_212 (by decide) ?_
        refine ab_isub' hG 214 _ _ _ _ _ _ dX6_compare_214 ?_
        refine ab_iaload' hG 215 _ _ _ _ 40 0 625 _ dX6_compare_215 rfl h.1 ?_
        have h := h.2
        refine ab_iload' hG 216 _ _ _ _ 11 _ dX6_compare_216 rfl ?_
        refine ab_iadd' hG 218 _ _ _ _ _ _ dX6_compare_218 ?_
        exact ab_invs' hG 219 _ [_, _] _ _ 0 187 _ 2 1 0 _ dX6_compare_219 rfl rfl (Nat.le_of_ble_eq_true rfl) (Nat.le_of_ble_eq_true rfl) h
      · have h := h.1 hc
        refine ab_iconst' hG 197 _ _ _ _ 0 0 dX6_compare_197 (by decide) ?_
        refine ab_goto' hG 198 _ _ _ _ (4) 202 dX6_compare_198 (by decide) ?_
        refine ab_istore' hG 202 _ _ _ _ 11 _ dX6_compare_202 (Nat.le_of_ble_eq_true rfl) ?_
        refine ab_iload' hG 204 _ _ _ _ 10 _ dX6_compare_204 rfl ?_
        refine ab_aload_n' hG 206 _ _ _ _ 0 _ dX6_compare_206 rfl ?_
        refine ab_gR hG 207 _ _ _ _ 75 21 26 0 (40, 0) dX6_compare_207 (List.Mem.tail _ (List.Mem.head _)) rfl ?_
        refine ab_iload' hG 210 _ _ _ _ 9 _ dX6_compare_210 rfl ?_
        refine ab_bipush' hG 212 _ _ _ _ 26 26 dX6_compare_212 (by decide) ?_
        refine ab_isub' hG 214 _ _ _ _ _ _ dX6_compare_214 ?_
        refine ab_iaload' hG 215 _ _ _ _ 40 0 625 _ dX6_compare_215 rfl h.1 ?_
        have h := h.2
        refine ab_iload' hG 216 _ _ _ _ 11 _ dX6_compare_216 rfl ?_
        refine ab_iadd' hG 218 _ _ _ _ _ _ dX6_compare_218 ?_
        exact ab_invs' hG 219 _ [_, _] _ _ 0 187 _ 2 1 0 _ dX6_compare_219 rfl rfl (Nat.le_of_ble_eq_true rfl) (Nat.le_of_ble_eq_true rfl) h
theorem bl_X6_compare_222 {Q : ab_Po} {G : ab_Gt} (hG : ab_Cl M_X6_compare Q G) (x1 : Int32) (x2 : Int32) (x3 : Int32) (x4 : Int32) (x5 : Int32) (x6 : Int32) (x7 : Int32) (x8 : Int32) (x9 : Int32) (x10 : Int32) (x11 : Int32) (xs0 : Int32) (S : ab_S) (h : vp_in (((24 : Int32) * x7) + x8) 576 ∧ (∀ S1 : ab_S, S1 = ab_su S 39 0 (((24 : Int32) * x7) + x8).toNatClampNeg xs0 → vp_in x9 625 ∧ (∀ S2 : ab_S, S2 = ab_su S1 40 0 x9.toNatClampNeg xs0 → G 38 [some (.inr (21, 0)), some (.inl x1), some (.inl x2), some (.inl x3), some (.inl x4), some (.inl x5), some (.inl x6), some (.inl x7), some (.inl (x8 + 1)), none, none, none] [] S2 0))) : G 222 [some (.inr (21, 0)), some (.inl x1), some (.inl x2), some (.inl x3), some (.inl x4), some (.inl x5), some (.inl x6), some (.inl x7), some (.inl x8), some (.inl x9), some (.inl x10), some (.inl x11)] [(.inl xs0)] S 0 := by
  refine ab_istore' hG 222 _ _ _ _ 10 _ dX6_compare_222 (Nat.le_of_ble_eq_true rfl) ?_
  refine ab_aload_n' hG 224 _ _ _ _ 0 _ dX6_compare_224 rfl ?_
  refine ab_gR hG 225 _ _ _ _ 72 21 25 0 (39, 0) dX6_compare_225 (List.Mem.tail _ (List.Mem.tail _ (List.Mem.tail _ (List.Mem.tail _ (List.Mem.head _))))) rfl ?_
  refine ab_bipush' hG 228 _ _ _ _ 24 24 dX6_compare_228 (by decide) ?_
  refine ab_iload' hG 230 _ _ _ _ 7 _ dX6_compare_230 rfl ?_
  refine ab_imul' hG 232 _ _ _ _ _ _ dX6_compare_232 ?_
  refine ab_iload' hG 233 _ _ _ _ 8 _ dX6_compare_233 rfl ?_
  refine ab_iadd' hG 235 _ _ _ _ _ _ dX6_compare_235 ?_
  refine ab_iload' hG 236 _ _ _ _ 10 _ dX6_compare_236 rfl ?_
  refine ab_iastore' hG 238 _ _ _ _ 39 0 576 _ _ dX6_compare_238 rfl h.1 ?_
  have h := h.2
  have h := h _ rfl
  refine ab_goto' hG 239 _ _ _ _ (60) 299 dX6_compare_239 (by decide) ?_
  refine ab_aload_n' hG 299 _ _ _ _ 0 _ dX6_compare_299 rfl ?_
  refine ab_gR hG 300 _ _ _ _ 75 21 26 0 (40, 0) dX6_compare_300 (List.Mem.tail _ (List.Mem.head _)) rfl ?_
  refine ab_iload' hG 303 _ _ _ _ 9 _ dX6_compare_303 rfl ?_
  refine ab_iload' hG 305 _ _ _ _ 10 _ dX6_compare_305 rfl ?_
  refine ab_iastore' hG 307 _ _ _ _ 40 0 625 _ _ dX6_compare_307 rfl h.1 ?_
  have h := h.2
  have h := h _ rfl
  refine ab_iinc' hG 308 _ _ _ _ 8 1 _ _ dX6_compare_308 rfl rfl ?_
  refine ab_goto' hG 311 _ _ _ _ (-273) 38 dX6_compare_311 (by decide) ?_
  refine ab_forget' hG _ _ _ _ _ 9 ?_
  refine ab_forget' hG _ _ _ _ _ 10 ?_
  refine ab_forget' hG _ _ _ _ _ 11 ?_
  exact h
theorem bl_X6_compare_297 {Q : ab_Po} {G : ab_Gt} (hG : ab_Cl M_X6_compare Q G) (x1 : Int32) (x2 : Int32) (x3 : Int32) (x4 : Int32) (x5 : Int32) (x6 : Int32) (x7 : Int32) (x8 : Int32) (x9 : Int32) (x10 : Int32) (x11 : Int32) (xs0 : Int32) (S : ab_S) (h : vp_in x9 625 ∧ (∀ S1 : ab_S, S1 = ab_su S 40 0 x9.toNatClampNeg xs0 → G 38 [some (.inr (21, 0)), some (.inl x1), some (.inl x2), some (.inl x3), some (.inl x4), some (.inl x5), some (.inl x6), some (.inl x7), some (.inl (x8 + 1)), none, none, none] [] S1 0)) : G 297 [some (.inr (21, 0)), some (.inl x1), some (.inl x2), some (.inl x3), some (.inl x4), some (.inl x5), some (.inl x6), some (.inl x7), some (.inl x8), some (.inl x9), some (.inl x10), some (.inl x11)] [(.inl xs0)] S 0 := by
  refine ab_istore' hG 297 _ _ _ _ 10 _ dX6_compare_297 (Nat.le_of_ble_eq_true rfl) ?_
  refine ab_aload_n' hG 299 _ _ _ _ 0 _ dX6_compare_299 rfl ?_
  refine ab_gR hG 300 _ _ _ _ 75 21 26 0 (40, 0) dX6_compare_300 (List.Mem.tail _ (List.Mem.head _)) rfl ?_
  refine ab_iload' hG 303 _ _ _ _ 9 _ dX6_compare_303 rfl ?_
  refine ab_iload' hG 305 _ _ _ _ 10 _ dX6_compare_305 rfl ?_
  refine ab_iastore' hG 307 _ _ _ _ 40 0 625 _ _ dX6_compare_307 rfl h.1 ?_
  have h := h.2
  have h := h _ rfl
  refine ab_iinc' hG 308 _ _ _ _ 8 1 _ _ dX6_compare_308 rfl rfl ?_
  refine ab_goto' hG 311 _ _ _ _ (-273) 38 dX6_compare_311 (by decide) ?_
  refine ab_forget' hG _ _ _ _ _ 9 ?_
  refine ab_forget' hG _ _ _ _ _ 10 ?_
  refine ab_forget' hG _ _ _ _ _ 11 ?_
  exact h
theorem bl_X6_distance_0 {Q : ab_Po} {G : ab_Gt} (hG : ab_Cl M_X6_distance Q G) (x1 : Int32) (x2 : Int32) (S : ab_S) (h : Sp_X6_isCommit [(.inr (21, 0)), (.inl x1)] S (ab_back Q G 6 [some (.inr (21, 0)), some (.inl x1), some (.inl x2), none, none, none, none] [(.inr (21, 0))] 0)) : G 0 [some (.inr (21, 0)), some (.inl x1), some (.inl x2), none, none, none, none] [] S 0 := by
  refine ab_aload_n' hG 0 _ _ _ _ 0 _ dX6_distance_0 rfl ?_
  refine ab_aload_n' hG 1 _ _ _ _ 0 _ dX6_distance_1 rfl ?_
  refine ab_iload_n' hG 2 _ _ _ _ 1 _ dX6_distance_2 rfl ?_
  exact ab_invv' hG 3 _ [_] _ _ 0 127 _ 1 1 0 _ (21, _) dX6_distance_3 rfl rfl rfl rfl (Nat.le_of_ble_eq_true rfl) (Nat.le_of_ble_eq_true rfl) h
theorem bl_X6_distance_6 {Q : ab_Po} {G : ab_Gt} (hG : ab_Cl M_X6_distance Q G) (x1 : Int32) (x2 : Int32) (xs0 : Int32) (S : ab_S) (h : (xs0 = 0 → (∀ S1 : ab_S, S1 = ab_su S 21 0 0 (1 : Int32) → ((S1 21 0 0) ≤ 0 → Sp_X6_leave [(.inr (21, 0)), (.inl x1), (.inl (0 : Int32))] S1 (ab_back Q G 40 [some (.inr (21, 0)), some (.inl x1), some (.inl x2), none, none, none, none] [] 0)) ∧ (¬ (S1 21 0 0) ≤ 0 → Q (.inl (some (0 : Int32))) S1))) ∧ (¬ xs0 = 0 → Sp_X6_isCommit [(.inr (21, 0)), (.inl x2)] S (ab_back Q G 14 [some (.inr (21, 0)), some (.inl x1), some (.inl x2), none, none, none, none] [(.inr (21, 0))] 0))) : G 6 [some (.inr (21, 0)), some (.inl x1), some (.inl x2), none, none, none, none] [(.inl xs0), (.inr (21, 0))] S 0 := by
  refine ab_if_eq' hG 6 _ _ _ _ (15) 21 _ dX6_distance_6 (by decide) (fun hc => ?_) (fun hc => ?_)
  · have h := h.1 hc
    refine ab_iconst' hG 21 _ _ _ _ 1 1 dX6_distance_21 (by decide) ?_
    refine ab_putfield' hG 22 _ _ _ _ 82 21 0 0 _ dX6_distance_22 (List.Mem.head _) ?_
    have h := h _ rfl
    refine ab_aload_n' hG 25 _ _ _ _ 0 _ dX6_distance_25 rfl ?_
    refine ab_gI hG 26 _ _ _ _ 82 21 0 0 dX6_distance_26 (List.Mem.head _) rfl ?_
    refine ab_if_le' hG 29 _ _ _ _ (5) 34 _ dX6_distance_29 (by decide) (fun hc => ?_) (fun hc => ?_)
    · have h := h.1 hc
      refine ab_aload_n' hG 34 _ _ _ _ 0 _ dX6_distance_34 rfl ?_
      refine ab_iload_n' hG 35 _ _ _ _ 1 _ dX6_distance_35 rfl ?_
      refine ab_iconst' hG 36 _ _ _ _ 0 0 dX6_distance_36 (by decide) ?_
      exact ab_invv' hG 37 _ [_, _] _ _ 0 190 _ 2 1 0 _ (21, _) dX6_distance_37 rfl rfl rfl rfl (Nat.le_of_ble_eq_true rfl) (Nat.le_of_ble_eq_true rfl) h
    · have h := h.2 hc
      refine ab_iconst' hG 32 _ _ _ _ 0 0 dX6_distance_32 (by decide) ?_
      exact ab_ireturn' hG 33 _ _ _ _ dX6_distance_33 (Or.inl rfl) (by decide) h
  · have h := h.2 hc
    refine ab_aload_n' hG 9 _ _ _ _ 0 _ dX6_distance_9 rfl ?_
    refine ab_iload_n' hG 10 _ _ _ _ 2 _ dX6_distance_10 rfl ?_
    exact ab_invv' hG 11 _ [_] _ _ 0 127 _ 1 1 0 _ (21, _) dX6_distance_11 rfl rfl rfl rfl (Nat.le_of_ble_eq_true rfl) (Nat.le_of_ble_eq_true rfl) h
theorem bl_X6_distance_14 {Q : ab_Po} {G : ab_Gt} (hG : ab_Cl M_X6_distance Q G) (x1 : Int32) (x2 : Int32) (xs0 : Int32) (S : ab_S) (h : (xs0 = 0 → (∀ S1 : ab_S, S1 = ab_su S 21 0 0 (1 : Int32) → ((S1 21 0 0) ≤ 0 → Sp_X6_leave [(.inr (21, 0)), (.inl x1), (.inl (0 : Int32))] S1 (ab_back Q G 40 [some (.inr (21, 0)), some (.inl x1), some (.inl x2), none, none, none, none] [] 0)) ∧ (¬ (S1 21 0 0) ≤ 0 → Q (.inl (some (0 : Int32))) S1))) ∧ (¬ xs0 = 0 → (∀ S2 : ab_S, S2 = ab_su S 21 0 0 (0 : Int32) → ((S2 21 0 0) ≤ 0 → Sp_X6_leave [(.inr (21, 0)), (.inl x1), (.inl (0 : Int32))] S2 (ab_back Q G 40 [some (.inr (21, 0)), some (.inl x1), some (.inl x2), none, none, none, none] [] 0)) ∧ (¬ (S2 21 0 0) ≤ 0 → Q (.inl (some (0 : Int32))) S2)))) : G 14 [some (.inr (21, 0)), some (.inl x1), some (.inl x2), none, none, none, none] [(.inl xs0), (.inr (21, 0))] S 0 := by
  refine ab_if_eq' hG 14 _ _ _ _ (7) 21 _ dX6_distance_14 (by decide) (fun hc => ?_) (fun hc => ?_)
  · have h := h.1 hc
    refine ab_iconst' hG 21 _ _ _ _ 1 1 dX6_distance_21 (by decide) ?_
    refine ab_putfield' hG 22 _ _ _ _ 82 21 0 0 _ dX6_distance_22 (List.Mem.head _) ?_
    have h := h _ rfl
    refine ab_aload_n' hG 25 _ _ _ _ 0 _ dX6_distance_25 rfl ?_
    refine ab_gI hG 26 _ _ _ _ 82 21 0 0 dX6_distance_26 (List.Mem.head _) rfl ?_
    refine ab_if_le' hG 29 _ _ _ _ (5) 34 _ dX6_distance_29 (by decide) (fun hc => ?_) (fun hc => ?_)
    · have h := h.1 hc
      refine ab_aload_n' hG 34 _ _ _ _ 0 _ dX6_distance_34 rfl ?_
      refine ab_iload_n' hG 35 _ _ _ _ 1 _ dX6_distance_35 rfl ?_
      refine ab_iconst' hG 36 _ _ _ _ 0 0 dX6_distance_36 (by decide) ?_
      exact ab_invv' hG 37 _ [_, _] _ _ 0 190 _ 2 1 0 _ (21, _) dX6_distance_37 rfl rfl rfl rfl (Nat.le_of_ble_eq_true rfl) (Nat.le_of_ble_eq_true rfl) h
    · have h := h.2 hc
      refine ab_iconst' hG 32 _ _ _ _ 0 0 dX6_distance_32 (by decide) ?_
      exact ab_ireturn' hG 33 _ _ _ _ dX6_distance_33 (Or.inl rfl) (by decide) h
  · have h := h.2 hc
    refine ab_iconst' hG 17 _ _ _ _ 0 0 dX6_distance_17 (by decide) ?_
    refine ab_goto' hG 18 _ _ _ _ (4) 22 dX6_distance_18 (by decide) ?_
    refine ab_putfield' hG 22 _ _ _ _ 82 21 0 0 _ dX6_distance_22 (List.Mem.head _) ?_
    have h := h _ rfl
    refine ab_aload_n' hG 25 _ _ _ _ 0 _ dX6_distance_25 rfl ?_
    refine ab_gI hG 26 _ _ _ _ 82 21 0 0 dX6_distance_26 (List.Mem.head _) rfl ?_
    refine ab_if_le' hG 29 _ _ _ _ (5) 34 _ dX6_distance_29 (by decide) (fun hc => ?_) (fun hc => ?_)
    · have h := h.1 hc
      refine ab_aload_n' hG 34 _ _ _ _ 0 _ dX6_distance_34 rfl ?_
      refine ab_iload_n' hG 35 _ _ _ _ 1 _ dX6_distance_35 rfl ?_
      refine ab_iconst' hG 36 _ _ _ _ 0 0 dX6_distance_36 (by decide) ?_
      exact ab_invv' hG 37 _ [_, _] _ _ 0 190 _ 2 1 0 _ (21, _) dX6_distance_37 rfl rfl rfl rfl (Nat.le_of_ble_eq_true rfl) (Nat.le_of_ble_eq_true rfl) h
    · have h := h.2 hc
      refine ab_iconst' hG 32 _ _ _ _ 0 0 dX6_distance_32 (by decide) ?_
      exact ab_ireturn' hG 33 _ _ _ _ dX6_distance_33 (Or.inl rfl) (by decide) h
theorem bl_X6_distance_40 {Q : ab_Po} {G : ab_Gt} (hG : ab_Cl M_X6_distance Q G) (x1 : Int32) (x2 : Int32) (xs0 : Int32) (S : ab_S) (h : Sp_X6_leave [(.inr (21, 0)), (.inl x2), (.inl (24 : Int32))] S (ab_back Q G 48 [some (.inr (21, 0)), some (.inl x1), some (.inl x2), some (.inl xs0), none, none, none] [] 0)) : G 40 [some (.inr (21, 0)), some (.inl x1), some (.inl x2), none, none, none, none] [(.inl xs0)] S 0 := by
  refine ab_istore_n' hG 40 _ _ _ _ 3 _ dX6_distance_40 (Nat.le_of_ble_eq_true rfl) ?_
  refine ab_aload_n' hG 41 _ _ _ _ 0 _ dX6_distance_41 rfl ?_
  refine ab_iload_n' hG 42 _ _ _ _ 2 _ dX6_distance_42 rfl ?_
  refine ab_bipush' hG 43 _ _ _ _ 24 24 dX6_distance_43 (by decide) ?_
  exact ab_invv' hG 45 _ [_, _] _ _ 0 190 _ 2 1 0 _ (21, _) dX6_distance_45 rfl rfl rfl rfl (Nat.le_of_ble_eq_true rfl) (Nat.le_of_ble_eq_true rfl) h
theorem bl_X6_distance_48 {Q : ab_Po} {G : ab_Gt} (hG : ab_Cl M_X6_distance Q G) (x1 : Int32) (x2 : Int32) (x3 : Int32) (xs0 : Int32) (S : ab_S) (h : G 53 [some (.inr (21, 0)), some (.inl x1), some (.inl x2), some (.inl x3), some (.inl xs0), some (.inl (0 : Int32)), none] [] S 0) : G 48 [some (.inr (21, 0)), some (.inl x1), some (.inl x2), some (.inl x3), none, none, none] [(.inl xs0)] S 0 := by
  refine ab_istore' hG 48 _ _ _ _ 4 _ dX6_distance_48 (Nat.le_of_ble_eq_true rfl) ?_
  refine ab_iconst' hG 50 _ _ _ _ 0 0 dX6_distance_50 (by decide) ?_
  refine ab_istore' hG 51 _ _ _ _ 5 _ dX6_distance_51 (Nat.le_of_ble_eq_true rfl) ?_
  exact h
theorem bl_X6_distance_53 {Q : ab_Po} {G : ab_Gt} (hG : ab_Cl M_X6_distance Q G) (x1 : Int32) (x2 : Int32) (x3 : Int32) (x4 : Int32) (x5 : Int32) (S : ab_S) (h : (x3 ≤ x5 → vp_in ((((24 : Int32) * (x3 - (1 : Int32))) + x4) - (1 : Int32)) 576 ∧ Q (.inl (some (S 39 0 ((((24 : Int32) * (x3 - (1 : Int32))) + x4) - (1 : Int32)).toNatClampNeg))) S) ∧ (¬ x3 ≤ x5 → G 62 [some (.inr (21, 0)), some (.inl x1), some (.inl x2), some (.inl x3), some (.inl x4), some (.inl x5), some (.inl (0 : Int32))] [] S 0)) : G 53 [some (.inr (21, 0)), some (.inl x1), some (.inl x2), some (.inl x3), some (.inl x4), some (.inl x5), none] [] S 0 := by
  refine ab_iload' hG 53 _ _ _ _ 5 _ dX6_distance_53 rfl ?_
  refine ab_iload_n' hG 55 _ _ _ _ 3 _ dX6_distance_55 rfl ?_
  refine ab_icmp_ge' hG 56 _ _ _ _ (35) 91 _ _ dX6_distance_56 (by decide) (fun hc => ?_) (fun hc => ?_)
  · have h := h.1 hc
    refine ab_aload_n' hG 91 _ _ _ _ 0 _ dX6_distance_91 rfl ?_
    refine ab_gR hG 92 _ _ _ _ 72 21 25 0 (39, 0) dX6_distance_92 (List.Mem.tail _ (List.Mem.head _)) rfl ?_
    refine ab_bipush' hG 95 _ _ _ _ 24 24 dX6_distance_95 (by decide) ?_
    refine ab_iload_n' hG 97 _ _ _ _ 3 _ dX6_distance_97 rfl ?_
    refine ab_iconst' hG 98 _ _ _ _ 1 1 dX6_distance_98 (by decide) ?_
    refine ab_isub' hG 99 _ _ _ _ _ _ dX6_distance_99 ?_
    refine ab_imul' hG 100 _ _ _ _ _ _ dX6_distance_100 ?_
    refine ab_iload' hG 101 _ _ _ _ 4 _ dX6_distance_101 rfl ?_
    refine ab_iadd' hG 103 _ _ _ _ _ _ dX6_distance_103 ?_
    refine ab_iconst' hG 104 _ _ _ _ 1 1 dX6_distance_104 (by decide) ?_
    refine ab_isub' hG 105 _ _ _ _ _ _ dX6_distance_105 ?_
    refine ab_iaload' hG 106 _ _ _ _ 39 0 576 _ dX6_distance_106 rfl h.1 ?_
    have h := h.2
    exact ab_ireturn' hG 107 _ _ _ _ dX6_distance_107 (Or.inl rfl) (by decide) h
  · have h := h.2 hc
    refine ab_iconst' hG 59 _ _ _ _ 0 0 dX6_distance_59 (by decide) ?_
    refine ab_istore' hG 60 _ _ _ _ 6 _ dX6_distance_60 (Nat.le_of_ble_eq_true rfl) ?_
    exact h
theorem bl_X6_distance_62 {Q : ab_Po} {G : ab_Gt} (hG : ab_Cl M_X6_distance Q G) (x1 : Int32) (x2 : Int32) (x3 : Int32) (x4 : Int32) (x5 : Int32) (x6 : Int32) (S : ab_S) (h : (x4 ≤ x6 → G 53 [some (.inr (21, 0)), some (.inl x1), some (.inl x2), some (.inl x3), some (.inl x4), some (.inl (x5 + 1)), none] [] S 0) ∧ (¬ x4 ≤ x6 → Sp_X6_compare [(.inr (21, 0)), (.inl x1), (.inl x2), (.inl x5), (.inl x6)] S (ab_back Q G 79 [some (.inr (21, 0)), some (.inl x1), some (.inl x2), some (.inl x3), some (.inl x4), some (.inl x5), some (.inl x6)] [] 0))) : G 62 [some (.inr (21, 0)), some (.inl x1), some (.inl x2), some (.inl x3), some (.inl x4), some (.inl x5), some (.inl x6)] [] S 0 := by
  refine ab_iload' hG 62 _ _ _ _ 6 _ dX6_distance_62 rfl ?_
  refine ab_iload' hG 64 _ _ _ _ 4 _ dX6_distance_64 rfl ?_
  refine ab_icmp_ge' hG 66 _ _ _ _ (19) 85 _ _ dX6_distance_66 (by decide) (fun hc => ?_) (fun hc => ?_)
  · have h := h.1 hc
    refine ab_iinc' hG 85 _ _ _ _ 5 1 _ _ dX6_distance_85 rfl rfl ?_
    refine ab_goto' hG 88 _ _ _ _ (-35) 53 dX6_distance_88 (by decide) ?_
    refine ab_forget' hG _ _ _ _ _ 6 ?_
    exact h
  · have h := h.2 hc
    refine ab_aload_n' hG 69 _ _ _ _ 0 _ dX6_distance_69 rfl ?_
    refine ab_iload_n' hG 70 _ _ _ _ 1 _ dX6_distance_70 rfl ?_
    refine ab_iload_n' hG 71 _ _ _ _ 2 _ dX6_distance_71 rfl ?_
    refine ab_iload' hG 72 _ _ _ _ 5 _ dX6_distance_72 rfl ?_
    refine ab_iload' hG 74 _ _ _ _ 6 _ dX6_distance_74 rfl ?_
    exact ab_invv' hG 76 _ [_, _, _, _] _ _ 0 193 _ 4 0 0 _ (21, _) dX6_distance_76 rfl rfl rfl rfl (Nat.le_of_ble_eq_true rfl) (Nat.le_of_ble_eq_true rfl) h
theorem bl_X6_distance_79 {Q : ab_Po} {G : ab_Gt} (hG : ab_Cl M_X6_distance Q G) (x1 : Int32) (x2 : Int32) (x3 : Int32) (x4 : Int32) (x5 : Int32) (x6 : Int32) (S : ab_S) (h : G 62 [some (.inr (21, 0)), some (.inl x1), some (.inl x2), some (.inl x3), some (.inl x4), some (.inl x5), some (.inl (x6 + 1))] [] S 0) : G 79 [some (.inr (21, 0)), some (.inl x1), some (.inl x2), some (.inl x3), some (.inl x4), some (.inl x5), some (.inl x6)] [] S 0 := by
  refine ab_iinc' hG 79 _ _ _ _ 6 1 _ _ dX6_distance_79 rfl rfl ?_
  refine ab_goto' hG 82 _ _ _ _ (-20) 62 dX6_distance_82 (by decide) ?_
  exact h
theorem bl_X6_state_0 {Q : ab_Po} {G : ab_Gt} (hG : ab_Cl M_X6_state Q G) (x1 : Int32) (S : ab_S) (h : (x1 < 0 → (∀ S1 : ab_S, S1 = ab_su S 21 0 0 (1 : Int32) → ((S1 21 0 0) ≤ 0 → (x1 = 0 → Q (.inl (some (S1 21 0 6))) S1) ∧ (¬ x1 = 0 → (x1 = (1 : Int32) → Q (.inl (some (S1 21 0 10))) S1) ∧ (¬ x1 = (1 : Int32) → Q (.inl (some (S1 21 0 11))) S1))) ∧ (¬ (S1 21 0 0) ≤ 0 → Q (.inl (some (0 : Int32))) S1))) ∧ (¬ x1 < 0 → (x1 ≤ (2 : Int32) → (∀ S2 : ab_S, S2 = ab_su S 21 0 0 (0 : Int32) → ((S2 21 0 0) ≤ 0 → (x1 = 0 → Q (.inl (some (S2 21 0 6))) S2) ∧ (¬ x1 = 0 → (x1 = (1 : Int32) → Q (.inl (some (S2 21 0 10))) S2) ∧ (¬ x1 = (1 : Int32) → Q (.inl (some (S2 21 0 11))) S2))) ∧ (¬ (S2 21 0 0) ≤ 0 → Q (.inl (some (0 : Int32))) S2))) ∧ (¬ x1 ≤ (2 : Int32) → (∀ S3 : ab_S, S3 = ab_su S 21 0 0 (1 : Int32) → ((S3 21 0 0) ≤ 0 → (x1 = 0 → Q (.inl (some (S3 21 0 6))) S3) ∧ (¬ x1 = 0 → (x1 = (1 : Int32) → Q (.inl (some (S3 21 0 10))) S3) ∧ (¬ x1 = (1 : Int32) → Q (.inl (some (S3 21 0 11))) S3))) ∧ (¬ (S3 21 0 0) ≤ 0 → Q (.inl (some (0 : Int32))) S3))))) : G 0 [some (.inr (21, 0)), some (.inl x1)] [] S 0 := by
  refine ab_aload_n' hG 0 _ _ _ _ 0 _ dX6_state_0 rfl ?_
  refine ab_iload_n' hG 1 _ _ _ _ 1 _ dX6_state_1 rfl ?_
  refine ab_if_lt' hG 2 _ _ _ _ (8) 10 _ dX6_state_2 (by decide) (fun hc => ?_) (fun hc => ?_)
  · have h := h.1 hc
    refine ab_iconst' hG 10 _ _ _ _ 1 1 dX6_state_10 (by decide) ?_
    refine ab_goto' hG 11 _ _ _ _ (4) 15 dX6_state_11 (by decide) ?_
    refine ab_putfield' hG 15 _ _ _ _ 82 21 0 0 _ dX6_state_15 (List.Mem.head _) ?_
    have h := h _ rfl
    refine ab_aload_n' hG 18 _ _ _ _ 0 _ dX6_state_18 rfl ?_
    refine ab_gI hG 19 _ _ _ _ 82 21 0 0 dX6_state_19 (List.Mem.head _) rfl ?_
    refine ab_if_le' hG 22 _ _ _ _ (7) 29 _ dX6_state_22 (by decide) (fun hc => ?_) (fun hc => ?_)
    · have h := h.1 hc
      refine ab_iload_n' hG 29 _ _ _ _ 1 _ dX6_state_29 rfl ?_
      refine ab_if_ne' hG 30 _ _ _ _ (10) 40 _ dX6_state_30 (by decide) (fun hc => ?_) (fun hc => ?_)
      · have h := h.2 hc
        refine ab_iload_n' hG 40 _ _ _ _ 1 _ dX6_state_40 rfl ?_
        refine ab_iconst' hG 41 _ _ _ _ 1 1 dX6_state_41 (by decide) ?_
        refine ab_icmp_ne' hG 42 _ _ _ _ (10) 52 _ _ dX6_state_42 (by decide) (fun hc => ?_) (fun hc => ?_)
        · have h := h.2 hc
          refine ab_aload_n' hG 52 _ _ _ _ 0 _ dX6_state_52 rfl ?_
          refine ab_gI hG 53 _ _ _ _ 39 21 11 0 dX6_state_53 (List.Mem.tail _ (List.Mem.tail _ (List.Mem.tail _ (List.Mem.head _)))) rfl ?_
          exact ab_ireturn' hG 56 _ _ _ _ dX6_state_56 (Or.inl rfl) (by decide) h
        · have h := h.1 hc
          refine ab_aload_n' hG 45 _ _ _ _ 0 _ dX6_state_45 rfl ?_
          refine ab_gI hG 46 _ _ _ _ 124 21 10 0 dX6_state_46 (List.Mem.tail _ (List.Mem.tail _ (List.Mem.head _))) rfl ?_
          refine ab_goto' hG 49 _ _ _ _ (7) 56 dX6_state_49 (by decide) ?_
          exact ab_ireturn' hG 56 _ _ _ _ dX6_state_56 (Or.inl rfl) (by decide) h
      · have h := h.1 hc
        refine ab_aload_n' hG 33 _ _ _ _ 0 _ dX6_state_33 rfl ?_
        refine ab_gI hG 34 _ _ _ _ 27 21 6 0 dX6_state_34 (List.Mem.tail _ (List.Mem.head _)) rfl ?_
        refine ab_goto' hG 37 _ _ _ _ (19) 56 dX6_state_37 (by decide) ?_
        exact ab_ireturn' hG 56 _ _ _ _ dX6_state_56 (Or.inl rfl) (by decide) h
    · have h := h.2 hc
      refine ab_iconst' hG 25 _ _ _ _ 0 0 dX6_state_25 (by decide) ?_
      refine ab_goto' hG 26 _ _ _ _ (30) 56 dX6_state_26 (by decide) ?_
      exact ab_ireturn' hG 56 _ _ _ _ dX6_state_56 (Or.inl rfl) (by decide) h
  · have h := h.2 hc
    refine ab_iload_n' hG 5 _ _ _ _ 1 _ dX6_state_5 rfl ?_
    refine ab_iconst' hG 6 _ _ _ _ 2 2 dX6_state_6 (by decide) ?_
    refine ab_icmp_le' hG 7 _ _ _ _ (7) 14 _ _ dX6_state_7 (by decide) (fun hc => ?_) (fun hc => ?_)
    · have h := h.1 hc
      refine ab_iconst' hG 14 _ _ _ _ 0 0 dX6_state_14 (by decide) ?_
      refine ab_putfield' hG 15 _ _ _ _ 82 21 0 0 _ dX6_state_15 (List.Mem.head _) ?_
      have h := h _ rfl
      refine ab_aload_n' hG 18 _ _ _ _ 0 _ dX6_state_18 rfl ?_
      refine ab_gI hG 19 _ _ _ _ 82 21 0 0 dX6_state_19 (List.Mem.head _) rfl ?_
      refine ab_if_le' hG 22 _ _ _ _ (7) 29 _ dX6_state_22 (by decide) (fun hc => ?_) (fun hc => ?_)
      · have h := h.1 hc
        refine ab_iload_n' hG 29 _ _ _ _ 1 _ dX6_state_29 rfl ?_
        refine ab_if_ne' hG 30 _ _ _ _ (10) 40 _ dX6_state_30 (by decide) (fun hc => ?_) (fun hc => ?_)
        · have h := h.2 hc
          refine ab_iload_n' hG 40 _ _ _ _ 1 _ dX6_state_40 rfl ?_
          refine ab_iconst' hG 41 _ _ _ _ 1 1 dX6_state_41 (by decide) ?_
          refine ab_icmp_ne' hG 42 _ _ _ _ (10) 52 _ _ dX6_state_42 (by decide) (fun hc => ?_) (fun hc => ?_)
          · have h := h.2 hc
            refine ab_aload_n' hG 52 _ _ _ _ 0 _ dX6_state_52 rfl ?_
            refine ab_gI hG 53 _ _ _ _ 39 21 11 0 dX6_state_53 (List.Mem.tail _ (List.Mem.tail _ (List.Mem.tail _ (List.Mem.head _)))) rfl ?_
            exact ab_ireturn' hG 56 _ _ _ _ dX6_state_56 (Or.inl rfl) (by decide) h
          · have h := h.1 hc
            refine ab_aload_n' hG 45 _ _ _ _ 0 _ dX6_state_45 rfl ?_
            refine ab_gI hG 46 _ _ _ _ 124 21 10 0 dX6_state_46 (List.Mem.tail _ (List.Mem.tail _ (List.Mem.head _))) rfl ?_
            refine ab_goto' hG 49 _ _ _ _ (7) 56 dX6_state_49 (by decide) ?_
            exact ab_ireturn' hG 56 _ _ _ _ dX6_state_56 (Or.inl rfl) (by decide) h
        · have h := h.1 hc
          refine ab_aload_n' hG 33 _ _ _ _ 0 _ dX6_state_33 rfl ?_
          refine ab_gI hG 34 _ _ _ _ 27 21 6 0 dX6_state_34 (List.Mem.tail _ (List.Mem.head _)) rfl ?_
          refine ab_goto' hG 37 _ _ _ _ (19) 56 dX6_state_37 (by decide) ?_
          exact ab_ireturn' hG 56 _ _ _ _ dX6_state_56 (Or.inl rfl) (by decide) h
      · have h := h.2 hc
        refine ab_iconst' hG 25 _ _ _ _ 0 0 dX6_state_25 (by decide) ?_
        refine ab_goto' hG 26 _ _ _ _ (30) 56 dX6_state_26 (by decide) ?_
        exact ab_ireturn' hG 56 _ _ _ _ dX6_state_56 (Or.inl rfl) (by decide) h
    · have h := h.2 hc
      refine ab_iconst' hG 10 _ _ _ _ 1 1 dX6_state_10 (by decide) ?_
      refine ab_goto' hG 11 _ _ _ _ (4) 15 dX6_state_11 (by decide) ?_
      refine ab_putfield' hG 15 _ _ _ _ 82 21 0 0 _ dX6_state_15 (List.Mem.head _) ?_
      have h := h _ rfl
      refine ab_aload_n' hG 18 _ _ _ _ 0 _ dX6_state_18 rfl ?_
      refine ab_gI hG 19 _ _ _ _ 82 21 0 0 dX6_state_19 (List.Mem.head _) rfl ?_
      refine ab_if_le' hG 22 _ _ _ _ (7) 29 _ dX6_state_22 (by decide) (fun hc => ?_) (fun hc => ?_)
      · have h := h.1 hc
        refine ab_iload_n' hG 29 _ _ _ _ 1 _ dX6_state_29 rfl ?_
        refine ab_if_ne' hG 30 _ _ _ _ (10) 40 _ dX6_state_30 (by decide) (fun hc => ?_) (fun hc => ?_)
        · have h := h.2 hc
          refine ab_iload_n' hG 40 _ _ _ _ 1 _ dX6_state_40 rfl ?_
          refine ab_iconst' hG 41 _ _ _ _ 1 1 dX6_state_41 (by decide) ?_
          refine ab_icmp_ne' hG 42 _ _ _ _ (10) 52 _ _ dX6_state_42 (by decide) (fun hc => ?_) (fun hc => ?_)
          · have h := h.2 hc
            refine ab_aload_n' hG 52 _ _ _ _ 0 _ dX6_state_52 rfl ?_
            refine ab_gI hG 53 _ _ _ _ 39 21 11 0 dX6_state_53 (List.Mem.tail _ (List.Mem.tail _ (List.Mem.tail _ (List.Mem.head _)))) rfl ?_
            exact ab_ireturn' hG 56 _ _ _ _ dX6_state_56 (Or.inl rfl) (by decide) h
          · have h := h.1 hc
            refine ab_aload_n' hG 45 _ _ _ _ 0 _ dX6_state_45 rfl ?_
            refine ab_gI hG 46 _ _ _ _ 124 21 10 0 dX6_state_46 (List.Mem.tail _ (List.Mem.tail _ (List.Mem.head _))) rfl ?_
            refine ab_goto' hG 49 _ _ _ _ (7) 56 dX6_state_49 (by decide) ?_
            exact ab_ireturn' hG 56 _ _ _ _ dX6_state_56 (Or.inl rfl) (by decide) h
        · have h := h.1 hc
          refine ab_aload_n' hG 33 _ _ _ _ 0 _ dX6_state_33 rfl ?_
          refine ab_gI hG 34 _ _ _ _ 27 21 6 0 dX6_state_34 (List.Mem.tail _ (List.Mem.head _)) rfl ?_
          refine ab_goto' hG 37 _ _ _ _ (19) 56 dX6_state_37 (by decide) ?_
          exact ab_ireturn' hG 56 _ _ _ _ dX6_state_56 (Or.inl rfl) (by decide) h
      · have h := h.2 hc
        refine ab_iconst' hG 25 _ _ _ _ 0 0 dX6_state_25 (by decide) ?_
        refine ab_goto' hG 26 _ _ _ _ (30) 56 dX6_state_26 (by decide) ?_
        exact ab_ireturn' hG 56 _ _ _ _ dX6_state_56 (Or.inl rfl) (by decide) h
theorem bl_X6_above_0 {Q : ab_Po} {G : ab_Gt} (hG : ab_Cl M_X6_above Q G) (x1 : Int32) (x2 : Int32) (S : ab_S) (h : Sp_X6_isCommit [(.inr (21, 0)), (.inl x1)] S (ab_back Q G 6 [some (.inr (21, 0)), some (.inl x1), some (.inl x2)] [(.inr (21, 0))] 0)) : G 0 [some (.inr (21, 0)), some (.inl x1), some (.inl x2)] [] S 0 := by
  refine ab_aload_n' hG 0 _ _ _ _ 0 _ dX6_above_0 rfl ?_
  refine ab_aload_n' hG 1 _ _ _ _ 0 _ dX6_above_1 rfl ?_
  refine ab_iload_n' hG 2 _ _ _ _ 1 _ dX6_above_2 rfl ?_
  exact ab_invv' hG 3 _ [_] _ _ 0 127 _ 1 1 0 _ (21, _) dX6_above_3 rfl rfl rfl rfl (Nat.le_of_ble_eq_true rfl) (Nat.le_of_ble_eq_true rfl) h
theorem bl_X6_above_6 {Q : ab_Po} {G : ab_Gt} (hG : ab_Cl M_X6_above Q G) (x1 : Int32) (x2 : Int32) (xs0 : Int32) (S : ab_S) (h : (xs0 = 0 → (∀ S4 : ab_S, S4 = ab_su S 21 0 0 (1 : Int32) → ((S4 21 0 0) ≤ 0 → (x2 = 0 → vp_in x1 12 ∧ Q (.inl (some (S4 26 0 x1.toNatClampNeg))) S4) ∧ (¬ x2 = 0 → vp_in x1 12 ∧ Q (.inl (some (S4 27 0 x1.toNatClampNeg))) S4)) ∧ (¬ (S4 21 0 0) ≤ 0 → Q (.inl (some (0 : Int32))) S4))) ∧ (¬ xs0 = 0 → (x2 < 0 → (∀ S1 : ab_S, S1 = ab_su S 21 0 0 (2 : Int32) → ((S1 21 0 0) ≤ 0 → (x2 = 0 → vp_in x1 12 ∧ Q (.inl (some (S1 26 0 x1.toNatClampNeg))) S1) ∧ (¬ x2 = 0 → vp_in x1 12 ∧ Q (.inl (some (S1 27 0 x1.toNatClampNeg))) S1)) ∧ (¬ (S1 21 0 0) ≤ 0 → Q (.inl (some (0 : Int32))) S1))) ∧ (¬ x2 < 0 → (x2 ≤ (1 : Int32) → (∀ S2 : ab_S, S2 = ab_su S 21 0 0 (0 : Int32) → ((S2 21 0 0) ≤ 0 → (x2 = 0 → vp_in x1 12 ∧ Q (.inl (some (S2 26 0 x1.toNatClampNeg))) S2) ∧ (¬ x2 = 0 → vp_in x1 12 ∧ Q (.inl (some (S2 27 0 x1.toNatClampNeg))) S2)) ∧ (¬ (S2 21 0 0) ≤ 0 → Q (.inl (some (0 : Int32))) S2))) ∧ (¬ x2 ≤ (1 : Int32) → (∀ S3 : ab_S, S3 = ab_su S 21 0 0 (2 : Int32) → ((S3 21 0 0) ≤ 0 → (x2 = 0 → vp_in x1 12 ∧ Q (.inl (some (S3 26 0 x1.toNatClampNeg))) S3) ∧ (¬ x2 = 0 → vp_in x1 12 ∧ Q (.inl (some (S3 27 0 x1.toNatClampNeg))) S3)) ∧ (¬ (S3 21 0 0) ≤ 0 → Q (.inl (some (0 : Int32))) S3)))))) : G 6 [some (.inr (21, 0)), some (.inl x1), some (.inl x2)] [(.inl xs0), (.inr (21, 0))] S 0 := by
  refine ab_if_ne' hG 6 _ _ _ _ (7) 13 _ dX6_above_6 (by decide) (fun hc => ?_) (fun hc => ?_)
  · have h := h.2 hc
    refine ab_iload_n' hG 13 _ _ _ _ 2 _ dX6_above_13 rfl ?_
    refine ab_if_lt' hG 14 _ _ _ _ (8) 22 _ dX6_above_14 (by decide) (fun hc => ?_) (fun hc => ?_)
    · have h := h.1 hc
      refine ab_iconst' hG 22 _ _ _ _ 2 2 dX6_above_22 (by decide) ?_
      refine ab_goto' hG 23 _ _ _ _ (4) 27 dX6_above_23 (by decide) ?_
      refine ab_putfield' hG 27 _ _ _ _ 82 21 0 0 _ dX6_above_27 (List.Mem.head _) ?_
      have h := h _ rfl
      refine ab_aload_n' hG 30 _ _ _ _ 0 _ dX6_above_30 rfl ?_
      refine ab_gI hG 31 _ _ _ _ 82 21 0 0 dX6_above_31 (List.Mem.head _) rfl ?_
      refine ab_if_le' hG 34 _ _ _ _ (7) 41 _ dX6_above_34 (by decide) (fun hc => ?_) (fun hc => ?_)
      · have h := h.1 hc
        refine ab_iload_n' hG 41 _ _ _ _ 2 _ dX6_above_41 rfl ?_
        refine ab_if_ne' hG 42 _ _ _ _ (12) 54 _ dX6_above_42 (by decide) (fun hc => ?_) (fun hc => ?_)
        · have h := h.2 hc
          refine ab_aload_n' hG 54 _ _ _ _ 0 _ dX6_above_54 rfl ?_
          refine ab_gR hG 55 _ _ _ _ 33 21 8 0 (27, 0) dX6_above_55 (List.Mem.tail _ (List.Mem.tail _ (List.Mem.head _))) rfl ?_
          refine ab_iload_n' hG 58 _ _ _ _ 1 _ dX6_above_58 rfl ?_
          refine ab_iaload' hG 59 _ _ _ _ 27 0 12 _ dX6_above_59 rfl h.1 ?_
          have h := h.2
          exact ab_ireturn' hG 60 _ _ _ _ dX6_above_60 (Or.inl rfl) (by decide) h
        · have h := h.1 hc
          refine ab_aload_n' hG 45 _ _ _ _ 0 _ dX6_above_45 rfl ?_
          refine ab_gR hG 46 _ _ _ _ 30 21 7 0 (26, 0) dX6_above_46 (List.Mem.tail _ (List.Mem.head _)) rfl ?_
          refine ab_iload_n' hG 49 _ _ _ _ 1 _ dX6_above_49 rfl ?_
          refine ab_iaload' hG 50 _ _ _ _ 26 0 12 _ dX6_above_50 rfl h.1 ?_
          have h := h.2
          refine ab_goto' hG 51 _ _ _ _ (9) 60 dX6_above_51 (by decide) ?_
          exact ab_ireturn' hG 60 _ _ _ _ dX6_above_60 (Or.inl rfl) (by decide) h
      · have h := h.2 hc
        refine ab_iconst' hG 37 _ _ _ _ 0 0 dX6_above_37 (by decide) ?_
        refine ab_goto' hG 38 _ _ _ _ (22) 60 dX6_above_38 (by decide) ?_
        exact ab_ireturn' hG 60 _ _ _ _ dX6_above_60 (Or.inl rfl) (by decide) h
    · have h := h.2 hc
      refine ab_iload_n' hG 17 _ _ _ _ 2 _ dX6_above_17 rfl ?_
      refine ab_iconst' hG 18 _ _ _ _ 1 1 dX6_above_18 (by decide) ?_
      refine ab_icmp_le' hG 19 _ _ _ _ (7) 26 _ _ dX6_above_19 (by decide) (fun hc => ?_) (fun hc => ?_)
      · have h := h.1 hc
        refine ab_iconst' hG 26 _ _ _ _ 0 0 dX6_above_26 (by decide) ?_
        refine ab_putfield' hG 27 _ _ _ _ 82 21 0 0 _ dX6_above_27 (List.Mem.head _) ?_
        have h := h _ rfl
        refine ab_aload_n' hG 30 _ _ _ _ 0 _ dX6_above_30 rfl ?_
        refine ab_gI hG 31 _ _ _ _ 82 21 0 0 dX6_above_31 (List.Mem.head _) rfl ?_
        refine ab_if_le' hG 34 _ _ _ _ (7) 41 _ dX6_above_34 (by decide) (fun hc => ?_) (fun hc => ?_)
        · have h := h.1 hc
          refine ab_iload_n' hG 41 _ _ _ _ 2 _ dX6_above_41 rfl ?_
          refine ab_if_ne' hG 42 _ _ _ _ (12) 54 _ dX6_above_42 (by decide) (fun hc => ?_) (fun hc => ?_)
          · have h := h.2 hc
            refine ab_aload_n' hG 54 _ _ _ _ 0 _ dX6_above_54 rfl ?_
            refine ab_gR hG 55 _ _ _ _ 33 21 8 0 (27, 0) dX6_above_55 (List.Mem.tail _ (List.Mem.tail _ (List.Mem.head _))) rfl ?_
            refine ab_iload_n' hG 58 _ _ _ _ 1 _ dX6_above_58 rfl ?_
            refine ab_iaload' hG 59 _ _ _ _ 27 0 12 _ dX6_above_59 rfl h.1 ?_
            have h := h.2
            exact ab_ireturn' hG 60 _ _ _ _ dX6_above_60 (Or.inl rfl) (by decide) h
          · have h := h.1 hc
            refine ab_aload_n' hG 45 _ _ _ _ 0 _ dX6_above_45 rfl ?_
            refine ab_gR hG 46 _ _ _ _ 30 21 7 0 (26, 0) dX6_above_46 (List.Mem.tail _ (List.Mem.head _)) rfl ?_
            refine ab_iload_n' hG 49 _ _ _ _ 1 _ dX6_above_49 rfl ?_
            refine ab_iaload' hG 50 _ _ _ _ 26 0 12 _ dX6_above_50 rfl h.1 ?_
            have h := h.2
            refine ab_goto' hG 51 _ _ _ _ (9) 60 dX6_above_51 (by decide) ?_
            exact ab_ireturn' hG 60 _ _ _ _ dX6_above_60 (Or.inl rfl) (by decide) h
        · have h := h.2 hc
          refine ab_iconst' hG 37 _ _ _ _ 0 0 dX6_above_37 (by decide) ?_
          refine ab_goto' hG 38 _ _ _ _ (22) 60 dX6_above_38 (by decide) ?_
          exact ab_ireturn' hG 60 _ _ _ _ dX6_above_60 (Or.inl rfl) (by decide) h
      · have h := h.2 hc
        refine ab_iconst' hG 22 _ _ _ _ 2 2 dX6_above_22 (by decide) ?_
        refine ab_goto' hG 23 _ _ _ _ (4) 27 dX6_above_23 (by decide) ?_
        refine ab_putfield' hG 27 _ _ _ _ 82 21 0 0 _ dX6_above_27 (List.Mem.head _) ?_
        have h := h _ rfl
        refine ab_aload_n' hG 30 _ _ _ _ 0 _ dX6_above_30 rfl ?_
        refine ab_gI hG 31 _ _ _ _ 82 21 0 0 dX6_above_31 (List.Mem.head _) rfl ?_
        refine ab_if_le' hG 34 _ _ _ _ (7) 41 _ dX6_above_34 (by decide) (fun hc => ?_) (fun hc => ?_)
        · have h := h.1 hc
          refine ab_iload_n' hG 41 _ _ _ _ 2 _ dX6_above_41 rfl ?_
          refine ab_if_ne' hG 42 _ _ _ _ (12) 54 _ dX6_above_42 (by decide) (fun hc => ?_) (fun hc => ?_)
          · have h := h.2 hc
            refine ab_aload_n' hG 54 _ _ _ _ 0 _ dX6_above_54 rfl ?_
            refine ab_gR hG 55 _ _ _ _ 33 21 8 0 (27, 0) dX6_above_55 (List.Mem.tail _ (List.Mem.tail _ (List.Mem.head _))) rfl ?_
            refine ab_iload_n' hG 58 _ _ _ _ 1 _ dX6_above_58 rfl ?_
            refine ab_iaload' hG 59 _ _ _ _ 27 0 12 _ dX6_above_59 rfl h.1 ?_
            have h := h.2
            exact ab_ireturn' hG 60 _ _ _ _ dX6_above_60 (Or.inl rfl) (by decide) h
          · have h := h.1 hc
            refine ab_aload_n' hG 45 _ _ _ _ 0 _ dX6_above_45 rfl ?_
            refine ab_gR hG 46 _ _ _ _ 30 21 7 0 (26, 0) dX6_above_46 (List.Mem.tail _ (List.Mem.head _)) rfl ?_
            refine ab_iload_n' hG 49 _ _ _ _ 1 _ dX6_above_49 rfl ?_
            refine ab_iaload' hG 50 _ _ _ _ 26 0 12 _ dX6_above_50 rfl h.1 ?_
            have h := h.2
            refine ab_goto' hG 51 _ _ _ _ (9) 60 dX6_above_51 (by decide) ?_
            exact ab_ireturn' hG 60 _ _ _ _ dX6_above_60 (Or.inl rfl) (by decide) h
        · have h := h.2 hc
          refine ab_iconst' hG 37 _ _ _ _ 0 0 dX6_above_37 (by decide) ?_
          refine ab_goto' hG 38 _ _ _ _ (22) 60 dX6_above_38 (by decide) ?_
          exact ab_ireturn' hG 60 _ _ _ _ dX6_above_60 (Or.inl rfl) (by decide) h
  · have h := h.1 hc
    refine ab_iconst' hG 9 _ _ _ _ 1 1 dX6_above_9 (by decide) ?_
    refine ab_goto' hG 10 _ _ _ _ (17) 27 dX6_above_10 (by decide) ?_
    refine ab_putfield' hG 27 _ _ _ _ 82 21 0 0 _ dX6_above_27 (List.Mem.head _) ?_
    have h := h _ rfl
    refine ab_aload_n' hG 30 _ _ _ _ 0 _ dX6_above_30 rfl ?_
    refine ab_gI hG 31 _ _ _ _ 82 21 0 0 dX6_above_31 (List.Mem.head _) rfl ?_
    refine ab_if_le' hG 34 _ _ _ _ (7) 41 _ dX6_above_34 (by decide) (fun hc => ?_) (fun hc => ?_)
    · have h := h.1 hc
      refine ab_iload_n' hG 41 _ _ _ _ 2 _ dX6_above_41 rfl ?_
      refine ab_if_ne' hG 42 _ _ _ _ (12) 54 _ dX6_above_42 (by decide) (fun hc => ?_) (fun hc => ?_)
      · have h := h.2 hc
        refine ab_aload_n' hG 54 _ _ _ _ 0 _ dX6_above_54 rfl ?_
        refine ab_gR hG 55 _ _ _ _ 33 21 8 0 (27, 0) dX6_above_55 (List.Mem.tail _ (List.Mem.tail _ (List.Mem.head _))) rfl ?_
        refine ab_iload_n' hG 58 _ _ _ _ 1 _ dX6_above_58 rfl ?_
        refine ab_iaload' hG 59 _ _ _ _ 27 0 12 _ dX6_above_59 rfl h.1 ?_
        have h := h.2
        exact ab_ireturn' hG 60 _ _ _ _ dX6_above_60 (Or.inl rfl) (by decide) h
      · have h := h.1 hc
        refine ab_aload_n' hG 45 _ _ _ _ 0 _ dX6_above_45 rfl ?_
        refine ab_gR hG 46 _ _ _ _ 30 21 7 0 (26, 0) dX6_above_46 (List.Mem.tail _ (List.Mem.head _)) rfl ?_
        refine ab_iload_n' hG 49 _ _ _ _ 1 _ dX6_above_49 rfl ?_
        refine ab_iaload' hG 50 _ _ _ _ 26 0 12 _ dX6_above_50 rfl h.1 ?_
        have h := h.2
        refine ab_goto' hG 51 _ _ _ _ (9) 60 dX6_above_51 (by decide) ?_
        exact ab_ireturn' hG 60 _ _ _ _ dX6_above_60 (Or.inl rfl) (by decide) h
    · have h := h.2 hc
      refine ab_iconst' hG 37 _ _ _ _ 0 0 dX6_above_37 (by decide) ?_
      refine ab_goto' hG 38 _ _ _ _ (22) 60 dX6_above_38 (by decide) ?_
      exact ab_ireturn' hG 60 _ _ _ _ dX6_above_60 (Or.inl rfl) (by decide) h
