theorem bl_X6_choose_0 {Q : ab_Po} {G : ab_Gt} (hG : ab_Cl M_X6_choose Q G) (x0 : Int32) (x1 : Int32) (x2 : Int32) (x3 : Int32) (S : ab_S) (h : (x0 = x1 → Q (.inl (some x0)) S) ∧ (¬ x0 = x1 → (x2 = 0 → (x2 = 0 → Q (.inl (some (-9 : Int32))) S) ∧ (¬ x2 = 0 → (x3 = x1 → Q (.inl (some x0)) S) ∧ (¬ x3 = x1 → Q (.inl (some (-9 : Int32))) S))) ∧ (¬ x2 = 0 → (x3 = x0 → Q (.inl (some x1)) S) ∧ (¬ x3 = x0 → (x2 = 0 → Q (.inl (some (-9 : Int32))) S) ∧ (¬ x2 = 0 → (x3 = x1 → Q (.inl (some x0)) S) ∧ (¬ x3 = x1 → Q (.inl (some (-9 : Int32))) S)))))) : G 0 [some (.inl x0), some (.inl x1), some (.inl x2), some (.inl x3)] [] S 0 := by
  refine ab_iload_n' hG 0 _ _ _ _ 0 _ dX6_choose_0 rfl ?_
  refine ab_iload_n' hG 1 _ _ _ _ 1 _ dX6_choose_1 rfl ?_
  refine ab_icmp_ne' hG 2 _ _ _ _ (7) 9 _ _ dX6_choose_2 (by decide) (fun hc => ?_) (fun hc => ?_)
  · have h := h.2 hc
    refine ab_iload_n' hG 9 _ _ _ _ 2 _ dX6_choose_9 rfl ?_
    refine ab_if_eq' hG 10 _ _ _ _ (12) 22 _ dX6_choose_10 (by decide) (fun hc => ?_) (fun hc => ?_)
    · have h := h.1 hc
      refine ab_iload_n' hG 22 _ _ _ _ 2 _ dX6_choose_22 rfl ?_
      refine ab_if_eq' hG 23 _ _ _ _ (12) 35 _ dX6_choose_23 (by decide) (fun hc => ?_) (fun hc => ?_)
      · have h := h.1 hc
        refine ab_bipush' hG 35 _ _ _ _ (-9) (-9) dX6_choose_35 (by decide) ?_
        exact ab_ireturn' hG 37 _ _ _ _ dX6_choose_37 (Or.inl rfl) (by decide) h
      · have h := h.2 hc
        refine ab_iload_n' hG 26 _ _ _ _ 3 _ dX6_choose_26 rfl ?_
        refine ab_iload_n' hG 27 _ _ _ _ 1 _ dX6_choose_27 rfl ?_
        refine ab_icmp_ne' hG 28 _ _ _ _ (7) 35 _ _ dX6_choose_28 (by decide) (fun hc => ?_) (fun hc => ?_)
        · have h := h.2 hc
          refine ab_bipush' hG 35 _ _ _ _ (-9) (-9) dX6_choose_35 (by decide) ?_
          exact ab_ireturn' hG 37 _ _ _ _ dX6_choose_37 (Or.inl rfl) (by decide) h
        · have h := h.1 hc
          refine ab_iload_n' hG 31 _ _ _ _ 0 _ dX6_choose_31 rfl ?_
          refine ab_goto' hG 32 _ _ _ _ (5) 37 dX6_choose_32 (by decide) ?_
          exact ab_ireturn' hG 37 _ _ _ _ dX6_choose_37 (Or.inl rfl) (by decide) h
    · have h := h.2 hc
      refine ab_iload_n' hG 13 _ _ _ _ 3 _ dX6_choose_13 rfl ?_
      refine ab_iload_n' hG 14 _ _ _ _ 0 _ dX6_choose_14 rfl ?_
      refine ab_icmp_ne' hG 15 _ _ _ _ (7) 22 _ _ dX6_choose_15 (by decide) (fun hc => ?_) (fun hc => ?_)
      · have h := h.2 hc
        refine ab_iload_n' hG 22 _ _ _ _ 2 _ dX6_choose_22 rfl ?_
        refine ab_if_eq' hG 23 _ _ _ _ (12) 35 _ dX6_choose_23 (by decide) (fun hc => ?_) (fun hc => ?_)
        · have h := h.1 hc
          refine ab_bipush' hG 35 _ _ _ _ (-9) (-9) dX6_choose_35 (by decide) ?_
          exact ab_ireturn' hG 37 _ _ _ _ dX6_choose_37 (Or.inl rfl) (by decide) h
        · have h := h.2 hc
          refine ab_iload_n' hG 26 _ _ _ _ 3 _ dX6_choose_26 rfl ?_
          refine ab_iload_n' hG 27 _ _ _ _ 1 _ dX6_choose_27 rfl ?_
          refine ab_icmp_ne' hG 28 _ _ _ _ (7) 35 _ _ dX6_choose_28 (by decide) (fun hc => ?_) (fun hc => ?_)
          · have h := h.2 hc
            refine ab_bipush' hG 35 _ _ _ _ (-9) (-9) dX6_choose_35 (by decide) ?_
            exact ab_ireturn' hG 37 _ _ _ _ dX6_choose_37 (Or.inl rfl) (by decide) h
          · have h := h.1 hc
            refine ab_iload_n' hG 31 _ _ _ _ 0 _ dX6_choose_31 rfl ?_
            refine ab_goto' hG 32 _ _ _ _ (5) 37 dX6_choose_32 (by decide) ?_
            exact ab_ireturn' hG 37 _ _ _ _ dX6_choose_37 (Or.inl rfl) (by decide) h
      · have h := h.1 hc
        refine ab_iload_n' hG 18 _ _ _ _ 1 _ dX6_choose_18 rfl ?_
        refine ab_goto' hG 19 _ _ _ _ (18) 37 dX6_choose_19 (by decide) ?_
        exact ab_ireturn' hG 37 _ _ _ _ dX6_choose_37 (Or.inl rfl) (by decide) h
  · have h := h.1 hc
    refine ab_iload_n' hG 5 _ _ _ _ 0 _ dX6_choose_5 rfl ?_
    refine ab_goto' hG 6 _ _ _ _ (31) 37 dX6_choose_6 (by decide) ?_
    exact ab_ireturn' hG 37 _ _ _ _ dX6_choose_37 (Or.inl rfl) (by decide) h
theorem bl_X6_meet_0 {Q : ab_Po} {G : ab_Gt} (hG : ab_Cl M_X6_meet Q G) (x1 : Int32) (x2 : Int32) (x3 : Int32) (S : ab_S) (h : Sp_X6_stay [(.inr (21, 0)), (.inl (((24 : Int32) * (S 21 0 10)) + x1)), (.inl (((24 : Int32) * x2) + x1)), (.inl (((24 : Int32) * x3) + x1))] S (ab_back Q G 37 [some (.inr (21, 0)), some (.inl x1), some (.inl x2), some (.inl x3), some (.inl (((24 : Int32) * (S 21 0 10)) + x1)), some (.inl (((24 : Int32) * x2) + x1)), some (.inl (((24 : Int32) * x3) + x1)), none, none, none] [] 0)) : G 0 [some (.inr (21, 0)), some (.inl x1), some (.inl x2), some (.inl x3), none, none, none, none, none, none] [] S 0 := by
  refine ab_bipush' hG 0 _ _ _ _ 24 24 dX6_meet_0 (by decide) ?_
  refine ab_aload_n' hG 2 _ _ _ _ 0 _ dX6_meet_2 rfl ?_
  refine ab_gI hG 3 _ _ _ _ 124 21 10 0 dX6_meet_3 (List.Mem.head _) rfl ?_
  refine ab_imul' hG 6 _ _ _ _ _ _ dX6_meet_6 ?_
  refine ab_iload_n' hG 7 _ _ _ _ 1 _ dX6_meet_7 rfl ?_
  refine ab_iadd' hG 8 _ _ _ _ _ _ dX6_meet_8 ?_
  refine ab_istore' hG 9 _ _ _ _ 4 _ dX6_meet_9 (Nat.le_of_ble_eq_true rfl) ?_
  refine ab_bipush' hG 11 _ _ _ _ 24 24 dX6_meet_11 (by decide) ?_
  refine ab_iload_n' hG 13 _ _ _ _ 2 _ dX6_meet_13 rfl ?_
  refine ab_imul' hG 14 _ _ _ _ _ _ dX6_meet_14 ?_
  refine ab_iload_n' hG 15 _ _ _ _ 1 _ dX6_meet_15 rfl ?_
  refine ab_iadd' hG 16 _ _ _ _ _ _ dX6_meet_16 ?_
  refine ab_istore' hG 17 _ _ _ _ 5 _ dX6_meet_17 (Nat.le_of_ble_eq_true rfl) ?_
  refine ab_bipush' hG 19 _ _ _ _ 24 24 dX6_meet_19 (by decide) ?_
  refine ab_iload_n' hG 21 _ _ _ _ 3 _ dX6_meet_21 rfl ?_
  refine ab_imul' hG 22 _ _ _ _ _ _ dX6_meet_22 ?_
  refine ab_iload_n' hG 23 _ _ _ _ 1 _ dX6_meet_23 rfl ?_
  refine ab_iadd' hG 24 _ _ _ _ _ _ dX6_meet_24 ?_
  refine ab_istore' hG 25 _ _ _ _ 6 _ dX6_meet_25 (Nat.le_of_ble_eq_true rfl) ?_
  refine ab_aload_n' hG 27 _ _ _ _ 0 _ dX6_meet_27 rfl ?_
  refine ab_iload' hG 28 _ _ _ _ 4 _ dX6_meet_28 rfl ?_
  refine ab_iload' hG 30 _ _ _ _ 5 _ dX6_meet_30 rfl ?_
  refine ab_iload' hG 32 _ _ _ _ 6 _ dX6_meet_32 rfl ?_
  exact ab_invv' hG 34 _ [_, _, _] _ _ 0 134 _ 3 1 0 _ (21, _) dX6_meet_34 rfl rfl rfl rfl (Nat.le_of_ble_eq_true rfl) (Nat.le_of_ble_eq_true rfl) h
theorem bl_X6_meet_37 {Q : ab_Po} {G : ab_Gt} (hG : ab_Cl M_X6_meet Q G) (x1 : Int32) (x2 : Int32) (x3 : Int32) (x4 : Int32) (x5 : Int32) (x6 : Int32) (xs0 : Int32) (S : ab_S) (h : (xs0 ≤ 0 → G 54 [some (.inr (21, 0)), some (.inl x1), some (.inl x2), some (.inl x3), some (.inl x4), some (.inl x5), some (.inl x6), some (.inl xs0), none, none] [(.inl (0 : Int32)), (.inl x1), (.inr (30, 0))] S 0) ∧ (¬ xs0 ≤ 0 → G 54 [some (.inr (21, 0)), some (.inl x1), some (.inl x2), some (.inl x3), some (.inl x4), some (.inl x5), some (.inl x6), some (.inl xs0), none, none] [(.inl (1 : Int32)), (.inl x1), (.inr (30, 0))] S 0)) : G 37 [some (.inr (21, 0)), some (.inl x1), some (.inl x2), some (.inl x3), some (.inl x4), some (.inl x5), some (.inl x6), none, none, none] [(.inl xs0)] S 0 := by
  refine ab_istore' hG 37 _ _ _ _ 7 _ dX6_meet_37 (Nat.le_of_ble_eq_true rfl) ?_
  refine ab_aload_n' hG 39 _ _ _ _ 0 _ dX6_meet_39 rfl ?_
  refine ab_gR hG 40 _ _ _ _ 45 21 14 0 (30, 0) dX6_meet_40 (List.Mem.tail _ (List.Mem.head _)) rfl ?_
  refine ab_iload_n' hG 43 _ _ _ _ 1 _ dX6_meet_43 rfl ?_
  refine ab_iload' hG 44 _ _ _ _ 7 _ dX6_meet_44 rfl ?_
  refine ab_if_le' hG 46 _ _ _ _ (7) 53 _ dX6_meet_46 (by decide) (fun hc => ?_) (fun hc => ?_)
  · have h := h.1 hc
    refine ab_iconst' hG 53 _ _ _ _ 0 0 dX6_meet_53 (by decide) ?_
    exact h
  · have h := h.2 hc
    refine ab_iconst' hG 49 _ _ _ _ 1 1 dX6_meet_49 (by decide) ?_
    refine ab_goto' hG 50 _ _ _ _ (4) 54 dX6_meet_50 (by decide) ?_
    exact h
theorem bl_X6_meet_54 {Q : ab_Po} {G : ab_Gt} (hG : ab_Cl M_X6_meet Q G) (x1 : Int32) (x2 : Int32) (x3 : Int32) (x4 : Int32) (x5 : Int32) (x6 : Int32) (x7 : Int32) (xs0 : Int32) (xs1 : Int32) (S : ab_S) (h : vp_in xs1 24 ∧ (∀ S1 : ab_S, S1 = ab_su S 30 0 xs1.toNatClampNeg (vp_nar .boolean xs0) → (x7 = (2 : Int32) → G 71 [some (.inr (21, 0)), some (.inl x1), some (.inl x2), some (.inl x3), some (.inl x4), some (.inl x5), some (.inl x6), some (.inl x7), none, none] [(.inl (1 : Int32)), (.inl x1), (.inr (31, 0))] S1 0) ∧ (¬ x7 = (2 : Int32) → G 71 [some (.inr (21, 0)), some (.inl x1), some (.inl x2), some (.inl x3), some (.inl x4), some (.inl x5), some (.inl x6), some (.inl x7), none, none] [(.inl (0 : Int32)), (.inl x1), (.inr (31, 0))] S1 0))) : G 54 [some (.inr (21, 0)), some (.inl x1), some (.inl x2), some (.inl x3), some (.inl x4), some (.inl x5), some (.inl x6), some (.inl x7), none, none] [(.inl xs0), (.inl xs1), (.inr (30, 0))] S 0 := by
  refine ab_bastore' hG 54 _ _ _ _ 30 0 24 _ _ dX6_meet_54 rfl h.1 ?_
  have h := h.2
  have h := h _ rfl
  refine ab_aload_n' hG 55 _ _ _ _ 0 _ dX6_meet_55 rfl ?_
  refine ab_gR hG 56 _ _ _ _ 48 21 15 0 (31, 0) dX6_meet_56 (List.Mem.tail _ (List.Mem.tail _ (List.Mem.head _))) rfl ?_
  refine ab_iload_n' hG 59 _ _ _ _ 1 _ dX6_meet_59 rfl ?_
  refine ab_iload' hG 60 _ _ _ _ 7 _ dX6_meet_60 rfl ?_
  refine ab_iconst' hG 62 _ _ _ _ 2 2 dX6_meet_62 (by decide) ?_
  refine ab_icmp_ne' hG 63 _ _ _ _ (7) 70 _ _ dX6_meet_63 (by decide) (fun hc => ?_) (fun hc => ?_)
  · have h := h.2 hc
    refine ab_iconst' hG 70 _ _ _ _ 0 0 dX6_meet_70 (by decide) ?_
    exact h
  · have h := h.1 hc
    refine ab_iconst' hG 66 _ _ _ _ 1 1 dX6_meet_66 (by decide) ?_
    refine ab_goto' hG 67 _ _ _ _ (4) 71 dX6_meet_67 (by decide) ?_
    exact h
theorem bl_X6_meet_71 {Q : ab_Po} {G : ab_Gt} (hG : ab_Cl M_X6_meet Q G) (x1 : Int32) (x2 : Int32) (x3 : Int32) (x4 : Int32) (x5 : Int32) (x6 : Int32) (x7 : Int32) (xs0 : Int32) (xs1 : Int32) (S : ab_S) (h : vp_in xs1 24 ∧ (∀ S1 : ab_S, S1 = ab_su S 31 0 xs1.toNatClampNeg xs0 → (x7 = 0 → Q (.inl none) S1) ∧ (¬ x7 = 0 → vp_in x4 336 ∧ ((S1 22 0 x4.toNatClampNeg) = 0 → G 97 [some (.inr (21, 0)), some (.inl x1), some (.inl x2), some (.inl x3), some (.inl x4), some (.inl x5), some (.inl x6), some (.inl x7), some (.inl x5), none] [] S1 0) ∧ (¬ (S1 22 0 x4.toNatClampNeg) = 0 → G 97 [some (.inr (21, 0)), some (.inl x1), some (.inl x2), some (.inl x3), some (.inl x4), some (.inl x5), some (.inl x6), some (.inl x7), some (.inl x4), none] [] S1 0)))) : G 71 [some (.inr (21, 0)), some (.inl x1), some (.inl x2), some (.inl x3), some (.inl x4), some (.inl x5), some (.inl x6), some (.inl x7), none, none] [(.inl xs0), (.inl xs1), (.inr (31, 0))] S 0 := by
  refine ab_iastore' hG 71 _ _ _ _ 31 0 24 _ _ dX6_meet_71 rfl h.1 ?_
  have h := h.2
  have h := h _ rfl
  refine ab_iload' hG 72 _ _ _ _ 7 _ dX6_meet_72 rfl ?_
  refine ab_if_ne' hG 74 _ _ _ _ (4) 78 _ dX6_meet_74 (by decide) (fun hc => ?_) (fun hc => ?_)
  · have h := h.2 hc
    refine ab_aload_n' hG 78 _ _ _ _ 0 _ dX6_meet_78 rfl ?_
    refine ab_gR hG 79 _ _ _ _ 7 21 1 0 (22, 0) dX6_meet_79 (List.Mem.tail _ (List.Mem.tail _ (List.Mem.tail _ (List.Mem.head _)))) rfl ?_
    refine ab_iload' hG 82 _ _ _ _ 4 _ dX6_meet_82 rfl ?_
    refine ab_baload' hG 84 _ _ _ _ 22 0 336 _ dX6_meet_84 rfl h.1 ?_
    have h := h.2
    refine ab_if_eq' hG 85 _ _ _ _ (8) 93 _ dX6_meet_85 (by decide) (fun hc => ?_) (fun hc => ?_)
    · have h := h.1 hc
      refine ab_iload' hG 93 _ _ _ _ 5 _ dX6_meet_93 rfl ?_
      refine ab_istore' hG 95 _ _ _ _ 8 _ dX6_meet_95 (Nat.le_of_ble_eq_true rfl) ?_
      exact h
    · have h := h.2 hc
      refine ab_iload' hG 88 _ _ _ _ 4 _ dX6_meet_88 rfl ?_
      refine ab_goto' hG 90 _ _ _ _ (5) 95 dX6_meet_90 (by decide) ?_
      refine ab_istore' hG 95 _ _ _ _ 8 _ dX6_meet_95 (Nat.le_of_ble_eq_true rfl) ?_
      exact h
  · have h := h.1 hc
    exact ab_return_' hG 77 _ _ _ dX6_meet_77 rfl (by decide) h
theorem bl_X6_meet_97 {Q : ab_Po} {G : ab_Gt} (hG : ab_Cl M_X6_meet Q G) (x1 : Int32) (x2 : Int32) (x3 : Int32) (x4 : Int32) (x5 : Int32) (x6 : Int32) (x7 : Int32) (x8 : Int32) (S : ab_S) (h : vp_in x4 336 ∧ ((S 22 0 x4.toNatClampNeg) = 0 → G 124 [some (.inr (21, 0)), some (.inl x1), some (.inl x2), some (.inl x3), some (.inl x4), some (.inl x5), some (.inl x6), some (.inl x7), some (.inl x8), some (.inl (0 : Int32))] [] S 0) ∧ (¬ (S 22 0 x4.toNatClampNeg) = 0 → vp_in x5 336 ∧ ((S 22 0 x5.toNatClampNeg) = 0 → G 124 [some (.inr (21, 0)), some (.inl x1), some (.inl x2), some (.inl x3), some (.inl x4), some (.inl x5), some (.inl x6), some (.inl x7), some (.inl x8), some (.inl (0 : Int32))] [] S 0) ∧ (¬ (S 22 0 x5.toNatClampNeg) = 0 → G 124 [some (.inr (21, 0)), some (.inl x1), some (.inl x2), some (.inl x3), some (.inl x4), some (.inl x5), some (.inl x6), some (.inl x7), some (.inl x8), some (.inl (1 : Int32))] [] S 0))) : G 97 [some (.inr (21, 0)), some (.inl x1), some (.inl x2), some (.inl x3), some (.inl x4), some (.inl x5), some (.inl x6), some (.inl x7), some (.inl x8), none] [] S 0 := by
  refine ab_aload_n' hG 97 _ _ _ _ 0 _ dX6_meet_97 rfl ?_
  refine ab_gR hG 98 _ _ _ _ 7 21 1 0 (22, 0) dX6_meet_98 (List.Mem.tail _ (List.Mem.tail _ (List.Mem.tail _ (List.Mem.head _)))) rfl ?_
  refine ab_iload' hG 101 _ _ _ _ 4 _ dX6_meet_101 rfl ?_
  refine ab_baload' hG 103 _ _ _ _ 22 0 336 _ dX6_meet_103 rfl h.1 ?_
  have h := h.2
  refine ab_if_eq' hG 104 _ _ _ _ (17) 121 _ dX6_meet_104 (by decide) (fun hc => ?_) (fun hc => ?_)
  · have h := h.1 hc
    refine ab_iconst' hG 121 _ _ _ _ 0 0 dX6_meet_121 (by decide) ?_
    refine ab_istore' hG 122 _ _ _ _ 9 _ dX6_meet_122 (Nat.le_of_ble_eq_true rfl) ?_
    exact h
  · have h := h.2 hc
    refine ab_aload_n' hG 107 _ _ _ _ 0 _ dX6_meet_107 rfl ?_
    refine ab_gR hG 108 _ _ _ _ 7 21 1 0 (22, 0) dX6_meet_108 (List.Mem.tail _ (List.Mem.tail _ (List.Mem.tail _ (List.Mem.head _)))) rfl ?_
    refine ab_iload' hG 111 _ _ _ _ 5 _ dX6_meet_111 rfl ?_
    refine ab_baload' hG 113 _ _ _ _ 22 0 336 _ dX6_meet_113 rfl h.1 ?_
    have h := h.2
    refine ab_if_eq' hG 114 _ _ _ _ (7) 121 _ dX6_meet_114 (by decide) (fun hc => ?_) (fun hc => ?_)
    · have h := h.1 hc
      refine ab_iconst' hG 121 _ _ _ _ 0 0 dX6_meet_121 (by decide) ?_
      refine ab_istore' hG 122 _ _ _ _ 9 _ dX6_meet_122 (Nat.le_of_ble_eq_true rfl) ?_
      exact h
    · have h := h.2 hc
      refine ab_iconst' hG 117 _ _ _ _ 1 1 dX6_meet_117 (by decide) ?_
      refine ab_goto' hG 118 _ _ _ _ (4) 122 dX6_meet_118 (by decide) ?_
      refine ab_istore' hG 122 _ _ _ _ 9 _ dX6_meet_122 (Nat.le_of_ble_eq_true rfl) ?_
      exact h
theorem bl_X6_meet_124 {Q : ab_Po} {G : ab_Gt} (hG : ab_Cl M_X6_meet Q G) (x1 : Int32) (x2 : Int32) (x3 : Int32) (x4 : Int32) (x5 : Int32) (x6 : Int32) (x7 : Int32) (x8 : Int32) (x9 : Int32) (S : ab_S) (h : (x9 = 0 → vp_in x8 336 ∧ vp_in x1 24 ∧ (∀ S1 : ab_S, S1 = ab_su S 32 0 x1.toNatClampNeg (S 23 0 x8.toNatClampNeg) → G 176 [some (.inr (21, 0)), some (.inl x1), some (.inl x2), some (.inl x3), some (.inl x4), some (.inl x5), some (.inl x6), some (.inl x7), some (.inl x8), some (.inl x9)] [] S1 0)) ∧ (¬ x9 = 0 → vp_in x4 336 ∧ vp_in x5 336 ∧ vp_in x6 336 ∧ vp_in x6 336 ∧ Sp_X6_choose [(.inl (S 23 0 x4.toNatClampNeg)), (.inl (S 23 0 x5.toNatClampNeg)), (.inl (S 22 0 x6.toNatClampNeg)), (.inl (S 23 0 x6.toNatClampNeg))] S (ab_back Q G 165 [some (.inr (21, 0)), some (.inl x1), some (.inl x2), some (.inl x3), some (.inl x4), some (.inl x5), some (.inl x6), some (.inl x7), some (.inl x8), some (.inl x9)] [(.inl x1), (.inr (32, 0))] 0))) : G 124 [some (.inr (21, 0)), some (.inl x1), some (.inl x2), some (.inl x3), some (.inl x4), some (.inl x5), some (.inl x6), some (.inl x7), some (.inl x8), some (.inl x9)] [] S 0 := by
  refine ab_aload_n' hG 124 _ _ _ _ 0 _ dX6_meet_124 rfl ?_
  refine ab_gR hG 125 _ _ _ _ 51 21 16 0 (32, 0) dX6_meet_125 (List.Mem.tail _ (List.Mem.tail _ (List.Mem.tail _ (List.Mem.tail _ (List.Mem.head _))))) rfl ?_
  refine ab_iload_n' hG 128 _ _ _ _ 1 _ dX6_meet_128 rfl ?_
  refine ab_iload' hG 129 _ _ _ _ 9 _ dX6_meet_129 rfl ?_
  refine ab_if_eq' hG 131 _ _ _ _ (37) 168 _ dX6_meet_131 (by decide) (fun hc => ?_) (fun hc => ?_)
  · have h := h.1 hc
    refine ab_aload_n' hG 168 _ _ _ _ 0 _ dX6_meet_168 rfl ?_
    refine ab_gR hG 169 _ _ _ _ 13 21 2 0 (23, 0) dX6_meet_169 (List.Mem.tail _ (List.Mem.tail _ (List.Mem.tail _ (List.Mem.tail _ (List.Mem.tail _ (List.Mem.head _)))))) rfl ?_
    refine ab_iload' hG 172 _ _ _ _ 8 _ dX6_meet_172 rfl ?_
    refine ab_iaload' hG 174 _ _ _ _ 23 0 336 _ dX6_meet_174 rfl h.1 ?_
    have h := h.2
    refine ab_iastore' hG 175 _ _ _ _ 32 0 24 _ _ dX6_meet_175 rfl h.1 ?_
    have h := h.2
    have h := h _ rfl
    exact h
  · have h := h.2 hc
    refine ab_aload_n' hG 134 _ _ _ _ 0 _ dX6_meet_134 rfl ?_
    refine ab_gR hG 135 _ _ _ _ 13 21 2 0 (23, 0) dX6_meet_135 (List.Mem.tail _ (List.Mem.tail _ (List.Mem.tail _ (List.Mem.tail _ (List.Mem.tail _ (List.Mem.head _)))))) rfl ?_
    refine ab_iload' hG 138 _ _ _ _ 4 _ dX6_meet_138 rfl ?_
    refine ab_iaload' hG 140 _ _ _ _ 23 0 336 _ dX6_meet_140 rfl h.1 ?_
    have h := h.2
    refine ab_aload_n' hG 141 _ _ _ _ 0 _ dX6_meet_141 rfl ?_
    refine ab_gR hG 142 _ _ _ _ 13 21 2 0 (23, 0) dX6_meet_142 (List.Mem.tail _ (List.Mem.tail _ (List.Mem.tail _ (List.Mem.tail _ (List.Mem.tail _ (List.Mem.head _)))))) rfl ?_
    refine ab_iload' hG 145 _ _ _ _ 5 _ dX6_meet_145 rfl ?_
    refine ab_iaload' hG 147 _ _ _ _ 23 0 336 _ dX6_meet_147 rfl h.1 ?_
    have h := h.2
    refine ab_aload_n' hG 148 _ _ _ _ 0 _ dX6_meet_148 rfl ?_
    refine ab_gR hG 149 _ _ _ _ 7 21 1 0 (22, 0) dX6_meet_149 (List.Mem.tail _ (List.Mem.tail _ (List.Mem.tail _ (List.Mem.head _)))) rfl ?_
    refine ab_iload' hG 152 _ _ _ _ 6 _ dX6_meet_152 rfl ?_
    refine ab_baload' hG 154 _ _ _ _ 22 0 336 _ dX6_meet_154 rfl h.1 ?_
    have h := h.2
    refine ab_aload_n' hG 155 _ _ _ _ 0 _ dX6_meet_155 rfl ?_
    refine ab_gR hG 156 _ _ _ _ 13 21 2 0 (23, 0) dX6_meet_156 (List.Mem.tail _ (List.Mem.tail _ (List.Mem.tail _ (List.Mem.tail _ (List.Mem.tail _ (List.Mem.head _)))))) rfl ?_
    refine ab_iload' hG 159 _ _ _ _ 6 _ dX6_meet_159 rfl ?_
    refine ab_iaload' hG 161 _ _ _ _ 23 0 336 _ dX6_meet_161 rfl h.1 ?_
    have h := h.2
    exact ab_invs' hG 162 _ [_, _, _, _] _ _ 0 137 _ 4 1 0 _ dX6_meet_162 rfl rfl (Nat.le_of_ble_eq_true rfl) (Nat.le_of_ble_eq_true rfl) h
theorem bl_X6_meet_165 {Q : ab_Po} {G : ab_Gt} (hG : ab_Cl M_X6_meet Q G) (x1 : Int32) (x2 : Int32) (x3 : Int32) (x4 : Int32) (x5 : Int32) (x6 : Int32) (x7 : Int32) (x8 : Int32) (x9 : Int32) (xs0 : Int32) (xs1 : Int32) (S : ab_S) (h : vp_in xs1 24 ∧ (∀ S1 : ab_S, S1 = ab_su S 32 0 xs1.toNatClampNeg xs0 → G 176 [some (.inr (21, 0)), some (.inl x1), some (.inl x2), some (.inl x3), some (.inl x4), some (.inl x5), some (.inl x6), some (.inl x7), some (.inl x8), some (.inl x9)] [] S1 0)) : G 165 [some (.inr (21, 0)), some (.inl x1), some (.inl x2), some (.inl x3), some (.inl x4), some (.inl x5), some (.inl x6), some (.inl x7), some (.inl x8), some (.inl x9)] [(.inl xs0), (.inl xs1), (.inr (32, 0))] S 0 := by
  refine ab_goto' hG 165 _ _ _ _ (10) 175 dX6_meet_165 (by decide) ?_
  refine ab_iastore' hG 175 _ _ _ _ 32 0 24 _ _ dX6_meet_175 rfl h.1 ?_
  have h := h.2
  have h := h _ rfl
  exact h
theorem bl_X6_meet_176 {Q : ab_Po} {G : ab_Gt} (hG : ab_Cl M_X6_meet Q G) (x1 : Int32) (x2 : Int32) (x3 : Int32) (x4 : Int32) (x5 : Int32) (x6 : Int32) (x7 : Int32) (x8 : Int32) (x9 : Int32) (S : ab_S) (h : (x9 = 0 → vp_in x8 336 ∧ vp_in x1 24 ∧ (∀ S1 : ab_S, S1 = ab_su S 33 0 x1.toNatClampNeg (S 24 0 x8.toNatClampNeg) → G 228 [some (.inr (21, 0)), some (.inl x1), some (.inl x2), some (.inl x3), some (.inl x4), some (.inl x5), some (.inl x6), some (.inl x7), some (.inl x8), some (.inl x9)] [] S1 0)) ∧ (¬ x9 = 0 → vp_in x4 336 ∧ vp_in x5 336 ∧ vp_in x6 336 ∧ vp_in x6 336 ∧ Sp_X6_choose [(.inl (S 24 0 x4.toNatClampNeg)), (.inl (S 24 0 x5.toNatClampNeg)), (.inl (S 22 0 x6.toNatClampNeg)), (.inl (S 24 0 x6.toNatClampNeg))] S (ab_back Q G 217 [some (.inr (21, 0)), some (.inl x1), some (.inl x2), some (.inl x3), some (.inl x4), some (.inl x5), some (.inl x6), some (.inl x7), some (.inl x8), some (.inl x9)] [(.inl x1), (.inr (33, 0))] 0))) : G 176 [some (.inr (21, 0)), some (.inl x1), some (.inl x2), some (.inl x3), some (.inl x4), some (.inl x5), some (.inl x6), some (.inl x7), some (.inl x8), some (.inl x9)] [] S 0 := by
  refine ab_aload_n' hG 176 _ _ _ _ 0 _ dX6_meet_176 rfl ?_
  refine ab_gR hG 177 _ _ _ _ 54 21 17 0 (33, 0) dX6_meet_177 (List.Mem.tail _ (List.Mem.tail _ (List.Mem.tail _ (List.Mem.tail _ (List.Mem.tail _ (List.Mem.tail _ (List.Mem.head _))))))) rfl ?_
  refine ab_iload_n' hG 180 _ _ _ _ 1 _ dX6_meet_180 rfl ?_
  refine ab_iload' hG 181 _ _ _ _ 9 _ dX6_meet_181 rfl ?_
  refine ab_if_eq' hG 183 _ _ _ _ (37) 220 _ dX6_meet_183 (by decide) (fun hc => ?_) (fun hc => ?_)
  · have h := h.1 hc
    refine ab_aload_n' hG 220 _ _ _ _ 0 _ dX6_meet_220 rfl ?_
    refine ab_gR hG 221 _ _ _ _ 17 21 3 0 (24, 0) dX6_meet_221 (List.Mem.tail _ (List.Mem.tail _ (List.Mem.tail _ (List.Mem.tail _ (List.Mem.tail _ (List.Mem.tail _ (List.Mem.tail _ (List.Mem.head _)))))))) rfl ?_
    refine ab_iload' hG 224 _ _ _ _ 8 _ dX6_meet_224 rfl ?_
    refine ab_iaload' hG 226 _ _ _ _ 24 0 336 _ dX6_meet_226 rfl h.1 ?_
    have h := h.2
    refine ab_iastore' hG 227 _ _ _ _ 33 0 24 _ _ dX6_meet_227 rfl h.1 ?_
    have h := h.2
    have h := h _ rfl
    exact h
  · have h := h.2 hc
    refine ab_aload_n' hG 186 _ _ _ _ 0 _ dX6_meet_186 rfl ?_
    refine ab_gR hG 187 _ _ _ _ 17 21 3 0 (24, 0) dX6_meet_187 (List.Mem.tail _ (List.Mem.tail _ (List.Mem.tail _ (List.Mem.tail _ (List.Mem.tail _ (List.Mem.tail _ (List.Mem.tail _ (List.Mem.head _)))))))) rfl ?_
    refine ab_iload' hG 190 _ _ _ _ 4 _ dX6_meet_190 rfl ?_
    refine ab_iaload' hG 192 _ _ _ _ 24 0 336 _ dX6_meet_192 rfl h.1 ?_
    have h := h.2
    refine ab_aload_n' hG 193 _ _ _ _ 0 _ dX6_meet_193 rfl ?_
    refine ab_gR hG 194 _ _ _ _ 17 21 3 0 (24, 0) dX6_meet_194 (List.Mem.tail _ (List.Mem.tail _ (List.Mem.tail _ (List.Mem.tail _ (List.Mem.tail _ (List.Mem.tail _ (List.Mem.tail _ (List.Mem.head _)))))))) rfl ?_
    refine ab_iload' hG 197 _ _ _ _ 5 _ dX6_meet_197 rfl ?_
    refine ab_iaload' hG 199 _ _ _ _ 24 0 336 _ dX6_meet_199 rfl h.1 ?_
    have h := h.2
    refine ab_aload_n' hG 200 _ _ _ _ 0 _ dX6_meet_200 rfl ?_
    refine ab_gR hG 201 _ _ _ _ 7 21 1 0 (22, 0) dX6_meet_201 (List.Mem.tail _ (List.Mem.tail _ (List.Mem.tail _ (List.Mem.head _)))) rfl ?_
    refine ab_iload' hG 204 _ _ _ _ 6 _ dX6_meet_204 rfl ?_
    refine ab_baload' hG 206 _ _ _ _ 22 0 336 _ dX6_meet_206 rfl h.1 ?_
    have h := h.2
    refine ab_aload_n' hG 207 _ _ _ _ 0 _ dX6_meet_207 rfl ?_
    refine ab_gR hG 208 _ _ _ _ 17 21 3 0 (24, 0) dX6_meet_208 (List.Mem.tail _ (List.Mem.tail _ (List.Mem.tail _ (List.Mem.tail _ (List.Mem.tail _ (List.Mem.tail _ (List.Mem.tail _ (List.Mem.head _)))))))) rfl ?_
    refine ab_iload' hG 211 _ _ _ _ 6 _ dX6_meet_211 rfl ?_
    refine ab_iaload' hG 213 _ _ _ _ 24 0 336 _ dX6_meet_213 rfl h.1 ?_
    have h := h.2
    exact ab_invs' hG 214 _ [_, _, _, _] _ _ 0 137 _ 4 1 0 _ dX6_meet_214 rfl rfl (Nat.le_of_ble_eq_true rfl) (Nat.le_of_ble_eq_true rfl) h
theorem bl_X6_meet_217 {Q : ab_Po} {G : ab_Gt} (hG : ab_Cl M_X6_meet Q G) (x1 : Int32) (x2 : Int32) (x3 : Int32) (x4 : Int32) (x5 : Int32) (x6 : Int32) (x7 : Int32) (x8 : Int32) (x9 : Int32) (xs0 : Int32) (xs1 : Int32) (S : ab_S) (h : vp_in xs1 24 ∧ (∀ S1 : ab_S, S1 = ab_su S 33 0 xs1.toNatClampNeg xs0 → G 228 [some (.inr (21, 0)), some (.inl x1), some (.inl x2), some (.inl x3), some (.inl x4), some (.inl x5), some (.inl x6), some (.inl x7), some (.inl x8), some (.inl x9)] [] S1 0)) : G 217 [some (.inr (21, 0)), some (.inl x1), some (.inl x2), some (.inl x3), some (.inl x4), some (.inl x5), some (.inl x6), some (.inl x7), some (.inl x8), some (.inl x9)] [(.inl xs0), (.inl xs1), (.inr (33, 0))] S 0 := by
  refine ab_goto' hG 217 _ _ _ _ (10) 227 dX6_meet_217 (by decide) ?_
  refine ab_iastore' hG 227 _ _ _ _ 33 0 24 _ _ dX6_meet_227 rfl h.1 ?_
  have h := h.2
  have h := h _ rfl
  exact h
theorem bl_X6_meet_228 {Q : ab_Po} {G : ab_Gt} (hG : ab_Cl M_X6_meet Q G) (x1 : Int32) (x2 : Int32) (x3 : Int32) (x4 : Int32) (x5 : Int32) (x6 : Int32) (x7 : Int32) (x8 : Int32) (x9 : Int32) (S : ab_S) (h : vp_in x1 24 ∧ ((S 31 0 x1.toNatClampNeg) = 0 → vp_in x1 24 ∧ ((S 32 0 x1.toNatClampNeg) = (-9 : Int32) → vp_in x1 24 ∧ (∀ S3 : ab_S, S3 = ab_su S 31 0 x1.toNatClampNeg (2 : Int32) → Q (.inl none) S3)) ∧ (¬ (S 32 0 x1.toNatClampNeg) = (-9 : Int32) → vp_in x1 24 ∧ ((S 33 0 x1.toNatClampNeg) = (-9 : Int32) → vp_in x1 24 ∧ (∀ S2 : ab_S, S2 = ab_su S 31 0 x1.toNatClampNeg (3 : Int32) → Q (.inl none) S2)) ∧ (¬ (S 33 0 x1.toNatClampNeg) = (-9 : Int32) → vp_in x1 24 ∧ (∀ S1 : ab_S, S1 = ab_su S 31 0 x1.toNatClampNeg (0 : Int32) → Q (.inl none) S1)))) ∧ (¬ (S 31 0 x1.toNatClampNeg) = 0 → Q (.inl none) S)) : G 228 [some (.inr (21, 0)), some (.inl x1), some (.inl x2), some (.inl x3), some (.inl x4), some (.inl x5), some (.inl x6), some (.inl x7), some (.inl x8), some (.inl x9)] [] S 0 := by
  refine ab_aload_n' hG 228 _ _ _ _ 0 _ dX6_meet_228 rfl ?_
  refine ab_gR hG 229 _ _ _ _ 48 21 15 0 (31, 0) dX6_meet_229 (List.Mem.tail _ (List.Mem.tail _ (List.Mem.head _))) rfl ?_
  refine ab_iload_n' hG 232 _ _ _ _ 1 _ dX6_meet_232 rfl ?_
  refine ab_iaload' hG 233 _ _ _ _ 31 0 24 _ dX6_meet_233 rfl h.1 ?_
  have h := h.2
  refine ab_if_ne' hG 234 _ _ _ _ (40) 274 _ dX6_meet_234 (by decide) (fun hc => ?_) (fun hc => ?_)
  · have h := h.2 hc
    exact ab_return_' hG 274 _ _ _ dX6_meet_274 rfl (by decide) h
  · have h := h.1 hc
    refine ab_aload_n' hG 237 _ _ _ _ 0 _ dX6_meet_237 rfl ?_
    refine ab_gR hG 238 _ _ _ _ 48 21 15 0 (31, 0) dX6_meet_238 (List.Mem.tail _ (List.Mem.tail _ (List.Mem.head _))) rfl ?_
    refine ab_iload_n' hG 241 _ _ _ _ 1 _ dX6_meet_241 rfl ?_
    refine ab_aload_n' hG 242 _ _ _ _ 0 _ dX6_meet_242 rfl ?_
    refine ab_gR hG 243 _ _ _ _ 51 21 16 0 (32, 0) dX6_meet_243 (List.Mem.tail _ (List.Mem.tail _ (List.Mem.tail _ (List.Mem.tail _ (List.Mem.head _))))) rfl ?_
    refine ab_iload_n' hG 246 _ _ _ _ 1 _ dX6_meet_246 rfl ?_
    refine ab_iaload' hG 247 _ _ _ _ 32 0 24 _ dX6_meet_247 rfl h.1 ?_
    have h := h.2
    refine ab_bipush' hG 248 _ _ _ _ (-9) (-9) dX6_meet_248 (by decide) ?_
    refine ab_icmp_ne' hG 250 _ _ _ _ (7) 257 _ _ dX6_meet_250 (by decide) (fun hc => ?_) (fun hc => ?_)
    · have h := h.2 hc
      refine ab_aload_n' hG 257 _ _ _ _ 0 _ dX6_meet_257 rfl ?_
      refine ab_gR hG 258 _ _ _ _ 54 21 17 0 (33, 0) dX6_meet_258 (List.Mem.tail _ (List.Mem.tail _ (List.Mem.tail _ (List.Mem.tail _ (List.Mem.tail _ (List.Mem.tail _ (List.Mem.head _))))))) rfl ?_
      refine ab_iload_n' hG 261 _ _ _ _ 1 _ dX6_meet_261 rfl ?_
      refine ab_iaload' hG 262 _ _ _ _ 33 0 24 _ dX6_meet_262 rfl h.1 ?_
      have h := h.2
      refine ab_bipush' hG 263 _ _ _ _ (-9) (-9) dX6_meet_263 (by decide) ?_
      refine ab_icmp_ne' hG 265 _ _ _ _ (7) 272 _ _ dX6_meet_265 (by decide) (fun hc => ?_) (fun hc => ?_)
      · have h := h.2 hc
        refine ab_iconst' hG 272 _ _ _ _ 0 0 dX6_meet_272 (by decide) ?_
        refine ab_iastore' hG 273 _ _ _ _ 31 0 24 _ _ dX6_meet_273 rfl h.1 ?_
        have h := h.2
        have h := h _ rfl
        exact ab_return_' hG 274 _ _ _ dX6_meet_274 rfl (by decide) h
      · have h := h.1 hc
        refine ab_iconst' hG 268 _ _ _ _ 3 3 dX6_meet_268 (by decide) ?_
        refine ab_goto' hG 269 _ _ _ _ (4) 273 dX6_meet_269 (by decide) ?_
        refine ab_iastore' hG 273 _ _ _ _ 31 0 24 _ _ dX6_meet_273 rfl h.1 ?_
        have h := h.2
        have h := h _ rfl
        exact ab_return_' hG 274 _ _ _ dX6_meet_274 rfl (by decide) h
    · have h := h.1 hc
      refine ab_iconst' hG 253 _ _ _ _ 2 2 dX6_meet_253 (by decide) ?_
      refine ab_goto' hG 254 _ _ _ _ (19) 273 dX6_meet_254 (by decide) ?_
      refine ab_iastore' hG 273 _ _ _ _ 31 0 24 _ _ dX6_meet_273 rfl h.1 ?_
      have h := h.2
      have h := h _ rfl
      exact ab_return_' hG 274 _ _ _ dX6_meet_274 rfl (by decide) h
theorem bl_X6_countKinds_0 {Q : ab_Po} {G : ab_Gt} (hG : ab_Cl M_X6_countKinds Q G)  (S : ab_S) (h : G 4 [some (.inr (21, 0)), some (.inl (0 : Int32)), some (.inl (0 : Int32))] [] S 0) : G 0 [some (.inr (21, 0)), none, none] [] S 0 := by
  refine ab_iconst' hG 0 _ _ _ _ 0 0 dX6_countKinds_0 (by decide) ?_
  refine ab_istore_n' hG 1 _ _ _ _ 1 _ dX6_countKinds_1 (Nat.le_of_ble_eq_true rfl) ?_
  refine ab_iconst' hG 2 _ _ _ _ 0 0 dX6_countKinds_2 (by decide) ?_
  refine ab_istore_n' hG 3 _ _ _ _ 2 _ dX6_countKinds_3 (Nat.le_of_ble_eq_true rfl) ?_
  exact h
theorem bl_X6_countKinds_4 {Q : ab_Po} {G : ab_Gt} (hG : ab_Cl M_X6_countKinds Q G) (x1 : Int32) (x2 : Int32) (S : ab_S) (h : ((24 : Int32) ≤ x2 → Q (.inl (some x1)) S) ∧ (¬ (24 : Int32) ≤ x2 → vp_in x2 24 ∧ ((S 31 0 x2.toNatClampNeg) ≤ 0 → G 4 [some (.inr (21, 0)), some (.inl x1), some (.inl (x2 + 1))] [] S 0) ∧ (¬ (S 31 0 x2.toNatClampNeg) ≤ 0 → G 4 [some (.inr (21, 0)), some (.inl (x1 + (1 : Int32))), some (.inl (x2 + 1))] [] S 0))) : G 4 [some (.inr (21, 0)), some (.inl x1), some (.inl x2)] [] S 0 := by
  refine ab_iload_n' hG 4 _ _ _ _ 2 _ dX6_countKinds_4 rfl ?_
  refine ab_bipush' hG 5 _ _ _ _ 24 24 dX6_countKinds_5 (by decide) ?_
  refine ab_icmp_ge' hG 7 _ _ _ _ (26) 33 _ _ dX6_countKinds_7 (by decide) (fun hc => ?_) (fun hc => ?_)
  · have h := h.1 hc
    refine ab_iload_n' hG 33 _ _ _ _ 1 _ dX6_countKinds_33 rfl ?_
    exact ab_ireturn' hG 34 _ _ _ _ dX6_countKinds_34 (Or.inl rfl) (by decide) h
  · have h := h.2 hc
    refine ab_aload_n' hG 10 _ _ _ _ 0 _ dX6_countKinds_10 rfl ?_
    refine ab_gR hG 11 _ _ _ _ 48 21 15 0 (31, 0) dX6_countKinds_11 (List.Mem.head _) rfl ?_
    refine ab_iload_n' hG 14 _ _ _ _ 2 _ dX6_countKinds_14 rfl ?_
    refine ab_iaload' hG 15 _ _ _ _ 31 0 24 _ dX6_countKinds_15 rfl h.1 ?_
    have h := h.2
    refine ab_if_le' hG 16 _ _ _ _ (9) 25 _ dX6_countKinds_16 (by decide) (fun hc => ?_) (fun hc => ?_)
    · have h := h.1 hc
      refine ab_iload_n' hG 25 _ _ _ _ 1 _ dX6_countKinds_25 rfl ?_
      refine ab_istore_n' hG 26 _ _ _ _ 1 _ dX6_countKinds_26 (Nat.le_of_ble_eq_true rfl) ?_
      refine ab_iinc' hG 27 _ _ _ _ 2 1 _ _ dX6_countKinds_27 rfl rfl ?_
      refine ab_goto' hG 30 _ _ _ _ (-26) 4 dX6_countKinds_30 (by decide) ?_
      exact h
    · have h := h.2 hc
      refine ab_iload_n' hG 19 _ _ _ _ 1 _ dX6_countKinds_19 rfl ?_
      refine ab_iconst' hG 20 _ _ _ _ 1 1 dX6_countKinds_20 (by decide) ?_
      refine ab_iadd' hG 21 _ _ _ _ _ _ dX6_countKinds_21 ?_
      refine ab_goto' hG 22 _ _ _ _ (4) 26 dX6_countKinds_22 (by decide) ?_
      refine ab_istore_n' hG 26 _ _ _ _ 1 _ dX6_countKinds_26 (Nat.le_of_ble_eq_true rfl) ?_
      refine ab_iinc' hG 27 _ _ _ _ 2 1 _ _ dX6_countKinds_27 rfl rfl ?_
      refine ab_goto' hG 30 _ _ _ _ (-26) 4 dX6_countKinds_30 (by decide) ?_
      exact h
theorem bl_X6_comes_0 {Q : ab_Po} {G : ab_Gt} (hG : ab_Cl M_X6_comes Q G) (x1 : Int32) (S : ab_S) (h : G 4 [some (.inr (21, 0)), some (.inl x1), some (.inl x1), some (.inl (0 : Int32))] [] S 0) : G 0 [some (.inr (21, 0)), some (.inl x1), none, none] [] S 0 := by
  refine ab_iload_n' hG 0 _ _ _ _ 1 _ dX6_comes_0 rfl ?_
  refine ab_istore_n' hG 1 _ _ _ _ 2 _ dX6_comes_1 (Nat.le_of_ble_eq_true rfl) ?_
  refine ab_iconst' hG 2 _ _ _ _ 0 0 dX6_comes_2 (by decide) ?_
  refine ab_istore_n' hG 3 _ _ _ _ 3 _ dX6_comes_3 (Nat.le_of_ble_eq_true rfl) ?_
  exact h
theorem bl_X6_comes_4 {Q : ab_Po} {G : ab_Gt} (hG : ab_Cl M_X6_comes Q G) (x1 : Int32) (x2 : Int32) (x3 : Int32) (S : ab_S) (h : ((24 : Int32) ≤ x3 → (x2 = 0 → Q (.inl (some (1 : Int32))) S) ∧ (¬ x2 = 0 → Q (.inl (some (0 : Int32))) S)) ∧ (¬ (24 : Int32) ≤ x3 → (x2 ≤ 0 → (x2 = 0 → Q (.inl (some (1 : Int32))) S) ∧ (¬ x2 = 0 → Q (.inl (some (0 : Int32))) S)) ∧ (¬ x2 ≤ 0 → vp_in x2 24 ∧ G 4 [some (.inr (21, 0)), some (.inl x1), some (.inl (S 33 0 x2.toNatClampNeg)), some (.inl (x3 + 1))] [] S 0))) : G 4 [some (.inr (21, 0)), some (.inl x1), some (.inl x2), some (.inl x3)] [] S 0 := by
  refine ab_iload_n' hG 4 _ _ _ _ 3 _ dX6_comes_4 rfl ?_
  refine ab_bipush' hG 5 _ _ _ _ 24 24 dX6_comes_5 (by decide) ?_
  refine ab_icmp_ge' hG 7 _ _ _ _ (20) 27 _ _ dX6_comes_7 (by decide) (fun hc => ?_) (fun hc => ?_)
  · have h := h.1 hc
    refine ab_iload_n' hG 27 _ _ _ _ 2 _ dX6_comes_27 rfl ?_
    refine ab_if_ne' hG 28 _ _ _ _ (7) 35 _ dX6_comes_28 (by decide) (fun hc => ?_) (fun hc => ?_)
    · have h := h.2 hc
      refine ab_iconst' hG 35 _ _ _ _ 0 0 dX6_comes_35 (by decide) ?_
      exact ab_ireturn' hG 36 _ _ _ _ dX6_comes_36 (Or.inr ⟨rfl, Or.inl rfl⟩) (by decide) h
    · have h := h.1 hc
      refine ab_iconst' hG 31 _ _ _ _ 1 1 dX6_comes_31 (by decide) ?_
      refine ab_goto' hG 32 _ _ _ _ (4) 36 dX6_comes_32 (by decide) ?_
      exact ab_ireturn' hG 36 _ _ _ _ dX6_comes_36 (Or.inr ⟨rfl, Or.inr rfl⟩) (by decide) h
  · have h := h.2 hc
    refine ab_iload_n' hG 10 _ _ _ _ 2 _ dX6_comes_10 rfl ?_
    refine ab_if_le' hG 11 _ _ _ _ (16) 27 _ dX6_comes_11 (by decide) (fun hc => ?_) (fun hc => ?_)
    · have h := h.1 hc
      refine ab_iload_n' hG 27 _ _ _ _ 2 _ dX6_comes_27 rfl ?_
      refine ab_if_ne' hG 28 _ _ _ _ (7) 35 _ dX6_comes_28 (by decide) (fun hc => ?_) (fun hc => ?_)
      · have h := h.2 hc
        refine ab_iconst' hG 35 _ _ _ _ 0 0 dX6_comes_35 (by decide) ?_
        exact ab_ireturn' hG 36 _ _ _ _ dX6_comes_36 (Or.inr ⟨rfl, Or.inl rfl⟩) (by decide) h
      · have h := h.1 hc
        refine ab_iconst' hG 31 _ _ _ _ 1 1 dX6_comes_31 (by decide) ?_
        refine ab_goto' hG 32 _ _ _ _ (4) 36 dX6_comes_32 (by decide) ?_
        exact ab_ireturn' hG 36 _ _ _ _ dX6_comes_36 (Or.inr ⟨rfl, Or.inr rfl⟩) (by decide) h
    · have h := h.2 hc
      refine ab_aload_n' hG 14 _ _ _ _ 0 _ dX6_comes_14 rfl ?_
      refine ab_gR hG 15 _ _ _ _ 54 21 17 0 (33, 0) dX6_comes_15 (List.Mem.head _) rfl ?_
      refine ab_iload_n' hG 18 _ _ _ _ 2 _ dX6_comes_18 rfl ?_
      refine ab_iaload' hG 19 _ _ _ _ 33 0 24 _ dX6_comes_19 rfl h.1 ?_
      have h := h.2
      refine ab_istore_n' hG 20 _ _ _ _ 2 _ dX6_comes_20 (Nat.le_of_ble_eq_true rfl) ?_
      refine ab_iinc' hG 21 _ _ _ _ 3 1 _ _ dX6_comes_21 rfl rfl ?_
      refine ab_goto' hG 24 _ _ _ _ (-20) 4 dX6_comes_24 (by decide) ?_
      exact h
theorem bl_X6_findOrphans_0 {Q : ab_Po} {G : ab_Gt} (hG : ab_Cl M_X6_findOrphans Q G)  (S : ab_S) (h : G 2 [some (.inr (21, 0)), some (.inl (1 : Int32))] [] S 0) : G 0 [some (.inr (21, 0)), none] [] S 0 := by
  refine ab_iconst' hG 0 _ _ _ _ 1 1 dX6_findOrphans_0 (by decide) ?_
  refine ab_istore_n' hG 1 _ _ _ _ 1 _ dX6_findOrphans_1 (Nat.le_of_ble_eq_true rfl) ?_
  exact h
theorem bl_X6_findOrphans_2 {Q : ab_Po} {G : ab_Gt} (hG : ab_Cl M_X6_findOrphans Q G) (x1 : Int32) (S : ab_S) (h : ((24 : Int32) ≤ x1 → Q (.inl none) S) ∧ (¬ (24 : Int32) ≤ x1 → vp_in x1 24 ∧ ((S 30 0 x1.toNatClampNeg) = 0 → vp_in x1 24 ∧ vp_in x1 24 ∧ (∀ S1 : ab_S, S1 = ab_su S 31 0 x1.toNatClampNeg (S 31 0 x1.toNatClampNeg) → G 2 [some (.inr (21, 0)), some (.inl (x1 + 1))] [] S1 0)) ∧ (¬ (S 30 0 x1.toNatClampNeg) = 0 → vp_in x1 24 ∧ vp_in (S 33 0 x1.toNatClampNeg) 24 ∧ ((S 30 0 (S 33 0 x1.toNatClampNeg).toNatClampNeg) = 0 → vp_in x1 24 ∧ (∀ S3 : ab_S, S3 = ab_su S 31 0 x1.toNatClampNeg (4 : Int32) → G 2 [some (.inr (21, 0)), some (.inl (x1 + 1))] [] S3 0)) ∧ (¬ (S 30 0 (S 33 0 x1.toNatClampNeg).toNatClampNeg) = 0 → vp_in x1 24 ∧ vp_in x1 24 ∧ (∀ S2 : ab_S, S2 = ab_su S 31 0 x1.toNatClampNeg (S 31 0 x1.toNatClampNeg) → G 2 [some (.inr (21, 0)), some (.inl (x1 + 1))] [] S2 0))))) : G 2 [some (.inr (21, 0)), some (.inl x1)] [] S 0 := by
  refine ab_iload_n' hG 2 _ _ _ _ 1 _ dX6_findOrphans_2 rfl ?_
  refine ab_bipush' hG 3 _ _ _ _ 24 24 dX6_findOrphans_3 (by decide) ?_
  refine ab_icmp_ge' hG 5 _ _ _ _ (48) 53 _ _ dX6_findOrphans_5 (by decide) (fun hc => ?_) (fun hc => ?_)
  · have h := h.1 hc
    exact ab_return_' hG 53 _ _ _ dX6_findOrphans_53 rfl (by decide) h
  · have h := h.2 hc
    refine ab_aload_n' hG 8 _ _ _ _ 0 _ dX6_findOrphans_8 rfl ?_
    refine ab_gR hG 9 _ _ _ _ 48 21 15 0 (31, 0) dX6_findOrphans_9 (List.Mem.head _) rfl ?_
    refine ab_iload_n' hG 12 _ _ _ _ 1 _ dX6_findOrphans_12 rfl ?_
    refine ab_aload_n' hG 13 _ _ _ _ 0 _ dX6_findOrphans_13 rfl ?_
    refine ab_gR hG 14 _ _ _ _ 45 21 14 0 (30, 0) dX6_findOrphans_14 (List.Mem.tail _ (List.Mem.head _)) rfl ?_
    refine ab_iload_n' hG 17 _ _ _ _ 1 _ dX6_findOrphans_17 rfl ?_
    refine ab_baload' hG 18 _ _ _ _ 30 0 24 _ dX6_findOrphans_18 rfl h.1 ?_
    have h := h.2
    refine ab_if_eq' hG 19 _ _ _ _ (21) 40 _ dX6_findOrphans_19 (by decide) (fun hc => ?_) (fun hc => ?_)
    · have h := h.1 hc
      refine ab_aload_n' hG 40 _ _ _ _ 0 _ dX6_findOrphans_40 rfl ?_
      refine ab_gR hG 41 _ _ _ _ 48 21 15 0 (31, 0) dX6_findOrphans_41 (List.Mem.head _) rfl ?_
      refine ab_iload_n' hG 44 _ _ _ _ 1 _ dX6_findOrphans_44 rfl ?_
      refine ab_iaload' hG 45 _ _ _ _ 31 0 24 _ dX6_findOrphans_45 rfl h.1 ?_
      have h := h.2
      refine ab_iastore' hG 46 _ _ _ _ 31 0 24 _ _ dX6_findOrphans_46 rfl h.1 ?_
      have h := h.2
      have h := h _ rfl
      refine ab_iinc' hG 47 _ _ _ _ 1 1 _ _ dX6_findOrphans_47 rfl rfl ?_
      refine ab_goto' hG 50 _ _ _ _ (-48) 2 dX6_findOrphans_50 (by decide) ?_
      exact h
    · have h := h.2 hc
      refine ab_aload_n' hG 22 _ _ _ _ 0 _ dX6_findOrphans_22 rfl ?_
      refine ab_gR hG 23 _ _ _ _ 45 21 14 0 (30, 0) dX6_findOrphans_23 (List.Mem.tail _ (List.Mem.head _)) rfl ?_
      refine ab_aload_n' hG 26 _ _ _ _ 0 _ dX6_findOrphans_26 rfl ?_
      refine ab_gR hG 27 _ _ _ _ 54 21 17 0 (33, 0) dX6_findOrphans_27 (List.Mem.tail _ (List.Mem.tail _ (List.Mem.head _))) rfl ?_
      refine ab_iload_n' hG 30 _ _ _ _ 1 _ dX6_findOrphans_30 rfl ?_
      refine ab_iaload' hG 31 _ _ _ _ 33 0 24 _ dX6_findOrphans_31 rfl h.1 ?_
      have h := h.2
      refine ab_baload' hG 32 _ _ _ _ 30 0 24 _ dX6_findOrphans_32 rfl h.1 ?_
      have h := h.2
      refine ab_if_ne' hG 33 _ _ _ _ (7) 40 _ dX6_findOrphans_33 (by decide) (fun hc => ?_) (fun hc => ?_)
      · have h := h.2 hc
        refine ab_aload_n' hG 40 _ _ _ _ 0 _ dX6_findOrphans_40 rfl ?_
        refine ab_gR hG 41 _ _ _ _ 48 21 15 0 (31, 0) dX6_findOrphans_41 (List.Mem.head _) rfl ?_
        refine ab_iload_n' hG 44 _ _ _ _ 1 _ dX6_findOrphans_44 rfl ?_
        refine ab_iaload' hG 45 _ _ _ _ 31 0 24 _ dX6_findOrphans_45 rfl h.1 ?_
        have h := h.2
        refine ab_iastore' hG 46 _ _ _ _ 31 0 24 _ _ dX6_findOrphans_46 rfl h.1 ?_
        have h := h.2
        have h := h _ rfl
        refine ab_iinc' hG 47 _ _ _ _ 1 1 _ _ dX6_findOrphans_47 rfl rfl ?_
        refine ab_goto' hG 50 _ _ _ _ (-48) 2 dX6_findOrphans_50 (by decide) ?_
        exact h
      · have h := h.1 hc
        refine ab_iconst' hG 36 _ _ _ _ 4 4 dX6_findOrphans_36 (by decide) ?_
        refine ab_goto' hG 37 _ _ _ _ (9) 46 dX6_findOrphans_37 (by decide) ?_
        refine ab_iastore' hG 46 _ _ _ _ 31 0 24 _ _ dX6_findOrphans_46 rfl h.1 ?_
        have h := h.2
        have h := h _ rfl
        refine ab_iinc' hG 47 _ _ _ _ 1 1 _ _ dX6_findOrphans_47 rfl rfl ?_
        refine ab_goto' hG 50 _ _ _ _ (-48) 2 dX6_findOrphans_50 (by decide) ?_
        exact h
theorem bl_X6_findRings_0 {Q : ab_Po} {G : ab_Gt} (hG : ab_Cl M_X6_findRings Q G)  (S : ab_S) (h : G 2 [some (.inr (21, 0)), some (.inl (1 : Int32))] [] S 0) : G 0 [some (.inr (21, 0)), none] [] S 0 := by
  refine ab_iconst' hG 0 _ _ _ _ 1 1 dX6_findRings_0 (by decide) ?_
  refine ab_istore_n' hG 1 _ _ _ _ 1 _ dX6_findRings_1 (Nat.le_of_ble_eq_true rfl) ?_
  exact h
theorem bl_X6_findRings_2 {Q : ab_Po} {G : ab_Gt} (hG : ab_Cl M_X6_findRings Q G) (x1 : Int32) (S : ab_S) (h : ((24 : Int32) ≤ x1 → Q (.inl none) S) ∧ (¬ (24 : Int32) ≤ x1 → vp_in x1 24 ∧ ((S 30 0 x1.toNatClampNeg) = 0 → vp_in x1 24 ∧ vp_in x1 24 ∧ (∀ S1 : ab_S, S1 = ab_su S 31 0 x1.toNatClampNeg (S 31 0 x1.toNatClampNeg) → G 2 [some (.inr (21, 0)), some (.inl (x1 + 1))] [] S1 0)) ∧ (¬ (S 30 0 x1.toNatClampNeg) = 0 → Sp_X6_comes [(.inr (21, 0)), (.inl x1)] S (ab_back Q G 27 [some (.inr (21, 0)), some (.inl x1)] [(.inl x1), (.inr (31, 0))] 0)))) : G 2 [some (.inr (21, 0)), some (.inl x1)] [] S 0 := by
  refine ab_iload_n' hG 2 _ _ _ _ 1 _ dX6_findRings_2 rfl ?_
  refine ab_bipush' hG 3 _ _ _ _ 24 24 dX6_findRings_3 (by decide) ?_
  refine ab_icmp_ge' hG 5 _ _ _ _ (42) 47 _ _ dX6_findRings_5 (by decide) (fun hc => ?_) (fun hc => ?_)
  · have h := h.1 hc
    exact ab_return_' hG 47 _ _ _ dX6_findRings_47 rfl (by decide) h
  · have h := h.2 hc
    refine ab_aload_n' hG 8 _ _ _ _ 0 _ dX6_findRings_8 rfl ?_
    refine ab_gR hG 9 _ _ _ _ 48 21 15 0 (31, 0) dX6_findRings_9 (List.Mem.head _) rfl ?_
    refine ab_iload_n' hG 12 _ _ _ _ 1 _ dX6_findRings_12 rfl ?_
    refine ab_aload_n' hG 13 _ _ _ _ 0 _ dX6_findRings_13 rfl ?_
    refine ab_gR hG 14 _ _ _ _ 45 21 14 0 (30, 0) dX6_findRings_14 (List.Mem.tail _ (List.Mem.head _)) rfl ?_
    refine ab_iload_n' hG 17 _ _ _ _ 1 _ dX6_findRings_17 rfl ?_
    refine ab_baload' hG 18 _ _ _ _ 30 0 24 _ dX6_findRings_18 rfl h.1 ?_
    have h := h.2
    refine ab_if_eq' hG 19 _ _ _ _ (15) 34 _ dX6_findRings_19 (by decide) (fun hc => ?_) (fun hc => ?_)
    · have h := h.1 hc
      refine ab_aload_n' hG 34 _ _ _ _ 0 _ dX6_findRings_34 rfl ?_
      refine ab_gR hG 35 _ _ _ _ 48 21 15 0 (31, 0) dX6_findRings_35 (List.Mem.head _) rfl ?_
      refine ab_iload_n' hG 38 _ _ _ _ 1 _ dX6_findRings_38 rfl ?_
      refine ab_iaload' hG 39 _ _ _ _ 31 0 24 _ dX6_findRings_39 rfl h.1 ?_
      have h := h.2
      refine ab_iastore' hG 40 _ _ _ _ 31 0 24 _ _ dX6_findRings_40 rfl h.1 ?_
      have h := h.2
      have h := h _ rfl
      refine ab_iinc' hG 41 _ _ _ _ 1 1 _ _ dX6_findRings_41 rfl rfl ?_
      refine ab_goto' hG 44 _ _ _ _ (-42) 2 dX6_findRings_44 (by decide) ?_
      exact h
    · have h := h.2 hc
      refine ab_aload_n' hG 22 _ _ _ _ 0 _ dX6_findRings_22 rfl ?_
      refine ab_iload_n' hG 23 _ _ _ _ 1 _ dX6_findRings_23 rfl ?_
      exact ab_invv' hG 24 _ [_] _ _ 0 141 _ 1 1 0 _ (21, _) dX6_findRings_24 rfl rfl rfl rfl (Nat.le_of_ble_eq_true rfl) (Nat.le_of_ble_eq_true rfl) h
theorem bl_X6_findRings_27 {Q : ab_Po} {G : ab_Gt} (hG : ab_Cl M_X6_findRings Q G) (x1 : Int32) (xs0 : Int32) (xs1 : Int32) (S : ab_S) (h : (xs0 = 0 → vp_in xs1 24 ∧ (∀ S2 : ab_S, S2 = ab_su S 31 0 xs1.toNatClampNeg (5 : Int32) → G 2 [some (.inr (21, 0)), some (.inl (x1 + 1))] [] S2 0)) ∧ (¬ xs0 = 0 → vp_in x1 24 ∧ vp_in xs1 24 ∧ (∀ S1 : ab_S, S1 = ab_su S 31 0 xs1.toNatClampNeg (S 31 0 x1.toNatClampNeg) → G 2 [some (.inr (21, 0)), some (.inl (x1 + 1))] [] S1 0))) : G 27 [some (.inr (21, 0)), some (.inl x1)] [(.inl xs0), (.inl xs1), (.inr (31, 0))] S 0 := by
  refine ab_if_ne' hG 27 _ _ _ _ (7) 34 _ dX6_findRings_27 (by decide) (fun hc => ?_) (fun hc => ?_)
  · have h := h.2 hc
    refine ab_aload_n' hG 34 _ _ _ _ 0 _ dX6_findRings_34 rfl ?_
    refine ab_gR hG 35 _ _ _ _ 48 21 15 0 (31, 0) dX6_findRings_35 (List.Mem.head _) rfl ?_
    refine ab_iload_n' hG 38 _ _ _ _ 1 _ dX6_findRings_38 rfl ?_
    refine ab_iaload' hG 39 _ _ _ _ 31 0 24 _ dX6_findRings_39 rfl h.1 ?_
    have h := h.2
    refine ab_iastore' hG 40 _ _ _ _ 31 0 24 _ _ dX6_findRings_40 rfl h.1 ?_
    have h := h.2
    have h := h _ rfl
    refine ab_iinc' hG 41 _ _ _ _ 1 1 _ _ dX6_findRings_41 rfl rfl ?_
    refine ab_goto' hG 44 _ _ _ _ (-42) 2 dX6_findRings_44 (by decide) ?_
    exact h
  · have h := h.1 hc
    refine ab_iconst' hG 30 _ _ _ _ 5 5 dX6_findRings_30 (by decide) ?_
    refine ab_goto' hG 31 _ _ _ _ (9) 40 dX6_findRings_31 (by decide) ?_
    refine ab_iastore' hG 40 _ _ _ _ 31 0 24 _ _ dX6_findRings_40 rfl h.1 ?_
    have h := h.2
    have h := h _ rfl
    refine ab_iinc' hG 41 _ _ _ _ 1 1 _ _ dX6_findRings_41 rfl rfl ?_
    refine ab_goto' hG 44 _ _ _ _ (-42) 2 dX6_findRings_44 (by decide) ?_
    exact h
theorem bl_X6_putChildren_0 {Q : ab_Po} {G : ab_Gt} (hG : ab_Cl M_X6_putChildren Q G) (x1 : Int32) (x2 : Int32) (S : ab_S) (h : Sp_X6_children [(.inr (21, 0)), (.inl (S 21 0 10)), (.inl x1)] S (ab_back Q G 9 [some (.inr (21, 0)), some (.inl x1), some (.inl x2), none, none, none, none, none] [] 0)) : G 0 [some (.inr (21, 0)), some (.inl x1), some (.inl x2), none, none, none, none, none] [] S 0 := by
  refine ab_aload_n' hG 0 _ _ _ _ 0 _ dX6_putChildren_0 rfl ?_
  refine ab_aload_n' hG 1 _ _ _ _ 0 _ dX6_putChildren_1 rfl ?_
  refine ab_gI hG 2 _ _ _ _ 124 21 10 0 dX6_putChildren_2 (List.Mem.head _) rfl ?_
  refine ab_iload_n' hG 5 _ _ _ _ 1 _ dX6_putChildren_5 rfl ?_
  exact ab_invv' hG 6 _ [_, _] _ _ 0 99 _ 2 1 0 _ (21, _) dX6_putChildren_6 rfl rfl rfl rfl (Nat.le_of_ble_eq_true rfl) (Nat.le_of_ble_eq_true rfl) h
theorem bl_X6_putChildren_9 {Q : ab_Po} {G : ab_Gt} (hG : ab_Cl M_X6_putChildren Q G) (x1 : Int32) (x2 : Int32) (xs0 : Int32) (S : ab_S) (h : G 16 [some (.inr (21, 0)), some (.inl x1), some (.inl x2), some (.inl xs0), some (.inl (0 : Int32)), some (.inl (0 : Int32)), none, none] [] S 0) : G 9 [some (.inr (21, 0)), some (.inl x1), some (.inl x2), none, none, none, none, none] [(.inl xs0)] S 0 := by
  refine ab_istore_n' hG 9 _ _ _ _ 3 _ dX6_putChildren_9 (Nat.le_of_ble_eq_true rfl) ?_
  refine ab_iconst' hG 10 _ _ _ _ 0 0 dX6_putChildren_10 (by decide) ?_
  refine ab_istore' hG 11 _ _ _ _ 4 _ dX6_putChildren_11 (Nat.le_of_ble_eq_true rfl) ?_
  refine ab_iconst' hG 13 _ _ _ _ 0 0 dX6_putChildren_13 (by decide) ?_
  refine ab_istore' hG 14 _ _ _ _ 5 _ dX6_putChildren_14 (Nat.le_of_ble_eq_true rfl) ?_
  exact h
theorem bl_X6_putChildren_16 {Q : ab_Po} {G : ab_Gt} (hG : ab_Cl M_X6_putChildren Q G) (x1 : Int32) (x2 : Int32) (x3 : Int32) (x4 : Int32) (x5 : Int32) (S : ab_S) (h : (x3 ≤ x5 → Sp_X6_children [(.inr (21, 0)), (.inl x2), (.inl x1)] S (ab_back Q G 85 [some (.inr (21, 0)), some (.inl x1), some (.inl x2), some (.inl x3), some (.inl x4), some (.inl (-1 : Int32)), none, none] [] 0)) ∧ (¬ x3 ≤ x5 → Sp_X6_childAt [(.inr (21, 0)), (.inl (S 21 0 10)), (.inl x1), (.inl x5)] S (ab_back Q G 33 [some (.inr (21, 0)), some (.inl x1), some (.inl x2), some (.inl x3), some (.inl x4), some (.inl x5), none, none] [] 0))) : G 16 [some (.inr (21, 0)), some (.inl x1), some (.inl x2), some (.inl x3), some (.inl x4), some (.inl x5), none, none] [] S 0 := by
  refine ab_iload' hG 16 _ _ _ _ 5 _ dX6_putChildren_16 rfl ?_
  refine ab_iload_n' hG 18 _ _ _ _ 3 _ dX6_putChildren_18 rfl ?_
  refine ab_icmp_ge' hG 19 _ _ _ _ (57) 76 _ _ dX6_putChildren_19 (by decide) (fun hc => ?_) (fun hc => ?_)
  · have h := h.1 hc
    refine ab_iconst' hG 76 _ _ _ _ (-1) (-1) dX6_putChildren_76 (by decide) ?_
    refine ab_istore' hG 77 _ _ _ _ 5 _ dX6_putChildren_77 (Nat.le_of_ble_eq_true rfl) ?_
    refine ab_aload_n' hG 79 _ _ _ _ 0 _ dX6_putChildren_79 rfl ?_
    refine ab_iload_n' hG 80 _ _ _ _ 2 _ dX6_putChildren_80 rfl ?_
    refine ab_iload_n' hG 81 _ _ _ _ 1 _ dX6_putChildren_81 rfl ?_
    exact ab_invv' hG 82 _ [_, _] _ _ 0 99 _ 2 1 0 _ (21, _) dX6_putChildren_82 rfl rfl rfl rfl (Nat.le_of_ble_eq_true rfl) (Nat.le_of_ble_eq_true rfl) h
  · have h := h.2 hc
    refine ab_aload_n' hG 22 _ _ _ _ 0 _ dX6_putChildren_22 rfl ?_
    refine ab_aload_n' hG 23 _ _ _ _ 0 _ dX6_putChildren_23 rfl ?_
    refine ab_gI hG 24 _ _ _ _ 124 21 10 0 dX6_putChildren_24 (List.Mem.head _) rfl ?_
    refine ab_iload_n' hG 27 _ _ _ _ 1 _ dX6_putChildren_27 rfl ?_
    refine ab_iload' hG 28 _ _ _ _ 5 _ dX6_putChildren_28 rfl ?_
    exact ab_invv' hG 30 _ [_, _, _] _ _ 0 103 _ 3 1 0 _ (21, _) dX6_putChildren_30 rfl rfl rfl rfl (Nat.le_of_ble_eq_true rfl) (Nat.le_of_ble_eq_true rfl) h
theorem bl_X6_putChildren_33 {Q : ab_Po} {G : ab_Gt} (hG : ab_Cl M_X6_putChildren Q G) (x1 : Int32) (x2 : Int32) (x3 : Int32) (x4 : Int32) (x5 : Int32) (xs0 : Int32) (S : ab_S) (h : vp_in xs0 24 ∧ ((S 30 0 xs0.toNatClampNeg) = 0 → G 16 [some (.inr (21, 0)), some (.inl x1), some (.inl x2), some (.inl x3), some (.inl x4), some (.inl (x5 + 1)), none, none] [] S 0) ∧ (¬ (S 30 0 xs0.toNatClampNeg) = 0 → vp_in xs0 24 ∧ ((S 33 0 xs0.toNatClampNeg) = x1 → Sp_X6_hang [(.inr (21, 0)), (.inl (13 : Int32)), (.inl xs0), (.inl x1), (.inl x4)] S (ab_back Q G 67 [some (.inr (21, 0)), some (.inl x1), some (.inl x2), some (.inl x3), some (.inl x4), some (.inl x5), some (.inl xs0), none] [] 0)) ∧ (¬ (S 33 0 xs0.toNatClampNeg) = x1 → G 16 [some (.inr (21, 0)), some (.inl x1), some (.inl x2), some (.inl x3), some (.inl x4), some (.inl (x5 + 1)), none, none] [] S 0))) : G 33 [some (.inr (21, 0)), some (.inl x1), some (.inl x2), some (.inl x3), some (.inl x4), some (.inl x5), none, none] [(.inl xs0)] S 0 := by
  refine ab_istore' hG 33 _ _ _ _ 6 _ dX6_putChildren_33 (Nat.le_of_ble_eq_true rfl) ?_
  refine ab_aload_n' hG 35 _ _ _ _ 0 _ dX6_putChildren_35 rfl ?_
  refine ab_gR hG 36 _ _ _ _ 45 21 14 0 (30, 0) dX6_putChildren_36 (List.Mem.tail _ (List.Mem.head _)) rfl ?_
  refine ab_iload' hG 39 _ _ _ _ 6 _ dX6_putChildren_39 rfl ?_
  refine ab_baload' hG 41 _ _ _ _ 30 0 24 _ dX6_putChildren_41 rfl h.1 ?_
  have h := h.2
  refine ab_if_eq' hG 42 _ _ _ _ (28) 70 _ dX6_putChildren_42 (by decide) (fun hc => ?_) (fun hc => ?_)
  · have h := h.1 hc
    refine ab_iinc' hG 70 _ _ _ _ 5 1 _ _ dX6_putChildren_70 rfl rfl ?_
    refine ab_goto' hG 73 _ _ _ _ (-57) 16 dX6_putChildren_73 (by decide) ?_
    refine ab_forget' hG _ _ _ _ _ 6 ?_
    exact h
  · have h := h.2 hc
    refine ab_aload_n' hG 45 _ _ _ _ 0 _ dX6_putChildren_45 rfl ?_
    refine ab_gR hG 46 _ _ _ _ 54 21 17 0 (33, 0) dX6_putChildren_46 (List.Mem.tail _ (List.Mem.tail _ (List.Mem.head _))) rfl ?_
    refine ab_iload' hG 49 _ _ _ _ 6 _ dX6_putChildren_49 rfl ?_
    refine ab_iaload' hG 51 _ _ _ _ 33 0 24 _ dX6_putChildren_51 rfl h.1 ?_
    have h := h.2
    refine ab_iload_n' hG 52 _ _ _ _ 1 _ dX6_putChildren_52 rfl ?_
    refine ab_icmp_ne' hG 53 _ _ _ _ (17) 70 _ _ dX6_putChildren_53 (by decide) (fun hc => ?_) (fun hc => ?_)
    · have h := h.2 hc
      refine ab_iinc' hG 70 _ _ _ _ 5 1 _ _ dX6_putChildren_70 rfl rfl ?_
      refine ab_goto' hG 73 _ _ _ _ (-57) 16 dX6_putChildren_73 (by decide) ?_
      refine ab_forget' hG _ _ _ _ _ 6 ?_
      exact h
    · have h := h.1 hc
      refine ab_aload_n' hG 56 _ _ _ _ 0 _ dX6_putChildren_56 rfl ?_
      refine ab_bipush' hG 57 _ _ _ _ 13 13 dX6_putChildren_57 (by decide) ?_
      refine ab_iload' hG 59 _ _ _ _ 6 _ dX6_putChildren_59 rfl ?_
      refine ab_iload_n' hG 61 _ _ _ _ 1 _ dX6_putChildren_61 rfl ?_
      refine ab_iload' hG 62 _ _ _ _ 4 _ dX6_putChildren_62 rfl ?_
      exact ab_invv' hG 64 _ [_, _, _, _] _ _ 0 111 _ 4 0 0 _ (21, _) dX6_putChildren_64 rfl rfl rfl rfl (Nat.le_of_ble_eq_true rfl) (Nat.le_of_ble_eq_true rfl) h
theorem bl_X6_putChildren_67 {Q : ab_Po} {G : ab_Gt} (hG : ab_Cl M_X6_putChildren Q G) (x1 : Int32) (x2 : Int32) (x3 : Int32) (x4 : Int32) (x5 : Int32) (x6 : Int32) (S : ab_S) (h : G 16 [some (.inr (21, 0)), some (.inl x1), some (.inl x2), some (.inl x3), some (.inl (x4 + 1)), some (.inl (x5 + 1)), none, none] [] S 0) : G 67 [some (.inr (21, 0)), some (.inl x1), some (.inl x2), some (.inl x3), some (.inl x4), some (.inl x5), some (.inl x6), none] [] S 0 := by
  refine ab_iinc' hG 67 _ _ _ _ 4 1 _ _ dX6_putChildren_67 rfl rfl ?_
  refine ab_iinc' hG 70 _ _ _ _ 5 1 _ _ dX6_putChildren_70 rfl rfl ?_
  refine ab_goto' hG 73 _ _ _ _ (-57) 16 dX6_putChildren_73 (by decide) ?_
  refine ab_forget' hG _ _ _ _ _ 6 ?_
  exact h
theorem bl_X6_putChildren_85 {Q : ab_Po} {G : ab_Gt} (hG : ab_Cl M_X6_putChildren Q G) (x1 : Int32) (x2 : Int32) (x3 : Int32) (x4 : Int32) (x5 : Int32) (xs0 : Int32) (S : ab_S) (h : G 89 [some (.inr (21, 0)), some (.inl x1), some (.inl x2), some (.inl xs0), some (.inl x4), some (.inl x5), some (.inl (0 : Int32)), none] [] S 0) : G 85 [some (.inr (21, 0)), some (.inl x1), some (.inl x2), some (.inl x3), some (.inl x4), some (.inl x5), none, none] [(.inl xs0)] S 0 := by
  refine ab_istore_n' hG 85 _ _ _ _ 3 _ dX6_putChildren_85 (Nat.le_of_ble_eq_true rfl) ?_
  refine ab_iconst' hG 86 _ _ _ _ 0 0 dX6_putChildren_86 (by decide) ?_
  refine ab_istore' hG 87 _ _ _ _ 6 _ dX6_putChildren_87 (Nat.le_of_ble_eq_true rfl) ?_
  exact h
theorem bl_X6_putChildren_89 {Q : ab_Po} {G : ab_Gt} (hG : ab_Cl M_X6_putChildren Q G) (x1 : Int32) (x2 : Int32) (x3 : Int32) (x4 : Int32) (x5 : Int32) (x6 : Int32) (S : ab_S) (h : (x3 ≤ x6 → Q (.inl none) S) ∧ (¬ x3 ≤ x6 → Sp_X6_childAt [(.inr (21, 0)), (.inl x2), (.inl x1), (.inl x6)] S (ab_back Q G 103 [some (.inr (21, 0)), some (.inl x1), some (.inl x2), some (.inl x3), some (.inl x4), some (.inl x5), some (.inl x6), none] [] 0))) : G 89 [some (.inr (21, 0)), some (.inl x1), some (.inl x2), some (.inl x3), some (.inl x4), some (.inl x5), some (.inl x6), none] [] S 0 := by
  refine ab_iload' hG 89 _ _ _ _ 6 _ dX6_putChildren_89 rfl ?_
  refine ab_iload_n' hG 91 _ _ _ _ 3 _ dX6_putChildren_91 rfl ?_
  refine ab_icmp_ge' hG 92 _ _ _ _ (89) 181 _ _ dX6_putChildren_92 (by decide) (fun hc => ?_) (fun hc => ?_)
  · have h := h.1 hc
    exact ab_return_' hG 181 _ _ _ dX6_putChildren_181 rfl (by decide) h
  · have h := h.2 hc
    refine ab_aload_n' hG 95 _ _ _ _ 0 _ dX6_putChildren_95 rfl ?_
    refine ab_iload_n' hG 96 _ _ _ _ 2 _ dX6_putChildren_96 rfl ?_
    refine ab_iload_n' hG 97 _ _ _ _ 1 _ dX6_putChildren_97 rfl ?_
    refine ab_iload' hG 98 _ _ _ _ 6 _ dX6_putChildren_98 rfl ?_
    exact ab_invv' hG 100 _ [_, _, _] _ _ 0 103 _ 3 1 0 _ (21, _) dX6_putChildren_100 rfl rfl rfl rfl (Nat.le_of_ble_eq_true rfl) (Nat.le_of_ble_eq_true rfl) h
theorem bl_X6_putChildren_103 {Q : ab_Po} {G : ab_Gt} (hG : ab_Cl M_X6_putChildren Q G) (x1 : Int32) (x2 : Int32) (x3 : Int32) (x4 : Int32) (x5 : Int32) (x6 : Int32) (xs0 : Int32) (S : ab_S) (h : vp_in xs0 24 ∧ ((S 30 0 xs0.toNatClampNeg) = 0 → G 89 [some (.inr (21, 0)), some (.inl x1), some (.inl x2), some (.inl x3), some (.inl x4), some (.inl x5), some (.inl (x6 + 1)), none] [] S 0) ∧ (¬ (S 30 0 xs0.toNatClampNeg) = 0 → vp_in xs0 24 ∧ ((S 33 0 xs0.toNatClampNeg) = x1 → vp_in ((312 : Int32) + xs0) 336 ∧ ((S 22 0 ((312 : Int32) + xs0).toNatClampNeg) = 0 → (0 ≤ x5 → vp_in ((312 : Int32) + x5) 336 ∧ Sp_X6_hang [(.inr (21, 0)), (.inl (13 : Int32)), (.inl xs0), (.inl x1), (.inl ((S 25 0 ((312 : Int32) + x5).toNatClampNeg) + (1 : Int32)))] S (ab_back Q G 171 [some (.inr (21, 0)), some (.inl x1), some (.inl x2), some (.inl x3), some (.inl x4), some (.inl x5), some (.inl x6), some (.inl xs0)] [] 0)) ∧ (¬ 0 ≤ x5 → Sp_X6_hang [(.inr (21, 0)), (.inl (13 : Int32)), (.inl xs0), (.inl x1), (.inl (0 : Int32))] S (ab_back Q G 171 [some (.inr (21, 0)), some (.inl x1), some (.inl x2), some (.inl x3), some (.inl x4), some (.inl x5), some (.inl x6), some (.inl xs0)] [] 0))) ∧ (¬ (S 22 0 ((312 : Int32) + xs0).toNatClampNeg) = 0 → G 89 [some (.inr (21, 0)), some (.inl x1), some (.inl x2), some (.inl x3), some (.inl x4), some (.inl xs0), some (.inl (x6 + 1)), none] [] S 0)) ∧ (¬ (S 33 0 xs0.toNatClampNeg) = x1 → G 89 [some (.inr (21, 0)), some (.inl x1), some (.inl x2), some (.inl x3), some (.inl x4), some (.inl x5), some (.inl (x6 + 1)), none] [] S 0))) : G 103 [some (.inr (21, 0)), some (.inl x1), some (.inl x2), some (.inl x3), some (.inl x4), some (.inl x5), some (.inl x6), none] [(.inl xs0)] S 0 := by
  refine ab_istore' hG 103 _ _ _ _ 7 _ dX6_putChildren_103 (Nat.le_of_ble_eq_true rfl) ?_
  refine ab_aload_n' hG 105 _ _ _ _ 0 _ dX6_putChildren_105 rfl ?_
  refine ab_gR hG 106 _ _ _ _ 45 21 14 0 (30, 0) dX6_putChildren_106 (List.Mem.tail _ (List.Mem.head _)) rfl ?_
  refine ab_iload' hG 109 _ _ _ _ 7 _ dX6_putChildren_109 rfl ?_
  refine ab_baload' hG 111 _ _ _ _ 30 0 24 _ dX6_putChildren_111 rfl h.1 ?_
  have h := h.2
  refine ab_if_eq' hG 112 _ _ _ _ (63) 175 _ dX6_putChildren_112 (by decide) (fun hc => ?_) (fun hc => ?_)
  · have h := h.1 hc
    refine ab_iinc' hG 175 _ _ _ _ 6 1 _ _ dX6_putChildren_175 rfl rfl ?_
    refine ab_goto' hG 178 _ _ _ _ (-89) 89 dX6_putChildren_178 (by decide) ?_
    refine ab_forget' hG _ _ _ _ _ 7 ?_
    exact h
  · have h := h.2 hc
    refine ab_aload_n' hG 115 _ _ _ _ 0 _ dX6_putChildren_115 rfl ?_
    refine ab_gR hG 116 _ _ _ _ 54 21 17 0 (33, 0) dX6_putChildren_116 (List.Mem.tail _ (List.Mem.tail _ (List.Mem.head _))) rfl ?_
    refine ab_iload' hG 119 _ _ _ _ 7 _ dX6_putChildren_119 rfl ?_
    refine ab_iaload' hG 121 _ _ _ _ 33 0 24 _ dX6_putChildren_121 rfl h.1 ?_
    have h := h.2
    refine ab_iload_n' hG 122 _ _ _ _ 1 _ dX6_putChildren_122 rfl ?_
    refine ab_icmp_ne' hG 123 _ _ _ _ (52) 175 _ _ dX6_putChildren_123 (by decide) (fun hc => ?_) (fun hc => ?_)
    · have h := h.2 hc
      refine ab_iinc' hG 175 _ _ _ _ 6 1 _ _ dX6_putChildren_175 rfl rfl ?_
      refine ab_goto' hG 178 _ _ _ _ (-89) 89 dX6_putChildren_178 (by decide) ?_
      refine ab_forget' hG _ _ _ _ _ 7 ?_
      exact h
    · have h := h.1 hc
      refine ab_aload_n' hG 126 _ _ _ _ 0 _ dX6_putChildren_126 rfl ?_
      refine ab_gR hG 127 _ _ _ _ 7 21 1 0 (22, 0) dX6_putChildren_127 (List.Mem.tail _ (List.Mem.tail _ (List.Mem.tail _ (List.Mem.head _)))) rfl ?_
      refine ab_sipush' hG 130 _ _ _ _ 312 312 dX6_putChildren_130 (by decide) ?_
      refine ab_iload' hG 133 _ _ _ _ 7 _ dX6_putChildren_133 rfl ?_
      refine ab_iadd' hG 135 _ _ _ _ _ _ dX6_putChildren_135 ?_
      refine ab_baload' hG 136 _ _ _ _ 22 0 336 _ dX6_putChildren_136 rfl h.1 ?_
      have h := h.2
      refine ab_if_ne' hG 137 _ _ _ _ (34) 171 _ dX6_putChildren_137 (by decide) (fun hc => ?_) (fun hc => ?_)
      · have h := h.2 hc
        refine ab_iload' hG 171 _ _ _ _ 7 _ dX6_putChildren_171 rfl ?_
        refine ab_istore' hG 173 _ _ _ _ 5 _ dX6_putChildren_173 (Nat.le_of_ble_eq_true rfl) ?_
        refine ab_iinc' hG 175 _ _ _ _ 6 1 _ _ dX6_putChildren_175 rfl rfl ?_
        refine ab_goto' hG 178 _ _ _ _ (-89) 89 dX6_putChildren_178 (by decide) ?_
        refine ab_forget' hG _ _ _ _ _ 7 ?_
        exact h
      · have h := h.1 hc
        refine ab_aload_n' hG 140 _ _ _ _ 0 _ dX6_putChildren_140 rfl ?_
        refine ab_bipush' hG 141 _ _ _ _ 13 13 dX6_putChildren_141 (by decide) ?_
        refine ab_iload' hG 143 _ _ _ _ 7 _ dX6_putChildren_143 rfl ?_
        refine ab_iload_n' hG 145 _ _ _ _ 1 _ dX6_putChildren_145 rfl ?_
        refine ab_iload' hG 146 _ _ _ _ 5 _ dX6_putChildren_146 rfl ?_
        refine ab_if_ge' hG 148 _ _ _ _ (7) 155 _ dX6_putChildren_148 (by decide) (fun hc => ?_) (fun hc => ?_)
        · have h := h.1 hc
          refine ab_aload_n' hG 155 _ _ _ _ 0 _ dX6_putChildren_155 rfl ?_
          refine ab_gR hG 156 _ _ _ _ 20 21 4 0 (25, 0) dX6_putChildren_156 (List.Mem.tail _ (List.Mem.tail _ (List.Mem.tail _ (List.Mem.tail _ (List.Mem.head _))))) rfl ?_
          refine ab_sipush' hG 159 _ _ _ _ 312 312 dX6_putChildren_159 (by decide) ?_
          refine ab_iload' hG 162 _ _ _ _ 5 _ dX6_putChildren_162 rfl ?_
          refine ab_iadd' hG 164 _ _ _ _ _ _ dX6_putChildren_164 ?_
          refine ab_iaload' hG 165 _ _ _ _ 25 0 336 _ dX6_putChildren_165 rfl h.1 ?_
          have h := h.2
          refine ab_iconst' hG 166 _ _ _ _ 1 1 dX6_putChildren_166 (by decide) ?_
          refine ab_iadd' hG 167 _ _ _ _ _ _ dX6_putChildren_167 ?_
          exact ab_invv' hG 168 _ [_, _, _, _] _ _ 0 111 _ 4 0 0 _ (21, _) dX6_putChildren_168 rfl rfl rfl rfl (Nat.le_of_ble_eq_true rfl) (Nat.le_of_ble_eq_true rfl) h
        · have h := h.2 hc
          refine ab_iconst' hG 151 _ _ _ _ 0 0 dX6_putChildren_151 (by decide) ?_
          refine ab_goto' hG 152 _ _ _ _ (16) 168 dX6_putChildren_152 (by decide) ?_
          exact ab_invv' hG 168 _ [_, _, _, _] _ _ 0 111 _ 4 0 0 _ (21, _) dX6_putChildren_168 rfl rfl rfl rfl (Nat.le_of_ble_eq_true rfl) (Nat.le_of_ble_eq_true rfl) h
theorem bl_X6_putChildren_171 {Q : ab_Po} {G : ab_Gt} (hG : ab_Cl M_X6_putChildren Q G) (x1 : Int32) (x2 : Int32) (x3 : Int32) (x4 : Int32) (x5 : Int32) (x6 : Int32) (x7 : Int32) (S : ab_S) (h : G 89 [some (.inr (21, 0)), some (.inl x1), some (.inl x2), some (.inl x3), some (.inl x4), some (.inl x7), some (.inl (x6 + 1)), none] [] S 0) : G 171 [some (.inr (21, 0)), some (.inl x1), some (.inl x2), some (.inl x3), some (.inl x4), some (.inl x5), some (.inl x6), some (.inl x7)] [] S 0 := by
  refine ab_iload' hG 171 _ _ _ _ 7 _ dX6_putChildren_171 rfl ?_
  refine ab_istore' hG 173 _ _ _ _ 5 _ dX6_putChildren_173 (Nat.le_of_ble_eq_true rfl) ?_
  refine ab_iinc' hG 175 _ _ _ _ 6 1 _ _ dX6_putChildren_175 rfl rfl ?_
  refine ab_goto' hG 178 _ _ _ _ (-89) 89 dX6_putChildren_178 (by decide) ?_
  refine ab_forget' hG _ _ _ _ _ 7 ?_
  exact h
theorem bl_X6_build_0 {Q : ab_Po} {G : ab_Gt} (hG : ab_Cl M_X6_build Q G) (x1 : Int32) (S : ab_S) (h : G 2 [some (.inr (21, 0)), some (.inl x1), some (.inl (0 : Int32))] [] S 0) : G 0 [some (.inr (21, 0)), some (.inl x1), none] [] S 0 := by
  refine ab_iconst' hG 0 _ _ _ _ 0 0 dX6_build_0 (by decide) ?_
  refine ab_istore_n' hG 1 _ _ _ _ 2 _ dX6_build_1 (Nat.le_of_ble_eq_true rfl) ?_
  exact h
theorem bl_X6_build_2 {Q : ab_Po} {G : ab_Gt} (hG : ab_Cl M_X6_build Q G) (x1 : Int32) (x2 : Int32) (S : ab_S) (h : ((24 : Int32) ≤ x2 → G 86 [some (.inr (21, 0)), some (.inl x1), some (.inl (0 : Int32))] [] S 0) ∧ (¬ (24 : Int32) ≤ x2 → (x2 = 0 → vp_in ((312 : Int32) + x2) 336 ∧ (∀ S8 : ab_S, S8 = ab_su S 22 0 ((312 : Int32) + x2).toNatClampNeg (vp_nar .boolean (1 : Int32)) → vp_in x2 24 ∧ ((S8 30 0 x2.toNatClampNeg) = 0 → vp_in ((312 : Int32) + x2) 336 ∧ (∀ S9 : ab_S, S9 = ab_su S8 23 0 ((312 : Int32) + x2).toNatClampNeg (0 : Int32) → vp_in ((312 : Int32) + x2) 336 ∧ (∀ S10 : ab_S, S10 = ab_su S9 24 0 ((312 : Int32) + x2).toNatClampNeg (-1 : Int32) → vp_in ((312 : Int32) + x2) 336 ∧ (∀ S11 : ab_S, S11 = ab_su S10 25 0 ((312 : Int32) + x2).toNatClampNeg (0 : Int32) → G 2 [some (.inr (21, 0)), some (.inl x1), some (.inl (x2 + 1))] [] S11 0)))) ∧ (¬ (S8 30 0 x2.toNatClampNeg) = 0 → vp_in x2 24 ∧ vp_in ((312 : Int32) + x2) 336 ∧ (∀ S12 : ab_S, S12 = ab_su S8 23 0 ((312 : Int32) + x2).toNatClampNeg (S8 32 0 x2.toNatClampNeg) → vp_in ((312 : Int32) + x2) 336 ∧ (∀ S13 : ab_S, S13 = ab_su S12 24 0 ((312 : Int32) + x2).toNatClampNeg (-1 : Int32) → vp_in ((312 : Int32) + x2) 336 ∧ (∀ S14 : ab_S, S14 = ab_su S13 25 0 ((312 : Int32) + x2).toNatClampNeg (0 : Int32) → G 2 [some (.inr (21, 0)), some (.inl x1), some (.inl (x2 + 1))] [] S14 0)))))) ∧ (¬ x2 = 0 → vp_in ((312 : Int32) + x2) 336 ∧ (∀ S1 : ab_S, S1 = ab_su S 22 0 ((312 : Int32) + x2).toNatClampNeg (vp_nar .boolean (0 : Int32)) → vp_in x2 24 ∧ ((S1 30 0 x2.toNatClampNeg) = 0 → vp_in ((312 : Int32) + x2) 336 ∧ (∀ S2 : ab_S, S2 = ab_su S1 23 0 ((312 : Int32) + x2).toNatClampNeg (0 : Int32) → vp_in ((312 : Int32) + x2) 336 ∧ (∀ S3 : ab_S, S3 = ab_su S2 24 0 ((312 : Int32) + x2).toNatClampNeg (-1 : Int32) → vp_in ((312 : Int32) + x2) 336 ∧ (∀ S4 : ab_S, S4 = ab_su S3 25 0 ((312 : Int32) + x2).toNatClampNeg (0 : Int32) → G 2 [some (.inr (21, 0)), some (.inl x1), some (.inl (x2 + 1))] [] S4 0)))) ∧ (¬ (S1 30 0 x2.toNatClampNeg) = 0 → vp_in x2 24 ∧ vp_in ((312 : Int32) + x2) 336 ∧ (∀ S5 : ab_S, S5 = ab_su S1 23 0 ((312 : Int32) + x2).toNatClampNeg (S1 32 0 x2.toNatClampNeg) → vp_in ((312 : Int32) + x2) 336 ∧ (∀ S6 : ab_S, S6 = ab_su S5 24 0 ((312 : Int32) + x2).toNatClampNeg (-1 : Int32) → vp_in ((312 : Int32) + x2) 336 ∧ (∀ S7 : ab_S, S7 = ab_su S6 25 0 ((312 : Int32) + x2).toNatClampNeg (0 : Int32) → G 2 [some (.inr (21, 0)), some (.inl x1), some (.inl (x2 + 1))] [] S7 0)))))))) : G 2 [some (.inr (21, 0)), some (.inl x1), some (.inl x2)] [] S 0 := by
  refine ab_iload_n' hG 2 _ _ _ _ 2 _ dX6_build_2 rfl ?_
  refine ab_bipush' hG 3 _ _ _ _ 24 24 dX6_build_3 (by decide) ?_
  refine ab_icmp_ge' hG 5 _ _ _ _ (79) 84 _ _ dX6_build_5 (by decide) (fun hc => ?_) (fun hc => ?_)
  · have h := h.1 hc
    refine ab_iconst' hG 84 _ _ _ _ 0 0 dX6_build_84 (by decide) ?_
    refine ab_istore_n' hG 85 _ _ _ _ 2 _ dX6_build_85 (Nat.le_of_ble_eq_true rfl) ?_
    exact h
  · have h := h.2 hc
    refine ab_aload_n' hG 8 _ _ _ _ 0 _ dX6_build_8 rfl ?_
    refine ab_gR hG 9 _ _ _ _ 7 21 1 0 (22, 0) dX6_build_9 (List.Mem.head _) rfl ?_
    refine ab_sipush' hG 12 _ _ _ _ 312 312 dX6_build_12 (by decide) ?_
    refine ab_iload_n' hG 15 _ _ _ _ 2 _ dX6_build_15 rfl ?_
    refine ab_iadd' hG 16 _ _ _ _ _ _ dX6_build_16 ?_
    refine ab_iload_n' hG 17 _ _ _ _ 2 _ dX6_build_17 rfl ?_
    refine ab_if_ne' hG 18 _ _ _ _ (7) 25 _ dX6_build_18 (by decide) (fun hc => ?_) (fun hc => ?_)
    · have h := h.2 hc
      refine ab_iconst' hG 25 _ _ _ _ 0 0 dX6_build_25 (by decide) ?_
      refine ab_bastore' hG 26 _ _ _ _ 22 0 336 _ _ dX6_build_26 rfl h.1 ?_
      have h := h.2
      have h := h _ rfl
      refine ab_aload_n' hG 27 _ _ _ _ 0 _ dX6_build_27 rfl ?_
      refine ab_gR hG 28 _ _ _ _ 13 21 2 0 (23, 0) dX6_build_28 (List.Mem.tail _ (List.Mem.head _)) rfl ?_
      refine ab_sipush' hG 31 _ _ _ _ 312 312 dX6_build_31 (by decide) ?_
      refine ab_iload_n' hG 34 _ _ _ _ 2 _ dX6_build_34 rfl ?_
      refine ab_iadd' hG 35 _ _ _ _ _ _ dX6_build_35 ?_
      refine ab_aload_n' hG 36 _ _ _ _ 0 _ dX6_build_36 rfl ?_
      refine ab_gR hG 37 _ _ _ _ 45 21 14 0 (30, 0) dX6_build_37 (List.Mem.tail _ (List.Mem.tail _ (List.Mem.head _))) rfl ?_
      refine ab_iload_n' hG 40 _ _ _ _ 2 _ dX6_build_40 rfl ?_
      refine ab_baload' hG 41 _ _ _ _ 30 0 24 _ dX6_build_41 rfl h.1 ?_
      have h := h.2
      refine ab_if_eq' hG 42 _ _ _ _ (12) 54 _ dX6_build_42 (by decide) (fun hc => ?_) (fun hc => ?_)
      · have h := h.1 hc
        refine ab_iconst' hG 54 _ _ _ _ 0 0 dX6_build_54 (by decide) ?_
        refine ab_iastore' hG 55 _ _ _ _ 23 0 336 _ _ dX6_build_55 rfl h.1 ?_
        have h := h.2
        have h := h _ rfl
        refine ab_aload_n' hG 56 _ _ _ _ 0 _ dX6_build_56 rfl ?_
        refine ab_gR hG 57 _ _ _ _ 17 21 3 0 (24, 0) dX6_build_57 (List.Mem.tail _ (List.Mem.tail _ (List.Mem.tail _ (List.Mem.tail _ (List.Mem.head _))))) rfl ?_
        refine ab_sipush' hG 60 _ _ _ _ 312 312 dX6_build_60 (by decide) ?_
        refine ab_iload_n' hG 63 _ _ _ _ 2 _ dX6_build_63 rfl ?_
        refine ab_iadd' hG 64 _ _ _ _ _ _ dX6_build_64 ?_
        refine ab_iconst' hG 65 _ _ _ _ (-1) (-1) dX6_build_65 (by decide) ?_
        refine ab_iastore' hG 66 _ _ _ _ 24 0 336 _ _ dX6_build_66 rfl h.1 ?_
        have h := h.2
        have h := h _ rfl
        refine ab_aload_n' hG 67 _ _ _ _ 0 _ dX6_build_67 rfl ?_
        refine ab_gR hG 68 _ _ _ _ 20 21 4 0 (25, 0) dX6_build_68 (List.Mem.tail _ (List.Mem.tail _ (List.Mem.tail _ (List.Mem.tail _ (List.Mem.tail _ (List.Mem.head _)))))) rfl ?_
        refine ab_sipush' hG 71 _ _ _ _ 312 312 dX6_build_71 (by decide) ?_
        refine ab_iload_n' hG 74 _ _ _ _ 2 _ dX6_build_74 rfl ?_
        refine ab_iadd' hG 75 _ _ _ _ _ _ dX6_build_75 ?_
        refine ab_iconst' hG 76 _ _ _ _ 0 0 dX6_build_76 (by decide) ?_
        refine ab_iastore' hG 77 _ _ _ _ 25 0 336 _ _ dX6_build_77 rfl h.1 ?_
        have h := h.2
        have h := h _ rfl
        refine ab_iinc' hG 78 _ _ _ _ 2 1 _ _ dX6_build_78 rfl rfl ?_
        refine ab_goto' hG 81 _ _ _ _ (-79) 2 dX6_build_81 (by decide) ?_
        exact h
      · have h := h.2 hc
        refine ab_aload_n' hG 45 _ _ _ _ 0 _ dX6_build_45 rfl ?_
        refine ab_gR hG 46 _ _ _ _ 51 21 16 0 (32, 0) dX6_build_46 (List.Mem.tail _ (List.Mem.tail _ (List.Mem.tail _ (List.Mem.head _)))) rfl ?_
        refine ab_iload_n' hG 49 _ _ _ _ 2 _ dX6_build_49 rfl ?_
        refine ab_iaload' hG 50 _ _ _ _ 32 0 24 _ dX6_build_50 rfl h.1 ?_
        have h := h.2
        refine ab_goto' hG 51 _ _ _ _ (4) 55 dX6_build_51 (by decide) ?_
        refine ab_iastore' hG 55 _ _ _ _ 23 0 336 _ _ dX6_build_55 rfl h.1 ?_
        have h := h.2
        have h := h _ rfl
        refine ab_aload_n' hG 56 _ _ _ _ 0 _ dX6_build_56 rfl ?_
        refine ab_gR hG 57 _ _ _ _ 17 21 3 0 (24, 0) dX6_build_57 (List.Mem.tail _ (List.Mem.tail _ (List.Mem.tail _ (List.Mem.tail _ (List.Mem.head _))))) rfl ?_
        refine ab_sipush' hG 60 _ _ _ _ 312 312 dX6_build_60 (by decide) ?_
        refine ab_iload_n' hG 63 _ _ _ _ 2 _ dX6_build_63 rfl ?_
        refine ab_iadd' hG 64 _ _ _ _ _ _ dX6_build_64 ?_
        refine ab_iconst' hG 65 _ _ _ _ (-1) (-1) dX6_build_65 (by decide) ?_
        refine ab_iastore' hG 66 _ _ _ _ 24 0 336 _ _ dX6_build_66 rfl h.1 ?_
        have h := h.2
        have h := h _ rfl
        refine ab_aload_n' hG 67 _ _ _ _ 0 _ dX6_build_67 rfl ?_
        refine ab_gR hG 68 _ _ _ _ 20 21 4 0 (25, 0) dX6_build_68 (List.Mem.tail _ (List.Mem.tail _ (List.Mem.tail _ (List.Mem.tail _ (List.Mem.tail _ (List.Mem.head _)))))) rfl ?_
        refine ab_sipush' hG 71 _ _ _ _ 312 312 dX6_build_71 (by decide) ?_
        refine ab_iload_n' hG 74 _ _ _ _ 2 _ dX6_build_74 rfl ?_
        refine ab_iadd' hG 75 _ _ _ _ _ _ dX6_build_75 ?_
        refine ab_iconst' hG 76 _ _ _ _ 0 0 dX6_build_76 (by decide) ?_
        refine ab_iastore' hG 77 _ _ _ _ 25 0 336 _ _ dX6_build_77 rfl h.1 ?_
        have h := h.2
        have h := h _ rfl
        refine ab_iinc' hG 78 _ _ _ _ 2 1 _ _ dX6_build_78 rfl rfl ?_
        refine ab_goto' hG 81 _ _ _ _ (-79) 2 dX6_build_81 (by decide) ?_
        exact h
    · have h := h.1 hc
      refine ab_iconst' hG 21 _ _ _ _ 1 1 dX6_build_21 (by decide) ?_
      refine ab_goto' hG 22 _ _ _ _ (4) 26 dX6_build_22 (by decide) ?_
      refine ab_bastore' hG 26 _ _ _ _ 22 0 336 _ _ dX6_build_26 rfl h.1 ?_
      have h := h.2
      have h := h _ rfl
      refine ab_aload_n' hG 27 _ _ _ _ 0 _ dX6_build_27 rfl ?_
      refine ab_gR hG 28 _ _ _ _ 13 21 2 0 (23, 0) dX6_build_28 (List.Mem.tail _ (List.Mem.head _)) rfl ?_
      refine ab_sipush' hG 31 _ _ _ _ 312 312 dX6_build_31 (by decide) ?_
      refine ab_iload_n' hG 34 _ _ _ _ 2 _ dX6_build_34 rfl ?_
      refine ab_iadd' hG 35 _ _ _ _ _ _ dX6_build_35 ?_
      refine ab_aload_n' hG 36 _ _ _ _ 0 _ dX6_build_36 rfl ?_
      refine ab_gR hG 37 _ _ _ _ 45 21 14 0 (30, 0) dX6_build_37 (List.Mem.tail _ (List.Mem.tail _ (List.Mem.head _))) rfl ?_
      refine ab_iload_n' hG 40 _ _ _ _ 2 _ dX6_build_40 rfl ?_
      refine ab_baload' hG 41 _ _ _ _ 30 0 24 _ dX6_build_41 rfl h.1 ?_
      have h := h.2
      refine ab_if_eq' hG 42 _ _ _ _ (12) 54 _ dX6_build_42 (by decide) (fun hc => ?_) (fun hc => ?_)
      · have h := h.1 hc
        refine ab_iconst' hG 54 _ _ _ _ 0 0 dX6_build_54 (by decide) ?_
        refine ab_iastore' hG 55 _ _ _ _ 23 0 336 _ _ dX6_build_55 rfl h.1 ?_
        have h := h.2
        have h := h _ rfl
        refine ab_aload_n' hG 56 _ _ _ _ 0 _ dX6_build_56 rfl ?_
        refine ab_gR hG 57 _ _ _ _ 17 21 3 0 (24, 0) dX6_build_57 (List.Mem.tail _ (List.Mem.tail _ (List.Mem.tail _ (List.Mem.tail _ (List.Mem.head _))))) rfl ?_
        refine ab_sipush' hG 60 _ _ _ _ 312 312 dX6_build_60 (by decide) ?_
        refine ab_iload_n' hG 63 _ _ _ _ 2 _ dX6_build_63 rfl ?_
        refine ab_iadd' hG 64 _ _ _ _ _ _ dX6_build_64 ?_
        refine ab_iconst' hG 65 _ _ _ _ (-1) (-1) dX6_build_65 (by decide) ?_
        refine ab_iastore' hG 66 _ _ _ _ 24 0 336 _ _ dX6_build_66 rfl h.1 ?_
        have h := h.2
        have h := h _ rfl
        refine ab_aload_n' hG 67 _ _ _ _ 0 _ dX6_build_67 rfl ?_
        refine ab_gR hG 68 _ _ _ _ 20 21 4 0 (25, 0) dX6_build_68 (List.Mem.tail _ (List.Mem.tail _ (List.Mem.tail _ (List.Mem.tail _ (List.Mem.tail _ (List.Mem.head _)))))) rfl ?_
        refine ab_sipush' hG 71 _ _ _ _ 312 312 dX6_build_71 (by decide) ?_
        refine ab_iload_n' hG 74 _ _ _ _ 2 _ dX6_build_74 rfl ?_
        refine ab_iadd' hG 75 _ _ _ _ _ _ dX6_build_75 ?_
        refine ab_iconst' hG 76 _ _ _ _ 0 0 dX6_build_76 (by decide) ?_
        refine ab_iastore' hG 77 _ _ _ _ 25 0 336 _ _ dX6_build_77 rfl h.1 ?_
        have h := h.2
        have h := h _ rfl
        refine ab_iinc' hG 78 _ _ _ _ 2 1 _ _ dX6_build_78 rfl rfl ?_
        refine ab_goto' hG 81 _ _ _ _ (-79) 2 dX6_build_81 (by decide) ?_
        exact h
      · have h := h.2 hc
        refine ab_aload_n' hG 45 _ _ _ _ 0 _ dX6_build_45 rfl ?_
        refine ab_gR hG 46 _ _ _ _ 51 21 16 0 (32, 0) dX6_build_46 (List.Mem.tail _ (List.Mem.tail _ (List.Mem.tail _ (List.Mem.head _)))) rfl ?_
        refine ab_iload_n' hG 49 _ _ _ _ 2 _ dX6_build_49 rfl ?_
        refine ab_iaload' hG 50 _ _ _ _ 32 0 24 _ dX6_build_50 rfl h.1 ?_
        have h := h.2
        refine ab_goto' hG 51 _ _ _ _ (4) 55 dX6_build_51 (by decide) ?_
        refine ab_iastore' hG 55 _ _ _ _ 23 0 336 _ _ dX6_build_55 rfl h.1 ?_
        have h := h.2
        have h := h _ rfl
        refine ab_aload_n' hG 56 _ _ _ _ 0 _ dX6_build_56 rfl ?_
        refine ab_gR hG 57 _ _ _ _ 17 21 3 0 (24, 0) dX6_build_57 (List.Mem.tail _ (List.Mem.tail _ (List.Mem.tail _ (List.Mem.tail _ (List.Mem.head _))))) rfl ?_
        refine ab_sipush' hG 60 _ _ _ _ 312 312 dX6_build_60 (by decide) ?_
        refine ab_iload_n' hG 63 _ _ _ _ 2 _ dX6_build_63 rfl ?_
        refine ab_iadd' hG 64 _ _ _ _ _ _ dX6_build_64 ?_
        refine ab_iconst' hG 65 _ _ _ _ (-1) (-1) dX6_build_65 (by decide) ?_
        refine ab_iastore' hG 66 _ _ _ _ 24 0 336 _ _ dX6_build_66 rfl h.1 ?_
        have h := h.2
        have h := h _ rfl
        refine ab_aload_n' hG 67 _ _ _ _ 0 _ dX6_build_67 rfl ?_
        refine ab_gR hG 68 _ _ _ _ 20 21 4 0 (25, 0) dX6_build_68 (List.Mem.tail _ (List.Mem.tail _ (List.Mem.tail _ (List.Mem.tail _ (List.Mem.tail _ (List.Mem.head _)))))) rfl ?_
        refine ab_sipush' hG 71 _ _ _ _ 312 312 dX6_build_71 (by decide) ?_
        refine ab_iload_n' hG 74 _ _ _ _ 2 _ dX6_build_74 rfl ?_
        refine ab_iadd' hG 75 _ _ _ _ _ _ dX6_build_75 ?_
        refine ab_iconst' hG 76 _ _ _ _ 0 0 dX6_build_76 (by decide) ?_
        refine ab_iastore' hG 77 _ _ _ _ 25 0 336 _ _ dX6_build_77 rfl h.1 ?_
        have h := h.2
        have h := h _ rfl
        refine ab_iinc' hG 78 _ _ _ _ 2 1 _ _ dX6_build_78 rfl rfl ?_
        refine ab_goto' hG 81 _ _ _ _ (-79) 2 dX6_build_81 (by decide) ?_
        exact h
theorem bl_X6_build_86 {Q : ab_Po} {G : ab_Gt} (hG : ab_Cl M_X6_build Q G) (x1 : Int32) (x2 : Int32) (S : ab_S) (h : ((24 : Int32) ≤ x2 → Sp_X6_copy [(.inr (21, 0)), (.inl (13 : Int32)), (.inl (12 : Int32))] S (ab_back Q G 121 [some (.inr (21, 0)), some (.inl x1), some (.inl x2)] [] 0)) ∧ (¬ (24 : Int32) ≤ x2 → vp_in x2 24 ∧ ((S 30 0 x2.toNatClampNeg) = 0 → G 86 [some (.inr (21, 0)), some (.inl x1), some (.inl (x2 + 1))] [] S 0) ∧ (¬ (S 30 0 x2.toNatClampNeg) = 0 → Sp_X6_putChildren [(.inr (21, 0)), (.inl x2), (.inl x1)] S (ab_back Q G 107 [some (.inr (21, 0)), some (.inl x1), some (.inl x2)] [] 0)))) : G 86 [some (.inr (21, 0)), some (.inl x1), some (.inl x2)] [] S 0 := by
  refine ab_iload_n' hG 86 _ _ _ _ 2 _ dX6_build_86 rfl ?_
  refine ab_bipush' hG 87 _ _ _ _ 24 24 dX6_build_87 (by decide) ?_
  refine ab_icmp_ge' hG 89 _ _ _ _ (24) 113 _ _ dX6_build_89 (by decide) (fun hc => ?_) (fun hc => ?_)
  · have h := h.1 hc
    refine ab_aload_n' hG 113 _ _ _ _ 0 _ dX6_build_113 rfl ?_
    refine ab_bipush' hG 114 _ _ _ _ 13 13 dX6_build_114 (by decide) ?_
    refine ab_bipush' hG 116 _ _ _ _ 12 12 dX6_build_116 (by decide) ?_
    exact ab_invv' hG 118 _ [_, _] _ _ 0 78 _ 2 0 0 _ (21, _) dX6_build_118 rfl rfl rfl rfl (Nat.le_of_ble_eq_true rfl) (Nat.le_of_ble_eq_true rfl) h
  · have h := h.2 hc
    refine ab_aload_n' hG 92 _ _ _ _ 0 _ dX6_build_92 rfl ?_
    refine ab_gR hG 93 _ _ _ _ 45 21 14 0 (30, 0) dX6_build_93 (List.Mem.tail _ (List.Mem.tail _ (List.Mem.head _))) rfl ?_
    refine ab_iload_n' hG 96 _ _ _ _ 2 _ dX6_build_96 rfl ?_
    refine ab_baload' hG 97 _ _ _ _ 30 0 24 _ dX6_build_97 rfl h.1 ?_
    have h := h.2
    refine ab_if_eq' hG 98 _ _ _ _ (9) 107 _ dX6_build_98 (by decide) (fun hc => ?_) (fun hc => ?_)
    · have h := h.1 hc
      refine ab_iinc' hG 107 _ _ _ _ 2 1 _ _ dX6_build_107 rfl rfl ?_
      refine ab_goto' hG 110 _ _ _ _ (-24) 86 dX6_build_110 (by decide) ?_
      exact h
    · have h := h.2 hc
      refine ab_aload_n' hG 101 _ _ _ _ 0 _ dX6_build_101 rfl ?_
      refine ab_iload_n' hG 102 _ _ _ _ 2 _ dX6_build_102 rfl ?_
      refine ab_iload_n' hG 103 _ _ _ _ 1 _ dX6_build_103 rfl ?_
      exact ab_invv' hG 104 _ [_, _] _ _ 0 144 _ 2 0 0 _ (21, _) dX6_build_104 rfl rfl rfl rfl (Nat.le_of_ble_eq_true rfl) (Nat.le_of_ble_eq_true rfl) h
theorem bl_X6_build_107 {Q : ab_Po} {G : ab_Gt} (hG : ab_Cl M_X6_build Q G) (x1 : Int32) (x2 : Int32) (S : ab_S) (h : G 86 [some (.inr (21, 0)), some (.inl x1), some (.inl (x2 + 1))] [] S 0) : G 107 [some (.inr (21, 0)), some (.inl x1), some (.inl x2)] [] S 0 := by
  refine ab_iinc' hG 107 _ _ _ _ 2 1 _ _ dX6_build_107 rfl rfl ?_
  refine ab_goto' hG 110 _ _ _ _ (-24) 86 dX6_build_110 (by decide) ?_
  exact h
theorem bl_X6_build_121 {Q : ab_Po} {G : ab_Gt} (hG : ab_Cl M_X6_build Q G) (x1 : Int32) (x2 : Int32) (S : ab_S) (h : Q (.inl none) S) : G 121 [some (.inr (21, 0)), some (.inl x1), some (.inl x2)] [] S 0 := by
  exact ab_return_' hG 121 _ _ _ dX6_build_121 rfl (by decide) h
theorem bl_X6_merge_0 {Q : ab_Po} {G : ab_Gt} (hG : ab_Cl M_X6_merge Q G) (x1 : Int32) (S : ab_S) (h : Sp_X6_isCommit [(.inr (21, 0)), (.inl x1)] S (ab_back Q G 6 [some (.inr (21, 0)), some (.inl x1), none, none] [(.inr (21, 0))] 0)) : G 0 [some (.inr (21, 0)), some (.inl x1), none, none] [] S 0 := by
  refine ab_aload_n' hG 0 _ _ _ _ 0 _ dX6_merge_0 rfl ?_
  refine ab_aload_n' hG 1 _ _ _ _ 0 _ dX6_merge_1 rfl ?_
  refine ab_iload_n' hG 2 _ _ _ _ 1 _ dX6_merge_2 rfl ?_
  exact ab_invv' hG 3 _ [_] _ _ 0 127 _ 1 1 0 _ (21, _) dX6_merge_3 rfl rfl rfl rfl (Nat.le_of_ble_eq_true rfl) (Nat.le_of_ble_eq_true rfl) h
theorem bl_X6_merge_6 {Q : ab_Po} {G : ab_Gt} (hG : ab_Cl M_X6_merge Q G) (x1 : Int32) (xs0 : Int32) (S : ab_S) (h : (xs0 = 0 → (∀ S2 : ab_S, S2 = ab_su S 21 0 0 (1 : Int32) → ((S2 21 0 0) ≤ 0 → Sp_X6_baseOf [(.inr (21, 0)), (.inl (S2 21 0 10)), (.inl x1)] S2 (ab_back Q G 53 [some (.inr (21, 0)), some (.inl x1), none, none] [] 0)) ∧ (¬ (S2 21 0 0) ≤ 0 → Q (.inl (some (0 : Int32))) S2))) ∧ (¬ xs0 = 0 → (0 ≤ (S 21 0 11) → (∀ S1 : ab_S, S1 = ab_su S 21 0 0 (2 : Int32) → ((S1 21 0 0) ≤ 0 → Sp_X6_baseOf [(.inr (21, 0)), (.inl (S1 21 0 10)), (.inl x1)] S1 (ab_back Q G 53 [some (.inr (21, 0)), some (.inl x1), none, none] [] 0)) ∧ (¬ (S1 21 0 0) ≤ 0 → Q (.inl (some (0 : Int32))) S1))) ∧ (¬ 0 ≤ (S 21 0 11) → Sp_X6_isHeads [(.inr (21, 0))] S (ab_back Q G 24 [some (.inr (21, 0)), some (.inl x1), none, none] [(.inr (21, 0))] 0)))) : G 6 [some (.inr (21, 0)), some (.inl x1), none, none] [(.inl xs0), (.inr (21, 0))] S 0 := by
  refine ab_if_ne' hG 6 _ _ _ _ (7) 13 _ dX6_merge_6 (by decide) (fun hc => ?_) (fun hc => ?_)
  · have h := h.2 hc
    refine ab_aload_n' hG 13 _ _ _ _ 0 _ dX6_merge_13 rfl ?_
    refine ab_gI hG 14 _ _ _ _ 39 21 11 0 dX6_merge_14 (List.Mem.head _) rfl ?_
    refine ab_if_ge' hG 17 _ _ _ _ (10) 27 _ dX6_merge_17 (by decide) (fun hc => ?_) (fun hc => ?_)
    · have h := h.1 hc
      refine ab_iconst' hG 27 _ _ _ _ 2 2 dX6_merge_27 (by decide) ?_
      refine ab_goto' hG 28 _ _ _ _ (4) 32 dX6_merge_28 (by decide) ?_
      refine ab_putfield' hG 32 _ _ _ _ 82 21 0 0 _ dX6_merge_32 (List.Mem.head _) ?_
      have h := h _ rfl
      refine ab_aload_n' hG 35 _ _ _ _ 0 _ dX6_merge_35 rfl ?_
      refine ab_gI hG 36 _ _ _ _ 82 21 0 0 dX6_merge_36 (List.Mem.tail _ (List.Mem.head _)) rfl ?_
      refine ab_if_le' hG 39 _ _ _ _ (5) 44 _ dX6_merge_39 (by decide) (fun hc => ?_) (fun hc => ?_)
      · have h := h.1 hc
        refine ab_aload_n' hG 44 _ _ _ _ 0 _ dX6_merge_44 rfl ?_
        refine ab_aload_n' hG 45 _ _ _ _ 0 _ dX6_merge_45 rfl ?_
        refine ab_gI hG 46 _ _ _ _ 124 21 10 0 dX6_merge_46 (List.Mem.tail _ (List.Mem.tail _ (List.Mem.head _))) rfl ?_
        refine ab_iload_n' hG 49 _ _ _ _ 1 _ dX6_merge_49 rfl ?_
        exact ab_invv' hG 50 _ [_, _] _ _ 0 131 _ 2 1 0 _ (21, _) dX6_merge_50 rfl rfl rfl rfl (Nat.le_of_ble_eq_true rfl) (Nat.le_of_ble_eq_true rfl) h
      · have h := h.2 hc
        refine ab_iconst' hG 42 _ _ _ _ 0 0 dX6_merge_42 (by decide) ?_
        exact ab_ireturn' hG 43 _ _ _ _ dX6_merge_43 (Or.inl rfl) (by decide) h
    · have h := h.2 hc
      refine ab_aload_n' hG 20 _ _ _ _ 0 _ dX6_merge_20 rfl ?_
      exact ab_invv' hG 21 _ [] _ _ 0 147 _ 0 1 0 _ (21, _) dX6_merge_21 rfl rfl rfl rfl (Nat.le_of_ble_eq_true rfl) (Nat.le_of_ble_eq_true rfl) h
  · have h := h.1 hc
    refine ab_iconst' hG 9 _ _ _ _ 1 1 dX6_merge_9 (by decide) ?_
    refine ab_goto' hG 10 _ _ _ _ (22) 32 dX6_merge_10 (by decide) ?_
    refine ab_putfield' hG 32 _ _ _ _ 82 21 0 0 _ dX6_merge_32 (List.Mem.head _) ?_
    have h := h _ rfl
    refine ab_aload_n' hG 35 _ _ _ _ 0 _ dX6_merge_35 rfl ?_
    refine ab_gI hG 36 _ _ _ _ 82 21 0 0 dX6_merge_36 (List.Mem.tail _ (List.Mem.head _)) rfl ?_
    refine ab_if_le' hG 39 _ _ _ _ (5) 44 _ dX6_merge_39 (by decide) (fun hc => ?_) (fun hc => ?_)
    · have h := h.1 hc
      refine ab_aload_n' hG 44 _ _ _ _ 0 _ dX6_merge_44 rfl ?_
      refine ab_aload_n' hG 45 _ _ _ _ 0 _ dX6_merge_45 rfl ?_
      refine ab_gI hG 46 _ _ _ _ 124 21 10 0 dX6_merge_46 (List.Mem.tail _ (List.Mem.tail _ (List.Mem.head _))) rfl ?_
      refine ab_iload_n' hG 49 _ _ _ _ 1 _ dX6_merge_49 rfl ?_
      exact ab_invv' hG 50 _ [_, _] _ _ 0 131 _ 2 1 0 _ (21, _) dX6_merge_50 rfl rfl rfl rfl (Nat.le_of_ble_eq_true rfl) (Nat.le_of_ble_eq_true rfl) h
    · have h := h.2 hc
      refine ab_iconst' hG 42 _ _ _ _ 0 0 dX6_merge_42 (by decide) ?_
      exact ab_ireturn' hG 43 _ _ _ _ dX6_merge_43 (Or.inl rfl) (by decide) h
theorem bl_X6_merge_24 {Q : ab_Po} {G : ab_Gt} (hG : ab_Cl M_X6_merge Q G) (x1 : Int32) (xs0 : Int32) (S : ab_S) (h : (xs0 = 0 → (∀ S2 : ab_S, S2 = ab_su S 21 0 0 (2 : Int32) → ((S2 21 0 0) ≤ 0 → Sp_X6_baseOf [(.inr (21, 0)), (.inl (S2 21 0 10)), (.inl x1)] S2 (ab_back Q G 53 [some (.inr (21, 0)), some (.inl x1), none, none] [] 0)) ∧ (¬ (S2 21 0 0) ≤ 0 → Q (.inl (some (0 : Int32))) S2))) ∧ (¬ xs0 = 0 → (∀ S1 : ab_S, S1 = ab_su S 21 0 0 (0 : Int32) → ((S1 21 0 0) ≤ 0 → Sp_X6_baseOf [(.inr (21, 0)), (.inl (S1 21 0 10)), (.inl x1)] S1 (ab_back Q G 53 [some (.inr (21, 0)), some (.inl x1), none, none] [] 0)) ∧ (¬ (S1 21 0 0) ≤ 0 → Q (.inl (some (0 : Int32))) S1)))) : G 24 [some (.inr (21, 0)), some (.inl x1), none, none] [(.inl xs0), (.inr (21, 0))] S 0 := by
  refine ab_if_ne' hG 24 _ _ _ _ (7) 31 _ dX6_merge_24 (by decide) (fun hc => ?_) (fun hc => ?_)
  · have h := h.2 hc
    refine ab_iconst' hG 31 _ _ _ _ 0 0 dX6_merge_31 (by decide) ?_
    refine ab_putfield' hG 32 _ _ _ _ 82 21 0 0 _ dX6_merge_32 (List.Mem.head _) ?_
    have h := h _ rfl
    refine ab_aload_n' hG 35 _ _ _ _ 0 _ dX6_merge_35 rfl ?_
    refine ab_gI hG 36 _ _ _ _ 82 21 0 0 dX6_merge_36 (List.Mem.tail _ (List.Mem.head _)) rfl ?_
    refine ab_if_le' hG 39 _ _ _ _ (5) 44 _ dX6_merge_39 (by decide) (fun hc => ?_) (fun hc => ?_)
    · have h := h.1 hc
      refine ab_aload_n' hG 44 _ _ _ _ 0 _ dX6_merge_44 rfl ?_
      refine ab_aload_n' hG 45 _ _ _ _ 0 _ dX6_merge_45 rfl ?_
      refine ab_gI hG 46 _ _ _ _ 124 21 10 0 dX6_merge_46 (List.Mem.tail _ (List.Mem.tail _ (List.Mem.head _))) rfl ?_
      refine ab_iload_n' hG 49 _ _ _ _ 1 _ dX6_merge_49 rfl ?_
      exact ab_invv' hG 50 _ [_, _] _ _ 0 131 _ 2 1 0 _ (21, _) dX6_merge_50 rfl rfl rfl rfl (Nat.le_of_ble_eq_true rfl) (Nat.le_of_ble_eq_true rfl) h
    · have h := h.2 hc
      refine ab_iconst' hG 42 _ _ _ _ 0 0 dX6_merge_42 (by decide) ?_
      exact ab_ireturn' hG 43 _ _ _ _ dX6_merge_43 (Or.inl rfl) (by decide) h
  · have h := h.1 hc
    refine ab_iconst' hG 27 _ _ _ _ 2 2 dX6_merge_27 (by decide) ?_
    refine ab_goto' hG 28 _ _ _ _ (4) 32 dX6_merge_28 (by decide) ?_
    refine ab_putfield' hG 32 _ _ _ _ 82 21 0 0 _ dX6_merge_32 (List.Mem.head _) ?_
    have h := h _ rfl
    refine ab_aload_n' hG 35 _ _ _ _ 0 _ dX6_merge_35 rfl ?_
    refine ab_gI hG 36 _ _ _ _ 82 21 0 0 dX6_merge_36 (List.Mem.tail _ (List.Mem.head _)) rfl ?_
    refine ab_if_le' hG 39 _ _ _ _ (5) 44 _ dX6_merge_39 (by decide) (fun hc => ?_) (fun hc => ?_)
    · have h := h.1 hc
      refine ab_aload_n' hG 44 _ _ _ _ 0 _ dX6_merge_44 rfl ?_
      refine ab_aload_n' hG 45 _ _ _ _ 0 _ dX6_merge_45 rfl ?_
      refine ab_gI hG 46 _ _ _ _ 124 21 10 0 dX6_merge_46 (List.Mem.tail _ (List.Mem.tail _ (List.Mem.head _))) rfl ?_
      refine ab_iload_n' hG 49 _ _ _ _ 1 _ dX6_merge_49 rfl ?_
      exact ab_invv' hG 50 _ [_, _] _ _ 0 131 _ 2 1 0 _ (21, _) dX6_merge_50 rfl rfl rfl rfl (Nat.le_of_ble_eq_true rfl) (Nat.le_of_ble_eq_true rfl) h
    · have h := h.2 hc
      refine ab_iconst' hG 42 _ _ _ _ 0 0 dX6_merge_42 (by decide) ?_
      exact ab_ireturn' hG 43 _ _ _ _ dX6_merge_43 (Or.inl rfl) (by decide) h
theorem bl_X6_merge_53 {Q : ab_Po} {G : ab_Gt} (hG : ab_Cl M_X6_merge Q G) (x1 : Int32) (xs0 : Int32) (S : ab_S) (h : G 56 [some (.inr (21, 0)), some (.inl x1), some (.inl xs0), some (.inl (0 : Int32))] [] S 0) : G 53 [some (.inr (21, 0)), some (.inl x1), none, none] [(.inl xs0)] S 0 := by
  refine ab_istore_n' hG 53 _ _ _ _ 2 _ dX6_merge_53 (Nat.le_of_ble_eq_true rfl) ?_
  refine ab_iconst' hG 54 _ _ _ _ 0 0 dX6_merge_54 (by decide) ?_
  refine ab_istore_n' hG 55 _ _ _ _ 3 _ dX6_merge_55 (Nat.le_of_ble_eq_true rfl) ?_
  exact h
theorem bl_X6_merge_56 {Q : ab_Po} {G : ab_Gt} (hG : ab_Cl M_X6_merge Q G) (x1 : Int32) (x2 : Int32) (x3 : Int32) (S : ab_S) (h : ((24 : Int32) ≤ x3 → Sp_X6_countKinds [(.inr (21, 0))] S (ab_back Q G 79 [some (.inr (21, 0)), some (.inl x1), some (.inl x2), some (.inl x3)] [] 0)) ∧ (¬ (24 : Int32) ≤ x3 → Sp_X6_meet [(.inr (21, 0)), (.inl x3), (.inl x1), (.inl x2)] S (ab_back Q G 69 [some (.inr (21, 0)), some (.inl x1), some (.inl x2), some (.inl x3)] [] 0))) : G 56 [some (.inr (21, 0)), some (.inl x1), some (.inl x2), some (.inl x3)] [] S 0 := by
  refine ab_iload_n' hG 56 _ _ _ _ 3 _ dX6_merge_56 rfl ?_
  refine ab_bipush' hG 57 _ _ _ _ 24 24 dX6_merge_57 (by decide) ?_
  refine ab_icmp_ge' hG 59 _ _ _ _ (16) 75 _ _ dX6_merge_59 (by decide) (fun hc => ?_) (fun hc => ?_)
  · have h := h.1 hc
    refine ab_aload_n' hG 75 _ _ _ _ 0 _ dX6_merge_75 rfl ?_
    exact ab_invv' hG 76 _ [] _ _ 0 155 _ 0 1 0 _ (21, _) dX6_merge_76 rfl rfl rfl rfl (Nat.le_of_ble_eq_true rfl) (Nat.le_of_ble_eq_true rfl) h
  · have h := h.2 hc
    refine ab_aload_n' hG 62 _ _ _ _ 0 _ dX6_merge_62 rfl ?_
    refine ab_iload_n' hG 63 _ _ _ _ 3 _ dX6_merge_63 rfl ?_
    refine ab_iload_n' hG 64 _ _ _ _ 1 _ dX6_merge_64 rfl ?_
    refine ab_iload_n' hG 65 _ _ _ _ 2 _ dX6_merge_65 rfl ?_
    exact ab_invv' hG 66 _ [_, _, _] _ _ 0 151 _ 3 0 0 _ (21, _) dX6_merge_66 rfl rfl rfl rfl (Nat.le_of_ble_eq_true rfl) (Nat.le_of_ble_eq_true rfl) h
theorem bl_X6_merge_69 {Q : ab_Po} {G : ab_Gt} (hG : ab_Cl M_X6_merge Q G) (x1 : Int32) (x2 : Int32) (x3 : Int32) (S : ab_S) (h : G 56 [some (.inr (21, 0)), some (.inl x1), some (.inl x2), some (.inl (x3 + 1))] [] S 0) : G 69 [some (.inr (21, 0)), some (.inl x1), some (.inl x2), some (.inl x3)] [] S 0 := by
  refine ab_iinc' hG 69 _ _ _ _ 3 1 _ _ dX6_merge_69 rfl rfl ?_
  refine ab_goto' hG 72 _ _ _ _ (-16) 56 dX6_merge_72 (by decide) ?_
  exact h
theorem bl_X6_merge_79 {Q : ab_Po} {G : ab_Gt} (hG : ab_Cl M_X6_merge Q G) (x1 : Int32) (x2 : Int32) (x3 : Int32) (xs0 : Int32) (S : ab_S) (h : (xs0 = 0 → Sp_X6_findOrphans [(.inr (21, 0))] S (ab_back Q G 86 [some (.inr (21, 0)), some (.inl x1), some (.inl x2), some (.inl x3)] [] 0)) ∧ (¬ xs0 = 0 → Sp_X6_countKinds [(.inr (21, 0))] S (ab_back Q G 90 [some (.inr (21, 0)), some (.inl x1), some (.inl x2), some (.inl x3)] [] 0))) : G 79 [some (.inr (21, 0)), some (.inl x1), some (.inl x2), some (.inl x3)] [(.inl xs0)] S 0 := by
  refine ab_if_ne' hG 79 _ _ _ _ (7) 86 _ dX6_merge_79 (by decide) (fun hc => ?_) (fun hc => ?_)
  · have h := h.2 hc
    refine ab_aload_n' hG 86 _ _ _ _ 0 _ dX6_merge_86 rfl ?_
    exact ab_invv' hG 87 _ [] _ _ 0 155 _ 0 1 0 _ (21, _) dX6_merge_87 rfl rfl rfl rfl (Nat.le_of_ble_eq_true rfl) (Nat.le_of_ble_eq_true rfl) h
  · have h := h.1 hc
    refine ab_aload_n' hG 82 _ _ _ _ 0 _ dX6_merge_82 rfl ?_
    exact ab_invv' hG 83 _ [] _ _ 0 159 _ 0 0 0 _ (21, _) dX6_merge_83 rfl rfl rfl rfl (Nat.le_of_ble_eq_true rfl) (Nat.le_of_ble_eq_true rfl) h
theorem bl_X6_merge_86 {Q : ab_Po} {G : ab_Gt} (hG : ab_Cl M_X6_merge Q G) (x1 : Int32) (x2 : Int32) (x3 : Int32) (S : ab_S) (h : Sp_X6_countKinds [(.inr (21, 0))] S (ab_back Q G 90 [some (.inr (21, 0)), some (.inl x1), some (.inl x2), some (.inl x3)] [] 0)) : G 86 [some (.inr (21, 0)), some (.inl x1), some (.inl x2), some (.inl x3)] [] S 0 := by
  refine ab_aload_n' hG 86 _ _ _ _ 0 _ dX6_merge_86 rfl ?_
  exact ab_invv' hG 87 _ [] _ _ 0 155 _ 0 1 0 _ (21, _) dX6_merge_87 rfl rfl rfl rfl (Nat.le_of_ble_eq_true rfl) (Nat.le_of_ble_eq_true rfl) h
theorem bl_X6_merge_90 {Q : ab_Po} {G : ab_Gt} (hG : ab_Cl M_X6_merge Q G) (x1 : Int32) (x2 : Int32) (x3 : Int32) (xs0 : Int32) (S : ab_S) (h : (xs0 = 0 → Sp_X6_findRings [(.inr (21, 0))] S (ab_back Q G 97 [some (.inr (21, 0)), some (.inl x1), some (.inl x2), some (.inl x3)] [] 0)) ∧ (¬ xs0 = 0 → (∀ S1 : ab_S, S1 = ab_su S 21 0 12 (0 : Int32) → G 104 [some (.inr (21, 0)), some (.inl x1), some (.inl x2), some (.inl (0 : Int32))] [] S1 0))) : G 90 [some (.inr (21, 0)), some (.inl x1), some (.inl x2), some (.inl x3)] [(.inl xs0)] S 0 := by
  refine ab_if_ne' hG 90 _ _ _ _ (7) 97 _ dX6_merge_90 (by decide) (fun hc => ?_) (fun hc => ?_)
  · have h := h.2 hc
    refine ab_aload_n' hG 97 _ _ _ _ 0 _ dX6_merge_97 rfl ?_
    refine ab_iconst' hG 98 _ _ _ _ 0 0 dX6_merge_98 (by decide) ?_
    refine ab_putfield' hG 99 _ _ _ _ 165 21 12 0 _ dX6_merge_99 (List.Mem.tail _ (List.Mem.head _)) ?_
    have h := h _ rfl
    refine ab_iconst' hG 102 _ _ _ _ 0 0 dX6_merge_102 (by decide) ?_
    refine ab_istore_n' hG 103 _ _ _ _ 3 _ dX6_merge_103 (Nat.le_of_ble_eq_true rfl) ?_
    exact h
  · have h := h.1 hc
    refine ab_aload_n' hG 93 _ _ _ _ 0 _ dX6_merge_93 rfl ?_
    exact ab_invv' hG 94 _ [] _ _ 0 162 _ 0 0 0 _ (21, _) dX6_merge_94 rfl rfl rfl rfl (Nat.le_of_ble_eq_true rfl) (Nat.le_of_ble_eq_true rfl) h
theorem bl_X6_merge_97 {Q : ab_Po} {G : ab_Gt} (hG : ab_Cl M_X6_merge Q G) (x1 : Int32) (x2 : Int32) (x3 : Int32) (S : ab_S) (h : (∀ S1 : ab_S, S1 = ab_su S 21 0 12 (0 : Int32) → G 104 [some (.inr (21, 0)), some (.inl x1), some (.inl x2), some (.inl (0 : Int32))] [] S1 0)) : G 97 [some (.inr (21, 0)), some (.inl x1), some (.inl x2), some (.inl x3)] [] S 0 := by
  refine ab_aload_n' hG 97 _ _ _ _ 0 _ dX6_merge_97 rfl ?_
  refine ab_iconst' hG 98 _ _ _ _ 0 0 dX6_merge_98 (by decide) ?_
  refine ab_putfield' hG 99 _ _ _ _ 165 21 12 0 _ dX6_merge_99 (List.Mem.tail _ (List.Mem.head _)) ?_
  have h := h _ rfl
  refine ab_iconst' hG 102 _ _ _ _ 0 0 dX6_merge_102 (by decide) ?_
  refine ab_istore_n' hG 103 _ _ _ _ 3 _ dX6_merge_103 (Nat.le_of_ble_eq_true rfl) ?_
  exact h
theorem bl_X6_merge_104 {Q : ab_Po} {G : ab_Gt} (hG : ab_Cl M_X6_merge Q G) (x1 : Int32) (x2 : Int32) (x3 : Int32) (S : ab_S) (h : ((24 : Int32) ≤ x3 → ((S 21 0 12) = 0 → Sp_X6_build [(.inr (21, 0)), (.inl x1)] S (ab_back Q G 167 [some (.inr (21, 0)), some (.inl x1), some (.inl x2), some (.inl x3)] [] 0)) ∧ (¬ (S 21 0 12) = 0 → Q (.inl (some (S 21 0 12))) S)) ∧ (¬ (24 : Int32) ≤ x3 → vp_in x3 24 ∧ ((S 31 0 x3.toNatClampNeg) ≤ 0 → G 104 [some (.inr (21, 0)), some (.inl x1), some (.inl x2), some (.inl (x3 + 1))] [] S 0) ∧ (¬ (S 31 0 x3.toNatClampNeg) ≤ 0 → vp_in x3 24 ∧ vp_in (S 21 0 12) 24 ∧ (∀ S1 : ab_S, S1 = ab_su S 29 0 (S 21 0 12).toNatClampNeg (((32 : Int32) * (S 31 0 x3.toNatClampNeg)) + x3) → (∀ S2 : ab_S, S2 = ab_su S1 21 0 12 ((S1 21 0 12) + (1 : Int32)) → G 104 [some (.inr (21, 0)), some (.inl x1), some (.inl x2), some (.inl (x3 + 1))] [] S2 0))))) : G 104 [some (.inr (21, 0)), some (.inl x1), some (.inl x2), some (.inl x3)] [] S 0 := by
  refine ab_iload_n' hG 104 _ _ _ _ 3 _ dX6_merge_104 rfl ?_
  refine ab_bipush' hG 105 _ _ _ _ 24 24 dX6_merge_105 (by decide) ?_
  refine ab_icmp_ge' hG 107 _ _ _ _ (48) 155 _ _ dX6_merge_107 (by decide) (fun hc => ?_) (fun hc => ?_)
  · have h := h.1 hc
    refine ab_aload_n' hG 155 _ _ _ _ 0 _ dX6_merge_155 rfl ?_
    refine ab_gI hG 156 _ _ _ _ 165 21 12 0 dX6_merge_156 (List.Mem.tail _ (List.Mem.tail _ (List.Mem.tail _ (List.Mem.tail _ (List.Mem.tail _ (List.Mem.head _)))))) rfl ?_
    refine ab_if_ne' hG 159 _ _ _ _ (13) 172 _ dX6_merge_159 (by decide) (fun hc => ?_) (fun hc => ?_)
    · have h := h.2 hc
      refine ab_aload_n' hG 172 _ _ _ _ 0 _ dX6_merge_172 rfl ?_
      refine ab_gI hG 173 _ _ _ _ 165 21 12 0 dX6_merge_173 (List.Mem.tail _ (List.Mem.tail _ (List.Mem.tail _ (List.Mem.tail _ (List.Mem.tail _ (List.Mem.head _)))))) rfl ?_
      exact ab_ireturn' hG 176 _ _ _ _ dX6_merge_176 (Or.inl rfl) (by decide) h
    · have h := h.1 hc
      refine ab_aload_n' hG 162 _ _ _ _ 0 _ dX6_merge_162 rfl ?_
      refine ab_iload_n' hG 163 _ _ _ _ 1 _ dX6_merge_163 rfl ?_
      exact ab_invv' hG 164 _ [_] _ _ 0 168 _ 1 0 0 _ (21, _) dX6_merge_164 rfl rfl rfl rfl (Nat.le_of_ble_eq_true rfl) (Nat.le_of_ble_eq_true rfl) h
  · have h := h.2 hc
    refine ab_aload_n' hG 110 _ _ _ _ 0 _ dX6_merge_110 rfl ?_
    refine ab_gR hG 111 _ _ _ _ 48 21 15 0 (31, 0) dX6_merge_111 (List.Mem.tail _ (List.Mem.tail _ (List.Mem.tail _ (List.Mem.head _)))) rfl ?_
    refine ab_iload_n' hG 114 _ _ _ _ 3 _ dX6_merge_114 rfl ?_
    refine ab_iaload' hG 115 _ _ _ _ 31 0 24 _ dX6_merge_115 rfl h.1 ?_
    have h := h.2
    refine ab_if_le' hG 116 _ _ _ _ (33) 149 _ dX6_merge_116 (by decide) (fun hc => ?_) (fun hc => ?_)
    · have h := h.1 hc
      refine ab_iinc' hG 149 _ _ _ _ 3 1 _ _ dX6_merge_149 rfl rfl ?_
      refine ab_goto' hG 152 _ _ _ _ (-48) 104 dX6_merge_152 (by decide) ?_
      exact h
    · have h := h.2 hc
      refine ab_aload_n' hG 119 _ _ _ _ 0 _ dX6_merge_119 rfl ?_
      refine ab_gR hG 120 _ _ _ _ 42 21 13 0 (29, 0) dX6_merge_120 (List.Mem.tail _ (List.Mem.tail _ (List.Mem.tail _ (List.Mem.tail _ (List.Mem.head _))))) rfl ?_
      refine ab_aload_n' hG 123 _ _ _ _ 0 _ dX6_merge_123 rfl ?_
      refine ab_gI hG 124 _ _ _ _ 165 21 12 0 dX6_merge_124 (List.Mem.tail _ (List.Mem.tail _ (List.Mem.tail _ (List.Mem.tail _ (List.Mem.tail _ (List.Mem.head _)))))) rfl ?_
      refine ab_bipush' hG 127 _ _ _ _ 32 32 dX6_merge_127 (by decide) ?_
      refine ab_aload_n' hG 129 _ _ _ _ 0 _ dX6_merge_129 rfl ?_
      refine ab_gR hG 130 _ _ _ _ 48 21 15 0 (31, 0) dX6_merge_130 (List.Mem.tail _ (List.Mem.tail _ (List.Mem.tail _ (List.Mem.head _)))) rfl ?_
      refine ab_iload_n' hG 133 _ _ _ _ 3 _ dX6_merge_133 rfl ?_
      refine ab_iaload' hG 134 _ _ _ _ 31 0 24 _ dX6_merge_134 rfl h.1 ?_
      have h := h.2
      refine ab_imul' hG 135 _ _ _ _ _ _ dX6_merge_135 ?_
      refine ab_iload_n' hG 136 _ _ _ _ 3 _ dX6_merge_136 rfl ?_
      refine ab_iadd' hG 137 _ _ _ _ _ _ dX6_merge_137 ?_
      refine ab_iastore' hG 138 _ _ _ _ 29 0 24 _ _ dX6_merge_138 rfl h.1 ?_
      have h := h.2
      have h := h _ rfl
      refine ab_aload_n' hG 139 _ _ _ _ 0 _ dX6_merge_139 rfl ?_
      refine ab_dup' hG 140 _ _ _ _ _ dX6_merge_140 ?_
      refine ab_gI hG 141 _ _ _ _ 165 21 12 0 dX6_merge_141 (List.Mem.tail _ (List.Mem.tail _ (List.Mem.tail _ (List.Mem.tail _ (List.Mem.tail _ (List.Mem.head _)))))) rfl ?_
      refine ab_iconst' hG 144 _ _ _ _ 1 1 dX6_merge_144 (by decide) ?_
      refine ab_iadd' hG 145 _ _ _ _ _ _ dX6_merge_145 ?_
      refine ab_putfield' hG 146 _ _ _ _ 165 21 12 0 _ dX6_merge_146 (List.Mem.tail _ (List.Mem.head _)) ?_
      have h := h _ rfl
      refine ab_iinc' hG 149 _ _ _ _ 3 1 _ _ dX6_merge_149 rfl rfl ?_
      refine ab_goto' hG 152 _ _ _ _ (-48) 104 dX6_merge_152 (by decide) ?_
      exact h
theorem bl_X6_merge_167 {Q : ab_Po} {G : ab_Gt} (hG : ab_Cl M_X6_merge Q G) (x1 : Int32) (x2 : Int32) (x3 : Int32) (S : ab_S) (h : (∀ S1 : ab_S, S1 = ab_su S 21 0 11 x1 → Q (.inl (some (S1 21 0 12))) S1)) : G 167 [some (.inr (21, 0)), some (.inl x1), some (.inl x2), some (.inl x3)] [] S 0 := by
  refine ab_aload_n' hG 167 _ _ _ _ 0 _ dX6_merge_167 rfl ?_
  refine ab_iload_n' hG 168 _ _ _ _ 1 _ dX6_merge_168 rfl ?_
  refine ab_putfield' hG 169 _ _ _ _ 39 21 11 0 _ dX6_merge_169 (List.Mem.tail _ (List.Mem.tail _ (List.Mem.head _))) ?_
  have h := h _ rfl
  refine ab_aload_n' hG 172 _ _ _ _ 0 _ dX6_merge_172 rfl ?_
  refine ab_gI hG 173 _ _ _ _ 165 21 12 0 dX6_merge_173 (List.Mem.tail _ (List.Mem.tail _ (List.Mem.tail _ (List.Mem.tail _ (List.Mem.tail _ (List.Mem.head _)))))) rfl ?_
  exact ab_ireturn' hG 176 _ _ _ _ dX6_merge_176 (Or.inl rfl) (by decide) h
theorem bl_X6_conflict_0 {Q : ab_Po} {G : ab_Gt} (hG : ab_Cl M_X6_conflict Q G) (x1 : Int32) (S : ab_S) (h : (x1 < 0 → (∀ S1 : ab_S, S1 = ab_su S 21 0 0 (1 : Int32) → ((S1 21 0 0) = 0 → vp_in x1 24 ∧ Q (.inl (some (S1 29 0 x1.toNatClampNeg))) S1) ∧ (¬ (S1 21 0 0) = 0 → Q (.inl (some (0 : Int32))) S1))) ∧ (¬ x1 < 0 → (x1 < (S 21 0 12) → (∀ S2 : ab_S, S2 = ab_su S 21 0 0 (0 : Int32) → ((S2 21 0 0) = 0 → vp_in x1 24 ∧ Q (.inl (some (S2 29 0 x1.toNatClampNeg))) S2) ∧ (¬ (S2 21 0 0) = 0 → Q (.inl (some (0 : Int32))) S2))) ∧ (¬ x1 < (S 21 0 12) → (∀ S3 : ab_S, S3 = ab_su S 21 0 0 (1 : Int32) → ((S3 21 0 0) = 0 → vp_in x1 24 ∧ Q (.inl (some (S3 29 0 x1.toNatClampNeg))) S3) ∧ (¬ (S3 21 0 0) = 0 → Q (.inl (some (0 : Int32))) S3))))) : G 0 [some (.inr (21, 0)), some (.inl x1)] [] S 0 := by
  refine ab_aload_n' hG 0 _ _ _ _ 0 _ dX6_conflict_0 rfl ?_
  refine ab_iload_n' hG 1 _ _ _ _ 1 _ dX6_conflict_1 rfl ?_
  refine ab_if_lt' hG 2 _ _ _ _ (11) 13 _ dX6_conflict_2 (by decide) (fun hc => ?_) (fun hc => ?_)
  · have h := h.1 hc
    refine ab_iconst' hG 13 _ _ _ _ 1 1 dX6_conflict_13 (by decide) ?_
    refine ab_goto' hG 14 _ _ _ _ (4) 18 dX6_conflict_14 (by decide) ?_
    refine ab_putfield' hG 18 _ _ _ _ 82 21 0 0 _ dX6_conflict_18 (List.Mem.head _) ?_
    have h := h _ rfl
    refine ab_aload_n' hG 21 _ _ _ _ 0 _ dX6_conflict_21 rfl ?_
    refine ab_gI hG 22 _ _ _ _ 82 21 0 0 dX6_conflict_22 (List.Mem.tail _ (List.Mem.head _)) rfl ?_
    refine ab_if_ne' hG 25 _ _ _ _ (12) 37 _ dX6_conflict_25 (by decide) (fun hc => ?_) (fun hc => ?_)
    · have h := h.2 hc
      refine ab_iconst' hG 37 _ _ _ _ 0 0 dX6_conflict_37 (by decide) ?_
      exact ab_ireturn' hG 38 _ _ _ _ dX6_conflict_38 (Or.inl rfl) (by decide) h
    · have h := h.1 hc
      refine ab_aload_n' hG 28 _ _ _ _ 0 _ dX6_conflict_28 rfl ?_
      refine ab_gR hG 29 _ _ _ _ 42 21 13 0 (29, 0) dX6_conflict_29 (List.Mem.tail _ (List.Mem.tail _ (List.Mem.head _))) rfl ?_
      refine ab_iload_n' hG 32 _ _ _ _ 1 _ dX6_conflict_32 rfl ?_
      refine ab_iaload' hG 33 _ _ _ _ 29 0 24 _ dX6_conflict_33 rfl h.1 ?_
      have h := h.2
      refine ab_goto' hG 34 _ _ _ _ (4) 38 dX6_conflict_34 (by decide) ?_
      exact ab_ireturn' hG 38 _ _ _ _ dX6_conflict_38 (Or.inl rfl) (by decide) h
  · have h := h.2 hc
    refine ab_iload_n' hG 5 _ _ _ _ 1 _ dX6_conflict_5 rfl ?_
    refine ab_aload_n' hG 6 _ _ _ _ 0 _ dX6_conflict_6 rfl ?_
    refine ab_gI hG 7 _ _ _ _ 165 21 12 0 dX6_conflict_7 (List.Mem.head _) rfl ?_
    refine ab_icmp_lt' hG 10 _ _ _ _ (7) 17 _ _ dX6_conflict_10 (by decide) (fun hc => ?_) (fun hc => ?_)
    · have h := h.1 hc
      refine ab_iconst' hG 17 _ _ _ _ 0 0 dX6_conflict_17 (by decide) ?_
      refine ab_putfield' hG 18 _ _ _ _ 82 21 0 0 _ dX6_conflict_18 (List.Mem.head _) ?_
      have h := h _ rfl
      refine ab_aload_n' hG 21 _ _ _ _ 0 _ dX6_conflict_21 rfl ?_
      refine ab_gI hG 22 _ _ _ _ 82 21 0 0 dX6_conflict_22 (List.Mem.tail _ (List.Mem.head _)) rfl ?_
      refine ab_if_ne' hG 25 _ _ _ _ (12) 37 _ dX6_conflict_25 (by decide) (fun hc => ?_) (fun hc => ?_)
      · have h := h.2 hc
        refine ab_iconst' hG 37 _ _ _ _ 0 0 dX6_conflict_37 (by decide) ?_
        exact ab_ireturn' hG 38 _ _ _ _ dX6_conflict_38 (Or.inl rfl) (by decide) h
      · have h := h.1 hc
        refine ab_aload_n' hG 28 _ _ _ _ 0 _ dX6_conflict_28 rfl ?_
        refine ab_gR hG 29 _ _ _ _ 42 21 13 0 (29, 0) dX6_conflict_29 (List.Mem.tail _ (List.Mem.tail _ (List.Mem.head _))) rfl ?_
        refine ab_iload_n' hG 32 _ _ _ _ 1 _ dX6_conflict_32 rfl ?_
        refine ab_iaload' hG 33 _ _ _ _ 29 0 24 _ dX6_conflict_33 rfl h.1 ?_
        have h := h.2
        refine ab_goto' hG 34 _ _ _ _ (4) 38 dX6_conflict_34 (by decide) ?_
        exact ab_ireturn' hG 38 _ _ _ _ dX6_conflict_38 (Or.inl rfl) (by decide) h
    · have h := h.2 hc
      refine ab_iconst' hG 13 _ _ _ _ 1 1 dX6_conflict_13 (by decide) ?_
      refine ab_goto' hG 14 _ _ _ _ (4) 18 dX6_conflict_14 (by decide) ?_
      refine ab_putfield' hG 18 _ _ _ _ 82 21 0 0 _ dX6_conflict_18 (List.Mem.head _) ?_
      have h := h _ rfl
      refine ab_aload_n' hG 21 _ _ _ _ 0 _ dX6_conflict_21 rfl ?_
      refine ab_gI hG 22 _ _ _ _ 82 21 0 0 dX6_conflict_22 (List.Mem.tail _ (List.Mem.head _)) rfl ?_
      refine ab_if_ne' hG 25 _ _ _ _ (12) 37 _ dX6_conflict_25 (by decide) (fun hc => ?_) (fun hc => ?_)
      · have h := h.2 hc
        refine ab_iconst' hG 37 _ _ _ _ 0 0 dX6_conflict_37 (by decide) ?_
        exact ab_ireturn' hG 38 _ _ _ _ dX6_conflict_38 (Or.inl rfl) (by decide) h
      · have h := h.1 hc
        refine ab_aload_n' hG 28 _ _ _ _ 0 _ dX6_conflict_28 rfl ?_
        refine ab_gR hG 29 _ _ _ _ 42 21 13 0 (29, 0) dX6_conflict_29 (List.Mem.tail _ (List.Mem.tail _ (List.Mem.head _))) rfl ?_
        refine ab_iload_n' hG 32 _ _ _ _ 1 _ dX6_conflict_32 rfl ?_
        refine ab_iaload' hG 33 _ _ _ _ 29 0 24 _ dX6_conflict_33 rfl h.1 ?_
        have h := h.2
        refine ab_goto' hG 34 _ _ _ _ (4) 38 dX6_conflict_34 (by decide) ?_
        exact ab_ireturn' hG 38 _ _ _ _ dX6_conflict_38 (Or.inl rfl) (by decide) h
theorem bl_X6_numberOf_0 {Q : ab_Po} {G : ab_Gt} (hG : ab_Cl M_X6_numberOf Q G) (x1 : Int32) (S : ab_S) (h : Sp_X6_walk [(.inr (21, 0)), (.inl (12 : Int32))] S (ab_back Q G 6 [some (.inr (21, 0)), some (.inl x1), none] [] 0)) : G 0 [some (.inr (21, 0)), some (.inl x1), none] [] S 0 := by
  refine ab_aload_n' hG 0 _ _ _ _ 0 _ dX6_numberOf_0 rfl ?_
  refine ab_bipush' hG 1 _ _ _ _ 12 12 dX6_numberOf_1 (by decide) ?_
  exact ab_invv' hG 3 _ [_] _ _ 0 114 _ 1 0 0 _ (21, _) dX6_numberOf_3 rfl rfl rfl rfl (Nat.le_of_ble_eq_true rfl) (Nat.le_of_ble_eq_true rfl) h
theorem bl_X6_numberOf_6 {Q : ab_Po} {G : ab_Gt} (hG : ab_Cl M_X6_numberOf Q G) (x1 : Int32) (S : ab_S) (h : G 8 [some (.inr (21, 0)), some (.inl x1), some (.inl (0 : Int32))] [] S 0) : G 6 [some (.inr (21, 0)), some (.inl x1), none] [] S 0 := by
  refine ab_iconst' hG 6 _ _ _ _ 0 0 dX6_numberOf_6 (by decide) ?_
  refine ab_istore_n' hG 7 _ _ _ _ 2 _ dX6_numberOf_7 (Nat.le_of_ble_eq_true rfl) ?_
  exact h
theorem bl_X6_numberOf_8 {Q : ab_Po} {G : ab_Gt} (hG : ab_Cl M_X6_numberOf Q G) (x1 : Int32) (x2 : Int32) (S : ab_S) (h : vp_in x2 24 ∧ ((S 34 0 x2.toNatClampNeg) = x1 → Q (.inl (some x2)) S) ∧ (¬ (S 34 0 x2.toNatClampNeg) = x1 → G 8 [some (.inr (21, 0)), some (.inl x1), some (.inl (x2 + 1))] [] S 0)) : G 8 [some (.inr (21, 0)), some (.inl x1), some (.inl x2)] [] S 0 := by
  refine ab_aload_n' hG 8 _ _ _ _ 0 _ dX6_numberOf_8 rfl ?_
  refine ab_gR hG 9 _ _ _ _ 57 21 19 0 (34, 0) dX6_numberOf_9 (List.Mem.head _) rfl ?_
  refine ab_iload_n' hG 12 _ _ _ _ 2 _ dX6_numberOf_12 rfl ?_
  refine ab_iaload' hG 13 _ _ _ _ 34 0 24 _ dX6_numberOf_13 rfl h.1 ?_
  have h := h.2
  refine ab_iload_n' hG 14 _ _ _ _ 1 _ dX6_numberOf_14 rfl ?_
  refine ab_icmp_eq' hG 15 _ _ _ _ (9) 24 _ _ dX6_numberOf_15 (by decide) (fun hc => ?_) (fun hc => ?_)
  · have h := h.1 hc
    refine ab_iload_n' hG 24 _ _ _ _ 2 _ dX6_numberOf_24 rfl ?_
    exact ab_ireturn' hG 25 _ _ _ _ dX6_numberOf_25 (Or.inl rfl) (by decide) h
  · have h := h.2 hc
    refine ab_iinc' hG 18 _ _ _ _ 2 1 _ _ dX6_numberOf_18 rfl rfl ?_
    refine ab_goto' hG 21 _ _ _ _ (-13) 8 dX6_numberOf_21 (by decide) ?_
    exact h
theorem bl_X6_about_0 {Q : ab_Po} {G : ab_Gt} (hG : ab_Cl M_X6_about Q G) (x1 : Int32) (x2 : Int32) (S : ab_S) (h : Sp_X6_has [(.inr (21, 0)), (.inl (12 : Int32)), (.inl x1)] S (ab_back Q G 8 [some (.inr (21, 0)), some (.inl x1), some (.inl x2)] [(.inr (21, 0))] 0)) : G 0 [some (.inr (21, 0)), some (.inl x1), some (.inl x2)] [] S 0 := by
  refine ab_aload_n' hG 0 _ _ _ _ 0 _ dX6_about_0 rfl ?_
  refine ab_aload_n' hG 1 _ _ _ _ 0 _ dX6_about_1 rfl ?_
  refine ab_bipush' hG 2 _ _ _ _ 12 12 dX6_about_2 (by decide) ?_
  refine ab_iload_n' hG 4 _ _ _ _ 1 _ dX6_about_4 rfl ?_
  exact ab_invv' hG 5 _ [_, _] _ _ 0 107 _ 2 1 0 _ (21, _) dX6_about_5 rfl rfl rfl rfl (Nat.le_of_ble_eq_true rfl) (Nat.le_of_ble_eq_true rfl) h
theorem bl_X6_about_8 {Q : ab_Po} {G : ab_Gt} (hG : ab_Cl M_X6_about Q G) (x1 : Int32) (x2 : Int32) (xs0 : Int32) (S : ab_S) (h : (xs0 = 0 → (∀ S4 : ab_S, S4 = ab_su S 21 0 0 (1 : Int32) → ((S4 21 0 0) ≤ 0 → (x2 = 0 → vp_in ((288 : Int32) + x1) 336 ∧ Q (.inl (some (S4 23 0 ((288 : Int32) + x1).toNatClampNeg))) S4) ∧ (¬ x2 = 0 → (x2 = (1 : Int32) → vp_in ((288 : Int32) + x1) 336 ∧ Q (.inl (some (S4 24 0 ((288 : Int32) + x1).toNatClampNeg))) S4) ∧ (¬ x2 = (1 : Int32) → (x2 = (2 : Int32) → Sp_X6_children [(.inr (21, 0)), (.inl (12 : Int32)), (.inl x1)] S4 (ab_back Q G 88 [some (.inr (21, 0)), some (.inl x1), some (.inl x2)] [] 0)) ∧ (¬ x2 = (2 : Int32) → Sp_X6_numberOf [(.inr (21, 0)), (.inl x1)] S4 (ab_back Q G 96 [some (.inr (21, 0)), some (.inl x1), some (.inl x2)] [] 0))))) ∧ (¬ (S4 21 0 0) ≤ 0 → Q (.inl (some (0 : Int32))) S4))) ∧ (¬ xs0 = 0 → (x2 < 0 → (∀ S1 : ab_S, S1 = ab_su S 21 0 0 (2 : Int32) → ((S1 21 0 0) ≤ 0 → (x2 = 0 → vp_in ((288 : Int32) + x1) 336 ∧ Q (.inl (some (S1 23 0 ((288 : Int32) + x1).toNatClampNeg))) S1) ∧ (¬ x2 = 0 → (x2 = (1 : Int32) → vp_in ((288 : Int32) + x1) 336 ∧ Q (.inl (some (S1 24 0 ((288 : Int32) + x1).toNatClampNeg))) S1) ∧ (¬ x2 = (1 : Int32) → (x2 = (2 : Int32) → Sp_X6_children [(.inr (21, 0)), (.inl (12 : Int32)), (.inl x1)] S1 (ab_back Q G 88 [some (.inr (21, 0)), some (.inl x1), some (.inl x2)] [] 0)) ∧ (¬ x2 = (2 : Int32) → Sp_X6_numberOf [(.inr (21, 0)), (.inl x1)] S1 (ab_back Q G 96 [some (.inr (21, 0)), some (.inl x1), some (.inl x2)] [] 0))))) ∧ (¬ (S1 21 0 0) ≤ 0 → Q (.inl (some (0 : Int32))) S1))) ∧ (¬ x2 < 0 → (x2 ≤ (3 : Int32) → (∀ S2 : ab_S, S2 = ab_su S 21 0 0 (0 : Int32) → ((S2 21 0 0) ≤ 0 → (x2 = 0 → vp_in ((288 : Int32) + x1) 336 ∧ Q (.inl (some (S2 23 0 ((288 : Int32) + x1).toNatClampNeg))) S2) ∧ (¬ x2 = 0 → (x2 = (1 : Int32) → vp_in ((288 : Int32) + x1) 336 ∧ Q (.inl (some (S2 24 0 ((288 : Int32) + x1).toNatClampNeg))) S2) ∧ (¬ x2 = (1 : Int32) → (x2 = (2 : Int32) → Sp_X6_children [(.inr (21, 0)), (.inl (12 : Int32)), (.inl x1)] S2 (ab_back Q G 88 [some (.inr (21, 0)), some (.inl x1), some (.inl x2)] [] 0)) ∧ (¬ x2 = (2 : Int32) → Sp_X6_numberOf [(.inr (21, 0)), (.inl x1)] S2 (ab_back Q G 96 [some (.inr (21, 0)), some (.inl x1), some (.inl x2)] [] 0))))) ∧ (¬ (S2 21 0 0) ≤ 0 → Q (.inl (some (0 : Int32))) S2))) ∧ (¬ x2 ≤ (3 : Int32) → (∀ S3 : ab_S, S3 = ab_su S 21 0 0 (2 : Int32) → ((S3 21 0 0) ≤ 0 → (x2 = 0 → vp_in ((288 : Int32) + x1) 336 ∧ Q (.inl (some (S3 23 0 ((288 : Int32) + x1).toNatClampNeg))) S3) ∧ (¬ x2 = 0 → (x2 = (1 : Int32) → vp_in ((288 : Int32) + x1) 336 ∧ Q (.inl (some (S3 24 0 ((288 : Int32) + x1).toNatClampNeg))) S3) ∧ (¬ x2 = (1 : Int32) → (x2 = (2 : Int32) → Sp_X6_children [(.inr (21, 0)), (.inl (12 : Int32)), (.inl x1)] S3 (ab_back Q G 88 [some (.inr (21, 0)), some (.inl x1), some (.inl x2)] [] 0)) ∧ (¬ x2 = (2 : Int32) → Sp_X6_numberOf [(.inr (21, 0)), (.inl x1)] S3 (ab_back Q G 96 [some (.inr (21, 0)), some (.inl x1), some (.inl x2)] [] 0))))) ∧ (¬ (S3 21 0 0) ≤ 0 → Q (.inl (some (0 : Int32))) S3)))))) : G 8 [some (.inr (21, 0)), some (.inl x1), some (.inl x2)] [(.inl xs0), (.inr (21, 0))] S 0 := by
  refine ab_if_ne' hG 8 _ _ _ _ (7) 15 _ dX6_about_8 (by decide) (fun hc => ?_) (fun hc => ?_)
  · have h := h.2 hc
    refine ab_iload_n' hG 15 _ _ _ _ 2 _ dX6_about_15 rfl ?_
    refine ab_if_lt' hG 16 _ _ _ _ (8) 24 _ dX6_about_16 (by decide) (fun hc => ?_) (fun hc => ?_)
    · have h := h.1 hc
      refine ab_iconst' hG 24 _ _ _ _ 2 2 dX6_about_24 (by decide) ?_
      refine ab_goto' hG 25 _ _ _ _ (4) 29 dX6_about_25 (by decide) ?_
      refine ab_putfield' hG 29 _ _ _ _ 82 21 0 0 _ dX6_about_29 (List.Mem.head _) ?_
      have h := h _ rfl
      refine ab_aload_n' hG 32 _ _ _ _ 0 _ dX6_about_32 rfl ?_
      refine ab_gI hG 33 _ _ _ _ 82 21 0 0 dX6_about_33 (List.Mem.head _) rfl ?_
      refine ab_if_le' hG 36 _ _ _ _ (5) 41 _ dX6_about_36 (by decide) (fun hc => ?_) (fun hc => ?_)
      · have h := h.1 hc
        refine ab_iload_n' hG 41 _ _ _ _ 2 _ dX6_about_41 rfl ?_
        refine ab_if_ne' hG 42 _ _ _ _ (16) 58 _ dX6_about_42 (by decide) (fun hc => ?_) (fun hc => ?_)
        · have h := h.2 hc
          refine ab_iload_n' hG 58 _ _ _ _ 2 _ dX6_about_58 rfl ?_
          refine ab_iconst' hG 59 _ _ _ _ 1 1 dX6_about_59 (by decide) ?_
          refine ab_icmp_ne' hG 60 _ _ _ _ (16) 76 _ _ dX6_about_60 (by decide) (fun hc => ?_) (fun hc => ?_)
          · have h := h.2 hc
            refine ab_iload_n' hG 76 _ _ _ _ 2 _ dX6_about_76 rfl ?_
            refine ab_iconst' hG 77 _ _ _ _ 2 2 dX6_about_77 (by decide) ?_
            refine ab_icmp_ne' hG 78 _ _ _ _ (13) 91 _ _ dX6_about_78 (by decide) (fun hc => ?_) (fun hc => ?_)
            · have h := h.2 hc
              refine ab_aload_n' hG 91 _ _ _ _ 0 _ dX6_about_91 rfl ?_
              refine ab_iload_n' hG 92 _ _ _ _ 1 _ dX6_about_92 rfl ?_
              exact ab_invv' hG 93 _ [_] _ _ 0 171 _ 1 1 0 _ (21, _) dX6_about_93 rfl rfl rfl rfl (Nat.le_of_ble_eq_true rfl) (Nat.le_of_ble_eq_true rfl) h
            · have h := h.1 hc
              refine ab_aload_n' hG 81 _ _ _ _ 0 _ dX6_about_81 rfl ?_
              refine ab_bipush' hG 82 _ _ _ _ 12 12 dX6_about_82 (by decide) ?_
              refine ab_iload_n' hG 84 _ _ _ _ 1 _ dX6_about_84 rfl ?_
              exact ab_invv' hG 85 _ [_, _] _ _ 0 99 _ 2 1 0 _ (21, _) dX6_about_85 rfl rfl rfl rfl (Nat.le_of_ble_eq_true rfl) (Nat.le_of_ble_eq_true rfl) h
          · have h := h.1 hc
            refine ab_aload_n' hG 63 _ _ _ _ 0 _ dX6_about_63 rfl ?_
            refine ab_gR hG 64 _ _ _ _ 17 21 3 0 (24, 0) dX6_about_64 (List.Mem.tail _ (List.Mem.tail _ (List.Mem.head _))) rfl ?_
            refine ab_sipush' hG 67 _ _ _ _ 288 288 dX6_about_67 (by decide) ?_
            refine ab_iload_n' hG 70 _ _ _ _ 1 _ dX6_about_70 rfl ?_
            refine ab_iadd' hG 71 _ _ _ _ _ _ dX6_about_71 ?_
            refine ab_iaload' hG 72 _ _ _ _ 24 0 336 _ dX6_about_72 rfl h.1 ?_
            have h := h.2
            refine ab_goto' hG 73 _ _ _ _ (23) 96 dX6_about_73 (by decide) ?_
            exact ab_ireturn' hG 96 _ _ _ _ dX6_about_96 (Or.inl rfl) (by decide) h
        · have h := h.1 hc
          refine ab_aload_n' hG 45 _ _ _ _ 0 _ dX6_about_45 rfl ?_
          refine ab_gR hG 46 _ _ _ _ 13 21 2 0 (23, 0) dX6_about_46 (List.Mem.tail _ (List.Mem.head _)) rfl ?_
          refine ab_sipush' hG 49 _ _ _ _ 288 288 dX6_about_49 (by decide) ?_
          refine ab_iload_n' hG 52 _ _ _ _ 1 _ dX6_about_52 rfl ?_
          refine ab_iadd' hG 53 _ _ _ _ _ _ dX6_about_53 ?_
          refine ab_iaload' hG 54 _ _ _ _ 23 0 336 _ dX6_about_54 rfl h.1 ?_
          have h := h.2
          refine ab_goto' hG 55 _ _ _ _ (41) 96 dX6_about_55 (by decide) ?_
          exact ab_ireturn' hG 96 _ _ _ _ dX6_about_96 (Or.inl rfl) (by decide) h
      · have h := h.2 hc
        refine ab_iconst' hG 39 _ _ _ _ 0 0 dX6_about_39 (by decide) ?_
        exact ab_ireturn' hG 40 _ _ _ _ dX6_about_40 (Or.inl rfl) (by decide) h
    · have h := h.2 hc
      refine ab_iload_n' hG 19 _ _ _ _ 2 _ dX6_about_19 rfl ?_
      refine ab_iconst' hG 20 _ _ _ _ 3 3 dX6_about_20 (by decide) ?_
      refine ab_icmp_le' hG 21 _ _ _ _ (7) 28 _ _ dX6_about_21 (by decide) (fun hc => ?_) (fun hc => ?_)
      · have h := h.1 hc
        refine ab_iconst' hG 28 _ _ _ _ 0 0 dX6_about_28 (by decide) ?_
        refine ab_putfield' hG 29 _ _ _ _ 82 21 0 0 _ dX6_about_29 (List.Mem.head _) ?_
        have h := h _ rfl
        refine ab_aload_n' hG 32 _ _ _ _ 0 _ dX6_about_32 rfl ?_
        refine ab_gI hG 33 _ _ _ _ 82 21 0 0 dX6_about_33 (List.Mem.head _) rfl ?_
        refine ab_if_le' hG 36 _ _ _ _ (5) 41 _ dX6_about_36 (by decide) (fun hc => ?_) (fun hc => ?_)
        · have h := h.1 hc
          refine ab_iload_n' hG 41 _ _ _ _ 2 _ dX6_about_41 rfl ?_
          refine ab_if_ne' hG 42 _ _ _ _ (16) 58 _ dX6_about_42 (by decide) (fun hc => ?_) (fun hc => ?_)
          · have h := h.2 hc
            refine ab_iload_n' hG 58 _ _ _ _ 2 _ dX6_about_58 rfl ?_
            refine ab_iconst' hG 59 _ _ _ _ 1 1 dX6_about_59 (by decide) ?_
            refine ab_icmp_ne' hG 60 _ _ _ _ (16) 76 _ _ dX6_about_60 (by decide) (fun hc => ?_) (fun hc => ?_)
            · have h := h.2 hc
              refine ab_iload_n' hG 76 _ _ _ _ 2 _ dX6_about_76 rfl ?_
              refine ab_iconst' hG 77 _ _ _ _ 2 2 dX6_about_77 (by decide) ?_
              refine ab_icmp_ne' hG 78 _ _ _ _ (13) 91 _ _ dX6_about_78 (by decide) (fun hc => ?_) (fun hc => ?_)
              · have h := h.2 hc
                refine ab_aload_n' hG 91 _ _ _ _ 0 _ dX6_about_91 rfl ?_
                refine ab_iload_n' hG 92 _ _ _ _ 1 _ dX6_about_92 rfl ?_
                exact ab_invv' hG 93 _ [_] _ _ 0 171 _ 1 1 0 _ (21, _) dX6_about_93 rfl rfl rfl rfl (Nat.le_of_ble_eq_true rfl) (Nat.le_of_ble_eq_true rfl) h
              · have h := h.1 hc
                refine ab_aload_n' hG 81 _ _ _ _ 0 _ dX6_about_81 rfl ?_
                refine ab_bipush' hG 82 _ _ _ _ 12 12 dX6_about_82 (by decide) ?_
                refine ab_iload_n' hG 84 _ _ _ _ 1 _ dX6_about_84 rfl ?_
                exact ab_invv' hG 85 _ [_, _] _ _ 0 99 _ 2 1 0 _ (21, _) dX6_about_85 rfl rfl rfl rfl (Nat.le_of_ble_eq_true rfl) (Nat.le_of_ble_eq_true rfl) h
            · have h := h.1 hc
              refine ab_aload_n' hG 63 _ _ _ _ 0 _ dX6_about_63 rfl ?_
              refine ab_gR hG 64 _ _ _ _ 17 21 3 0 (24, 0) dX6_about_64 (List.Mem.tail _ (List.Mem.tail _ (List.Mem.head _))) rfl ?_
              refine ab_sipush' hG 67 _ _ _ _ 288 288 dX6_about_67 (by decide) ?_
              refine ab_iload_n' hG 70 _ _ _ _ 1 _ dX6_about_70 rfl ?_
              refine ab_iadd' hG 71 _ _ _ _ _ _ dX6_about_71 ?_
              refine ab_iaload' hG 72 _ _ _ _ 24 0 336 _ dX6_about_72 rfl h.1 ?_
              have h := h.2
              refine ab_goto' hG 73 _ _ _ _ (23) 96 dX6_about_73 (by decide) ?_
              exact ab_ireturn' hG 96 _ _ _ _ dX6_about_96 (Or.inl rfl) (by decide) h
          · have h := h.1 hc
            refine ab_aload_n' hG 45 _ _ _ _ 0 _ dX6_about_45 rfl ?_
            refine ab_gR hG 46 _ _ _ _ 13 21 2 0 (23, 0) dX6_about_46 (List.Mem.tail _ (List.Mem.head _)) rfl ?_
            refine ab_sipush' hG 49 _ _ _ _ 288 288 dX6_about_49 (by decide) ?_
            refine ab_iload_n' hG 52 _ _ _ _ 1 _ dX6_about_52 rfl ?_
            refine ab_iadd' hG 53 _ _ _ _ _ _ dX6_about_53 ?_
            refine ab_iaload' hG 54 _ _ _ _ 23 0 336 _ dX6_about_54 rfl h.1 ?_
            have h := h.2
            refine ab_goto' hG 55 _ _ _ _ (41) 96 dX6_about_55 (by decide) ?_
            exact ab_ireturn' hG 96 _ _ _ _ dX6_about_96 (Or.inl rfl) (by decide) h
        · have h := h.2 hc
          refine ab_iconst' hG 39 _ _ _ _ 0 0 dX6_about_39 (by decide) ?_
          exact ab_ireturn' hG 40 _ _ _ _ dX6_about_40 (Or.inl rfl) (by decide) h
      · have h := h.2 hc
        refine ab_iconst' hG 24 _ _ _ _ 2 2 dX6_about_24 (by decide) ?_
        refine ab_goto' hG 25 _ _ _ _ (4) 29 dX6_about_25 (by decide) ?_
        refine ab_putfield' hG 29 _ _ _ _ 82 21 0 0 _ dX6_about_29 (List.Mem.head _) ?_
        have h := h _ rfl
        refine ab_aload_n' hG 32 _ _ _ _ 0 _ dX6_about_32 rfl ?_
        refine ab_gI hG 33 _ _ _ _ 82 21 0 0 dX6_about_33 (List.Mem.head _) rfl ?_
        refine ab_if_le' hG 36 _ _ _ _ (5) 41 _ dX6_about_36 (by decide) (fun hc => ?_) (fun hc => ?_)
        · have h := h.1 hc
          refine ab_iload_n' hG 41 _ _ _ _ 2 _ dX6_about_41 rfl ?_
          refine ab_if_ne' hG 42 _ _ _ _ (16) 58 _ dX6_about_42 (by decide) (fun hc => ?_) (fun hc => ?_)
          · have h := h.2 hc
            refine ab_iload_n' hG 58 _ _ _ _ 2 _ dX6_about_58 rfl ?_
            refine ab_iconst' hG 59 _ _ _ _ 1 1 dX6_about_59 (by decide) ?_
            refine ab_icmp_ne' hG 60 _ _ _ _ (16) 76 _ _ dX6_about_60 (by decide) (fun hc => ?_) (fun hc => ?_)
            · have h := h.2 hc
              refine ab_iload_n' hG 76 _ _ _ _ 2 _ dX6_about_76 rfl ?_
              refine ab_iconst' hG 77 _ _ _ _ 2 2 dX6_about_77 (by decide) ?_
              refine ab_icmp_ne' hG 78 _ _ _ _ (13) 91 _ _ dX6_about_78 (by decide) (fun hc => ?_) (fun hc => ?_)
              · have h := h.2 hc
                refine ab_aload_n' hG 91 _ _ _ _ 0 _ dX6_about_91 rfl ?_
                refine ab_iload_n' hG 92 _ _ _ _ 1 _ dX6_about_92 rfl ?_
                exact ab_invv' hG 93 _ [_] _ _ 0 171 _ 1 1 0 _ (21, _) dX6_about_93 rfl rfl rfl rfl (Nat.le_of_ble_eq_true rfl) (Nat.le_of_ble_eq_true rfl) h
              · have h := h.1 hc
                refine ab_aload_n' hG 81 _ _ _ _ 0 _ dX6_about_81 rfl ?_
                refine ab_bipush' hG 82 _ _ _ _ 12 12 dX6_about_82 (by decide) ?_
                refine ab_iload_n' hG 84 _ _ _ _ 1 _ dX6_about_84 rfl ?_
                exact ab_invv' hG 85 _ [_, _] _ _ 0 99 _ 2 1 0 _ (21, _) dX6_about_85 rfl rfl rfl rfl (Nat.le_of_ble_eq_true rfl) (Nat.le_of_ble_eq_true rfl) h
            · have h := h.1 hc
              refine ab_aload_n' hG 63 _ _ _ _ 0 _ dX6_about_63 rfl ?_
              refine ab_gR hG 64 _ _ _ _ 17 21 3 0 (24, 0) dX6_about_64 (List.Mem.tail _ (List.Mem.tail _ (List.Mem.head _))) rfl ?_
              refine ab_sipush' hG 67 _ _ _ _ 288 288 dX6_about_67 (by decide) ?_
              refine ab_iload_n' hG 70 _ _ _ _ 1 _ dX6_about_70 rfl ?_
              refine ab_iadd' hG 71 _ _ _ _ _ _ dX6_about_71 ?_
              refine ab_iaload' hG 72 _ _ _ _ 24 0 336 _ dX6_about_72 rfl h.1 ?_
              have h := h.2
              refine ab_goto' hG 73 _ _ _ _ (23) 96 dX6_about_73 (by decide) ?_
              exact ab_ireturn' hG 96 _ _ _ _ dX6_about_96 (Or.inl rfl) (by decide) h
          · have h := h.1 hc
            refine ab_aload_n' hG 45 _ _ _ _ 0 _ dX6_about_45 rfl ?_
            refine ab_gR hG 46 _ _ _ _ 13 21 2 0 (23, 0) dX6_about_46 (List.Mem.tail _ (List.Mem.head _)) rfl ?_
            refine ab_sipush' hG 49 _ _ _ _ 288 288 dX6_about_49 (by decide) ?_
            refine ab_iload_n' hG 52 _ _ _ _ 1 _ dX6_about_52 rfl ?_
            refine ab_iadd' hG 53 _ _ _ _ _ _ dX6_about_53 ?_
            refine ab_iaload' hG 54 _ _ _ _ 23 0 336 _ dX6_about_54 rfl h.1 ?_
            have h := h.2
            refine ab_goto' hG 55 _ _ _ _ (41) 96 dX6_about_55 (by decide) ?_
            exact ab_ireturn' hG 96 _ _ _ _ dX6_about_96 (Or.inl rfl) (by decide) h
        · have h := h.2 hc
          refine ab_iconst' hG 39 _ _ _ _ 0 0 dX6_about_39 (by decide) ?_
          exact ab_ireturn' hG 40 _ _ _ _ dX6_about_40 (Or.inl rfl) (by decide) h
  · have h := h.1 hc
    refine ab_iconst' hG 11 _ _ _ _ 1 1 dX6_about_11 (by decide) ?_
    refine ab_goto' hG 12 _ _ _ _ (17) 29 dX6_about_12 (by decide) ?_
    refine ab_putfield' hG 29 _ _ _ _ 82 21 0 0 _ dX6_about_29 (List.Mem.head _) ?_
    have h := h _ rfl
    refine ab_aload_n' hG 32 _ _ _ _ 0 _ dX6_about_32 rfl ?_
    refine ab_gI hG 33 _ _ _ _ 82 21 0 0 dX6_about_33 (List.Mem.head _) rfl ?_
    refine ab_if_le' hG 36 _ _ _ _ (5) 41 _ dX6_about_36 (by decide) (fun hc => ?_) (fun hc => ?_)
    · have h := h.1 hc
      refine ab_iload_n' hG 41 _ _ _ _ 2 _ dX6_about_41 rfl ?_
      refine ab_if_ne' hG 42 _ _ _ _ (16) 58 _ dX6_about_42 (by decide) (fun hc => ?_) (fun hc => ?_)
      · have h := h.2 hc
        refine ab_iload_n' hG 58 _ _ _ _ 2 _ dX6_about_58 rfl ?_
        refine ab_iconst' hG 59 _ _ _ _ 1 1 dX6_about_59 (by decide) ?_
        refine ab_icmp_ne' hG 60 _ _ _ _ (16) 76 _ _ dX6_about_60 (by decide) (fun hc => ?_) (fun hc => ?_)
        · have h := h.2 hc
          refine ab_iload_n' hG 76 _ _ _ _ 2 _ dX6_about_76 rfl ?_
          refine ab_iconst' hG 77 _ _ _ _ 2 2 dX6_about_77 (by decide) ?_
          refine ab_icmp_ne' hG 78 _ _ _ _ (13) 91 _ _ dX6_about_78 (by decide) (fun hc => ?_) (fun hc => ?_)
          · have h := h.2 hc
            refine ab_aload_n' hG 91 _ _ _ _ 0 _ dX6_about_91 rfl ?_
            refine ab_iload_n' hG 92 _ _ _ _ 1 _ dX6_about_92 rfl ?_
            exact ab_invv' hG 93 _ [_] _ _ 0 171 _ 1 1 0 _ (21, _) dX6_about_93 rfl rfl rfl rfl (Nat.le_of_ble_eq_true rfl) (Nat.le_of_ble_eq_true rfl) h
          · have h := h.1 hc
            refine ab_aload_n' hG 81 _ _ _ _ 0 _ dX6_about_81 rfl ?_
            refine ab_bipush' hG 82 _ _ _ _ 12 12 dX6_about_82 (by decide) ?_
            refine ab_iload_n' hG 84 _ _ _ _ 1 _ dX6_about_84 rfl ?_
            exact ab_invv' hG 85 _ [_, _] _ _ 0 99 _ 2 1 0 _ (21, _) dX6_about_85 rfl rfl rfl rfl (Nat.le_of_ble_eq_true rfl) (Nat.le_of_ble_eq_true rfl) h
        · have h := h.1 hc
          refine ab_aload_n' hG 63 _ _ _ _ 0 _ dX6_about_63 rfl ?_
          refine ab_gR hG 64 _ _ _ _ 17 21 3 0 (24, 0) dX6_about_64 (List.Mem.tail _ (List.Mem.tail _ (List.Mem.head _))) rfl ?_
          refine ab_sipush' hG 67 _ _ _ _ 288 288 dX6_about_67 (by decide) ?_
          refine ab_iload_n' hG 70 _ _ _ _ 1 _ dX6_about_70 rfl ?_
          refine ab_iadd' hG 71 _ _ _ _ _ _ dX6_about_71 ?_
          refine ab_iaload' hG 72 _ _ _ _ 24 0 336 _ dX6_about_72 rfl h.1 ?_
          have h := h.2
          refine ab_goto' hG 73 _ _ _ _ (23) 96 dX6_about_73 (by decide) ?_
          exact ab_ireturn' hG 96 _ _ _ _ dX6_about_96 (Or.inl rfl) (by decide) h
      · have h := h.1 hc
        refine ab_aload_n' hG 45 _ _ _ _ 0 _ dX6_about_45 rfl ?_
        refine ab_gR hG 46 _ _ _ _ 13 21 2 0 (23, 0) dX6_about_46 (List.Mem.tail _ (List.Mem.head _)) rfl ?_
        refine ab_sipush' hG 49 _ _ _ _ 288 288 dX6_about_49 (by decide) ?_
        refine ab_iload_n' hG 52 _ _ _ _ 1 _ dX6_about_52 rfl ?_
        refine ab_iadd' hG 53 _ _ _ _ _ _ dX6_about_53 ?_
        refine ab_iaload' hG 54 _ _ _ _ 23 0 336 _ dX6_about_54 rfl h.1 ?_
        have h := h.2
        refine ab_goto' hG 55 _ _ _ _ (41) 96 dX6_about_55 (by decide) ?_
        exact ab_ireturn' hG 96 _ _ _ _ dX6_about_96 (Or.inl rfl) (by decide) h
    · have h := h.2 hc
      refine ab_iconst' hG 39 _ _ _ _ 0 0 dX6_about_39 (by decide) ?_
      exact ab_ireturn' hG 40 _ _ _ _ dX6_about_40 (Or.inl rfl) (by decide) h
theorem bl_X6_about_88 {Q : ab_Po} {G : ab_Gt} (hG : ab_Cl M_X6_about Q G) (x1 : Int32) (x2 : Int32) (xs0 : Int32) (S : ab_S) (h : Q (.inl (some xs0)) S) : G 88 [some (.inr (21, 0)), some (.inl x1), some (.inl x2)] [(.inl xs0)] S 0 := by
  refine ab_goto' hG 88 _ _ _ _ (8) 96 dX6_about_88 (by decide) ?_
  exact ab_ireturn' hG 96 _ _ _ _ dX6_about_96 (Or.inl rfl) (by decide) h
theorem bl_X6_about_96 {Q : ab_Po} {G : ab_Gt} (hG : ab_Cl M_X6_about Q G) (x1 : Int32) (x2 : Int32) (xs0 : Int32) (S : ab_S) (h : Q (.inl (some xs0)) S) : G 96 [some (.inr (21, 0)), some (.inl x1), some (.inl x2)] [(.inl xs0)] S 0 := by
  exact ab_ireturn' hG 96 _ _ _ _ dX6_about_96 (Or.inl rfl) (by decide) h
theorem bl_X6_child_0 {Q : ab_Po} {G : ab_Gt} (hG : ab_Cl M_X6_child Q G) (x1 : Int32) (x2 : Int32) (S : ab_S) (h : Sp_X6_has [(.inr (21, 0)), (.inl (12 : Int32)), (.inl x1)] S (ab_back Q G 8 [some (.inr (21, 0)), some (.inl x1), some (.inl x2)] [(.inr (21, 0))] 0)) : G 0 [some (.inr (21, 0)), some (.inl x1), some (.inl x2)] [] S 0 := by
  refine ab_aload_n' hG 0 _ _ _ _ 0 _ dX6_child_0 rfl ?_
  refine ab_aload_n' hG 1 _ _ _ _ 0 _ dX6_child_1 rfl ?_
  refine ab_bipush' hG 2 _ _ _ _ 12 12 dX6_child_2 (by decide) ?_
  refine ab_iload_n' hG 4 _ _ _ _ 1 _ dX6_child_4 rfl ?_
  exact ab_invv' hG 5 _ [_, _] _ _ 0 107 _ 2 1 0 _ (21, _) dX6_child_5 rfl rfl rfl rfl (Nat.le_of_ble_eq_true rfl) (Nat.le_of_ble_eq_true rfl) h
theorem bl_X6_child_8 {Q : ab_Po} {G : ab_Gt} (hG : ab_Cl M_X6_child Q G) (x1 : Int32) (x2 : Int32) (xs0 : Int32) (S : ab_S) (h : (xs0 = 0 → (∀ S2 : ab_S, S2 = ab_su S 21 0 0 (1 : Int32) → ((S2 21 0 0) = 0 → Sp_X6_childAt [(.inr (21, 0)), (.inl (12 : Int32)), (.inl x1), (.inl x2)] S2 (ab_back Q G 53 [some (.inr (21, 0)), some (.inl x1), some (.inl x2)] [] 0)) ∧ (¬ (S2 21 0 0) = 0 → Q (.inl (some (0 : Int32))) S2))) ∧ (¬ xs0 = 0 → (x2 < 0 → (∀ S1 : ab_S, S1 = ab_su S 21 0 0 (2 : Int32) → ((S1 21 0 0) = 0 → Sp_X6_childAt [(.inr (21, 0)), (.inl (12 : Int32)), (.inl x1), (.inl x2)] S1 (ab_back Q G 53 [some (.inr (21, 0)), some (.inl x1), some (.inl x2)] [] 0)) ∧ (¬ (S1 21 0 0) = 0 → Q (.inl (some (0 : Int32))) S1))) ∧ (¬ x2 < 0 → Sp_X6_children [(.inr (21, 0)), (.inl (12 : Int32)), (.inl x1)] S (ab_back Q G 27 [some (.inr (21, 0)), some (.inl x1), some (.inl x2)] [(.inl x2), (.inr (21, 0))] 0)))) : G 8 [some (.inr (21, 0)), some (.inl x1), some (.inl x2)] [(.inl xs0), (.inr (21, 0))] S 0 := by
  refine ab_if_ne' hG 8 _ _ _ _ (7) 15 _ dX6_child_8 (by decide) (fun hc => ?_) (fun hc => ?_)
  · have h := h.2 hc
    refine ab_iload_n' hG 15 _ _ _ _ 2 _ dX6_child_15 rfl ?_
    refine ab_if_lt' hG 16 _ _ _ _ (14) 30 _ dX6_child_16 (by decide) (fun hc => ?_) (fun hc => ?_)
    · have h := h.1 hc
      refine ab_iconst' hG 30 _ _ _ _ 2 2 dX6_child_30 (by decide) ?_
      refine ab_goto' hG 31 _ _ _ _ (4) 35 dX6_child_31 (by decide) ?_
      refine ab_putfield' hG 35 _ _ _ _ 82 21 0 0 _ dX6_child_35 (List.Mem.head _) ?_
      have h := h _ rfl
      refine ab_aload_n' hG 38 _ _ _ _ 0 _ dX6_child_38 rfl ?_
      refine ab_gI hG 39 _ _ _ _ 82 21 0 0 dX6_child_39 (List.Mem.head _) rfl ?_
      refine ab_if_ne' hG 42 _ _ _ _ (14) 56 _ dX6_child_42 (by decide) (fun hc => ?_) (fun hc => ?_)
      · have h := h.2 hc
        refine ab_iconst' hG 56 _ _ _ _ 0 0 dX6_child_56 (by decide) ?_
        exact ab_ireturn' hG 57 _ _ _ _ dX6_child_57 (Or.inl rfl) (by decide) h
      · have h := h.1 hc
        refine ab_aload_n' hG 45 _ _ _ _ 0 _ dX6_child_45 rfl ?_
        refine ab_bipush' hG 46 _ _ _ _ 12 12 dX6_child_46 (by decide) ?_
        refine ab_iload_n' hG 48 _ _ _ _ 1 _ dX6_child_48 rfl ?_
        refine ab_iload_n' hG 49 _ _ _ _ 2 _ dX6_child_49 rfl ?_
        exact ab_invv' hG 50 _ [_, _, _] _ _ 0 103 _ 3 1 0 _ (21, _) dX6_child_50 rfl rfl rfl rfl (Nat.le_of_ble_eq_true rfl) (Nat.le_of_ble_eq_true rfl) h
    · have h := h.2 hc
      refine ab_iload_n' hG 19 _ _ _ _ 2 _ dX6_child_19 rfl ?_
      refine ab_aload_n' hG 20 _ _ _ _ 0 _ dX6_child_20 rfl ?_
      refine ab_bipush' hG 21 _ _ _ _ 12 12 dX6_child_21 (by decide) ?_
      refine ab_iload_n' hG 23 _ _ _ _ 1 _ dX6_child_23 rfl ?_
      exact ab_invv' hG 24 _ [_, _] _ _ 0 99 _ 2 1 0 _ (21, _) dX6_child_24 rfl rfl rfl rfl (Nat.le_of_ble_eq_true rfl) (Nat.le_of_ble_eq_true rfl) h
  · have h := h.1 hc
    refine ab_iconst' hG 11 _ _ _ _ 1 1 dX6_child_11 (by decide) ?_
    refine ab_goto' hG 12 _ _ _ _ (23) 35 dX6_child_12 (by decide) ?_
    refine ab_putfield' hG 35 _ _ _ _ 82 21 0 0 _ dX6_child_35 (List.Mem.head _) ?_
    have h := h _ rfl
    refine ab_aload_n' hG 38 _ _ _ _ 0 _ dX6_child_38 rfl ?_
    refine ab_gI hG 39 _ _ _ _ 82 21 0 0 dX6_child_39 (List.Mem.head _) rfl ?_
    refine ab_if_ne' hG 42 _ _ _ _ (14) 56 _ dX6_child_42 (by decide) (fun hc => ?_) (fun hc => ?_)
    · have h := h.2 hc
      refine ab_iconst' hG 56 _ _ _ _ 0 0 dX6_child_56 (by decide) ?_
      exact ab_ireturn' hG 57 _ _ _ _ dX6_child_57 (Or.inl rfl) (by decide) h
    · have h := h.1 hc
      refine ab_aload_n' hG 45 _ _ _ _ 0 _ dX6_child_45 rfl ?_
      refine ab_bipush' hG 46 _ _ _ _ 12 12 dX6_child_46 (by decide) ?_
      refine ab_iload_n' hG 48 _ _ _ _ 1 _ dX6_child_48 rfl ?_
      refine ab_iload_n' hG 49 _ _ _ _ 2 _ dX6_child_49 rfl ?_
      exact ab_invv' hG 50 _ [_, _, _] _ _ 0 103 _ 3 1 0 _ (21, _) dX6_child_50 rfl rfl rfl rfl (Nat.le_of_ble_eq_true rfl) (Nat.le_of_ble_eq_true rfl) h
theorem bl_X6_child_27 {Q : ab_Po} {G : ab_Gt} (hG : ab_Cl M_X6_child Q G) (x1 : Int32) (x2 : Int32) (xs0 : Int32) (xs1 : Int32) (S : ab_S) (h : (xs1 < xs0 → (∀ S1 : ab_S, S1 = ab_su S 21 0 0 (0 : Int32) → ((S1 21 0 0) = 0 → Sp_X6_childAt [(.inr (21, 0)), (.inl (12 : Int32)), (.inl x1), (.inl x2)] S1 (ab_back Q G 53 [some (.inr (21, 0)), some (.inl x1), some (.inl x2)] [] 0)) ∧ (¬ (S1 21 0 0) = 0 → Q (.inl (some (0 : Int32))) S1))) ∧ (¬ xs1 < xs0 → (∀ S2 : ab_S, S2 = ab_su S 21 0 0 (2 : Int32) → ((S2 21 0 0) = 0 → Sp_X6_childAt [(.inr (21, 0)), (.inl (12 : Int32)), (.inl x1), (.inl x2)] S2 (ab_back Q G 53 [some (.inr (21, 0)), some (.inl x1), some (.inl x2)] [] 0)) ∧ (¬ (S2 21 0 0) = 0 → Q (.inl (some (0 : Int32))) S2)))) : G 27 [some (.inr (21, 0)), some (.inl x1), some (.inl x2)] [(.inl xs0), (.inl xs1), (.inr (21, 0))] S 0 := by
  refine ab_icmp_lt' hG 27 _ _ _ _ (7) 34 _ _ dX6_child_27 (by decide) (fun hc => ?_) (fun hc => ?_)
  · have h := h.1 hc
    refine ab_iconst' hG 34 _ _ _ _ 0 0 dX6_child_34 (by decide) ?_
    refine ab_putfield' hG 35 _ _ _ _ 82 21 0 0 _ dX6_child_35 (List.Mem.head _) ?_
    have h := h _ rfl
    refine ab_aload_n' hG 38 _ _ _ _ 0 _ dX6_child_38 rfl ?_
    refine ab_gI hG 39 _ _ _ _ 82 21 0 0 dX6_child_39 (List.Mem.head _) rfl ?_
    refine ab_if_ne' hG 42 _ _ _ _ (14) 56 _ dX6_child_42 (by decide) (fun hc => ?_) (fun hc => ?_)
    · have h := h.2 hc
      refine ab_iconst' hG 56 _ _ _ _ 0 0 dX6_child_56 (by decide) ?_
      exact ab_ireturn' hG 57 _ _ _ _ dX6_child_57 (Or.inl rfl) (by decide) h
    · have h := h.1 hc
      refine ab_aload_n' hG 45 _ _ _ _ 0 _ dX6_child_45 rfl ?_
      refine ab_bipush' hG 46 _ _ _ _ 12 12 dX6_child_46 (by decide) ?_
      refine ab_iload_n' hG 48 _ _ _ _ 1 _ dX6_child_48 rfl ?_
      refine ab_iload_n' hG 49 _ _ _ _ 2 _ dX6_child_49 rfl ?_
      exact ab_invv' hG 50 _ [_, _, _] _ _ 0 103 _ 3 1 0 _ (21, _) dX6_child_50 rfl rfl rfl rfl (Nat.le_of_ble_eq_true rfl) (Nat.le_of_ble_eq_true rfl) h
  · have h := h.2 hc
    refine ab_iconst' hG 30 _ _ _ _ 2 2 dX6_child_30 (by decide) ?_
    refine ab_goto' hG 31 _ _ _ _ (4) 35 dX6_child_31 (by decide) ?_
    refine ab_putfield' hG 35 _ _ _ _ 82 21 0 0 _ dX6_child_35 (List.Mem.head _) ?_
    have h := h _ rfl
    refine ab_aload_n' hG 38 _ _ _ _ 0 _ dX6_child_38 rfl ?_
    refine ab_gI hG 39 _ _ _ _ 82 21 0 0 dX6_child_39 (List.Mem.head _) rfl ?_
    refine ab_if_ne' hG 42 _ _ _ _ (14) 56 _ dX6_child_42 (by decide) (fun hc => ?_) (fun hc => ?_)
    · have h := h.2 hc
      refine ab_iconst' hG 56 _ _ _ _ 0 0 dX6_child_56 (by decide) ?_
      exact ab_ireturn' hG 57 _ _ _ _ dX6_child_57 (Or.inl rfl) (by decide) h
    · have h := h.1 hc
      refine ab_aload_n' hG 45 _ _ _ _ 0 _ dX6_child_45 rfl ?_
      refine ab_bipush' hG 46 _ _ _ _ 12 12 dX6_child_46 (by decide) ?_
      refine ab_iload_n' hG 48 _ _ _ _ 1 _ dX6_child_48 rfl ?_
      refine ab_iload_n' hG 49 _ _ _ _ 2 _ dX6_child_49 rfl ?_
      exact ab_invv' hG 50 _ [_, _, _] _ _ 0 103 _ 3 1 0 _ (21, _) dX6_child_50 rfl rfl rfl rfl (Nat.le_of_ble_eq_true rfl) (Nat.le_of_ble_eq_true rfl) h
theorem bl_X6_child_53 {Q : ab_Po} {G : ab_Gt} (hG : ab_Cl M_X6_child Q G) (x1 : Int32) (x2 : Int32) (xs0 : Int32) (S : ab_S) (h : Q (.inl (some xs0)) S) : G 53 [some (.inr (21, 0)), some (.inl x1), some (.inl x2)] [(.inl xs0)] S 0 := by
  refine ab_goto' hG 53 _ _ _ _ (4) 57 dX6_child_53 (by decide) ?_
  exact ab_ireturn' hG 57 _ _ _ _ dX6_child_57 (Or.inl rfl) (by decide) h
theorem bl_X6_nodes_0 {Q : ab_Po} {G : ab_Gt} (hG : ab_Cl M_X6_nodes Q G) (x1 : Int32) (S : ab_S) (h : (∀ S1 : ab_S, S1 = ab_su S 21 0 0 (0 : Int32) → Sp_X6_walk [(.inr (21, 0)), (.inl (12 : Int32))] S1 (ab_back Q G 11 [some (.inr (21, 0)), some (.inl x1)] [] 0))) : G 0 [some (.inr (21, 0)), some (.inl x1)] [] S 0 := by
  refine ab_aload_n' hG 0 _ _ _ _ 0 _ dX6_nodes_0 rfl ?_
  refine ab_iconst' hG 1 _ _ _ _ 0 0 dX6_nodes_1 (by decide) ?_
  refine ab_putfield' hG 2 _ _ _ _ 82 21 0 0 _ dX6_nodes_2 (List.Mem.head _) ?_
  have h := h _ rfl
  refine ab_aload_n' hG 5 _ _ _ _ 0 _ dX6_nodes_5 rfl ?_
  refine ab_bipush' hG 6 _ _ _ _ 12 12 dX6_nodes_6 (by decide) ?_
  exact ab_invv' hG 8 _ [_] _ _ 0 114 _ 1 0 0 _ (21, _) dX6_nodes_8 rfl rfl rfl rfl (Nat.le_of_ble_eq_true rfl) (Nat.le_of_ble_eq_true rfl) h
theorem bl_X6_nodes_11 {Q : ab_Po} {G : ab_Gt} (hG : ab_Cl M_X6_nodes Q G) (x1 : Int32) (S : ab_S) (h : (x1 = 0 → Q (.inl (some (S 21 0 18))) S) ∧ (¬ x1 = 0 → Q (.inl (some (S 21 0 5))) S)) : G 11 [some (.inr (21, 0)), some (.inl x1)] [] S 0 := by
  refine ab_iload_n' hG 11 _ _ _ _ 1 _ dX6_nodes_11 rfl ?_
  refine ab_if_eq' hG 12 _ _ _ _ (10) 22 _ dX6_nodes_12 (by decide) (fun hc => ?_) (fun hc => ?_)
  · have h := h.1 hc
    refine ab_aload_n' hG 22 _ _ _ _ 0 _ dX6_nodes_22 rfl ?_
    refine ab_gI hG 23 _ _ _ _ 93 21 18 0 dX6_nodes_23 (List.Mem.tail _ (List.Mem.head _)) rfl ?_
    exact ab_ireturn' hG 26 _ _ _ _ dX6_nodes_26 (Or.inl rfl) (by decide) h
  · have h := h.2 hc
    refine ab_aload_n' hG 15 _ _ _ _ 0 _ dX6_nodes_15 rfl ?_
    refine ab_gI hG 16 _ _ _ _ 23 21 5 0 dX6_nodes_16 (List.Mem.head _) rfl ?_
    refine ab_goto' hG 19 _ _ _ _ (7) 26 dX6_nodes_19 (by decide) ?_
    exact ab_ireturn' hG 26 _ _ _ _ dX6_nodes_26 (Or.inl rfl) (by decide) h
theorem bl_X6_isFound_0 {Q : ab_Po} {G : ab_Gt} (hG : ab_Cl M_X6_isFound Q G) (x1 : Int32) (x2 : Int32) (x3 : Int32) (S : ab_S) (h : vp_in ((288 : Int32) + x1) 336 ∧ (0 ≤ (S 24 0 ((288 : Int32) + x1).toNatClampNeg) → (x2 = (1 : Int32) → (((x3 >>> ((S 24 0 ((288 : Int32) + x1).toNatClampNeg) &&& 31)) &&& (1 : Int32)) = (1 : Int32) → Q (.inl (some (1 : Int32))) S) ∧ (¬ ((x3 >>> ((S 24 0 ((288 : Int32) + x1).toNatClampNeg) &&& 31)) &&& (1 : Int32)) = (1 : Int32) → Q (.inl (some (0 : Int32))) S)) ∧ (¬ x2 = (1 : Int32) → G 46 [some (.inr (21, 0)), some (.inl x1), some (.inl x2), some (.inl x3), some (.inl (S 24 0 ((288 : Int32) + x1).toNatClampNeg)), some (.inl (0 : Int32)), some (.inl (0 : Int32)), none] [] S 0)) ∧ (¬ 0 ≤ (S 24 0 ((288 : Int32) + x1).toNatClampNeg) → Q (.inl (some (0 : Int32))) S)) : G 0 [some (.inr (21, 0)), some (.inl x1), some (.inl x2), some (.inl x3), none, none, none, none] [] S 0 := by
  refine ab_aload_n' hG 0 _ _ _ _ 0 _ dX6_isFound_0 rfl ?_
  refine ab_gR hG 1 _ _ _ _ 17 21 3 0 (24, 0) dX6_isFound_1 (List.Mem.head _) rfl ?_
  refine ab_sipush' hG 4 _ _ _ _ 288 288 dX6_isFound_4 (by decide) ?_
  refine ab_iload_n' hG 7 _ _ _ _ 1 _ dX6_isFound_7 rfl ?_
  refine ab_iadd' hG 8 _ _ _ _ _ _ dX6_isFound_8 ?_
  refine ab_iaload' hG 9 _ _ _ _ 24 0 336 _ dX6_isFound_9 rfl h.1 ?_
  have h := h.2
  refine ab_istore' hG 10 _ _ _ _ 4 _ dX6_isFound_10 (Nat.le_of_ble_eq_true rfl) ?_
  refine ab_iload' hG 12 _ _ _ _ 4 _ dX6_isFound_12 rfl ?_
  refine ab_if_ge' hG 14 _ _ _ _ (5) 19 _ dX6_isFound_14 (by decide) (fun hc => ?_) (fun hc => ?_)
  · have h := h.1 hc
    refine ab_iload_n' hG 19 _ _ _ _ 2 _ dX6_isFound_19 rfl ?_
    refine ab_iconst' hG 20 _ _ _ _ 1 1 dX6_isFound_20 (by decide) ?_
    refine ab_icmp_ne' hG 21 _ _ _ _ (19) 40 _ _ dX6_isFound_21 (by decide) (fun hc => ?_) (fun hc => ?_)
    · have h := h.2 hc
      refine ab_iconst' hG 40 _ _ _ _ 0 0 dX6_isFound_40 (by decide) ?_
      refine ab_istore' hG 41 _ _ _ _ 5 _ dX6_isFound_41 (Nat.le_of_ble_eq_true rfl) ?_
      refine ab_iconst' hG 43 _ _ _ _ 0 0 dX6_isFound_43 (by decide) ?_
      refine ab_istore' hG 44 _ _ _ _ 6 _ dX6_isFound_44 (Nat.le_of_ble_eq_true rfl) ?_
      exact h
    · have h := h.1 hc
      refine ab_iload_n' hG 24 _ _ _ _ 3 _ dX6_isFound_24 rfl ?_
      refine ab_iload' hG 25 _ _ _ _ 4 _ dX6_isFound_25 rfl ?_
      refine ab_ishr' hG 27 _ _ _ _ _ _ dX6_isFound_27 ?_
      refine ab_iconst' hG 28 _ _ _ _ 1 1 dX6_isFound_28 (by decide) ?_
      refine ab_iand' hG 29 _ _ _ _ _ _ dX6_isFound_29 ?_
      refine ab_iconst' hG 30 _ _ _ _ 1 1 dX6_isFound_30 (by decide) ?_
      refine ab_icmp_ne' hG 31 _ _ _ _ (7) 38 _ _ dX6_isFound_31 (by decide) (fun hc => ?_) (fun hc => ?_)
      · have h := h.2 hc
        refine ab_iconst' hG 38 _ _ _ _ 0 0 dX6_isFound_38 (by decide) ?_
        exact ab_ireturn' hG 39 _ _ _ _ dX6_isFound_39 (Or.inr ⟨rfl, Or.inl rfl⟩) (by decide) h
      · have h := h.1 hc
        refine ab_iconst' hG 34 _ _ _ _ 1 1 dX6_isFound_34 (by decide) ?_
        refine ab_goto' hG 35 _ _ _ _ (4) 39 dX6_isFound_35 (by decide) ?_
        exact ab_ireturn' hG 39 _ _ _ _ dX6_isFound_39 (Or.inr ⟨rfl, Or.inr rfl⟩) (by decide) h
  · have h := h.2 hc
    refine ab_iconst' hG 17 _ _ _ _ 0 0 dX6_isFound_17 (by decide) ?_
    exact ab_ireturn' hG 18 _ _ _ _ dX6_isFound_18 (Or.inr ⟨rfl, Or.inl rfl⟩) (by decide) h
theorem bl_X6_isFound_46 {Q : ab_Po} {G : ab_Gt} (hG : ab_Cl M_X6_isFound Q G) (x1 : Int32) (x2 : Int32) (x3 : Int32) (x4 : Int32) (x5 : Int32) (x6 : Int32) (S : ab_S) (h : ((24 : Int32) ≤ x6 → (x5 = 0 ∨ x5 = 1) ∧ Q (.inl (some x5)) S) ∧ (¬ (24 : Int32) ≤ x6 → (((x3 >>> (x6 &&& 31)) &&& (1 : Int32)) = (1 : Int32) → (x5 = 0 → ((1 : Int32) = 0 → G 46 [some (.inr (21, 0)), some (.inl x1), some (.inl x2), some (.inl x3), some (.inl x4), some (.inl (0 : Int32)), some (.inl (x6 + 1)), none] [] S 0) ∧ (¬ (1 : Int32) = 0 → (x2 = (2 : Int32) → (x6 = x1 → G 46 [some (.inr (21, 0)), some (.inl x1), some (.inl x2), some (.inl x3), some (.inl x4), some (.inl (0 : Int32)), some (.inl (x6 + 1)), none] [] S 0) ∧ (¬ x6 = x1 → Sp_X6_isAt [(.inr (21, 0)), (.inl (12 : Int32)), (.inl x1), (.inl x6)] S (ab_back Q G 100 [some (.inr (21, 0)), some (.inl x1), some (.inl x2), some (.inl x3), some (.inl x4), some (.inl x5), some (.inl x6), some (.inl (1 : Int32))] [] 0))) ∧ (¬ x2 = (2 : Int32) → vp_in ((288 : Int32) + x6) 336 ∧ ((S 24 0 ((288 : Int32) + x6).toNatClampNeg) = x4 → vp_in ((288 : Int32) + x6) 336 ∧ vp_in ((288 : Int32) + x1) 336 ∧ ((S 25 0 ((288 : Int32) + x1).toNatClampNeg) ≤ (S 25 0 ((288 : Int32) + x6).toNatClampNeg) → G 46 [some (.inr (21, 0)), some (.inl x1), some (.inl x2), some (.inl x3), some (.inl x4), some (.inl (0 : Int32)), some (.inl (x6 + 1)), none] [] S 0) ∧ (¬ (S 25 0 ((288 : Int32) + x1).toNatClampNeg) ≤ (S 25 0 ((288 : Int32) + x6).toNatClampNeg) → G 46 [some (.inr (21, 0)), some (.inl x1), some (.inl x2), some (.inl x3), some (.inl x4), some (.inl (1 : Int32)), some (.inl (x6 + 1)), none] [] S 0)) ∧ (¬ (S 24 0 ((288 : Int32) + x6).toNatClampNeg) = x4 → G 46 [some (.inr (21, 0)), some (.inl x1), some (.inl x2), some (.inl x3), some (.inl x4), some (.inl (0 : Int32)), some (.inl (x6 + 1)), none] [] S 0)))) ∧ (¬ x5 = 0 → G 46 [some (.inr (21, 0)), some (.inl x1), some (.inl x2), some (.inl x3), some (.inl x4), some (.inl (1 : Int32)), some (.inl (x6 + 1)), none] [] S 0)) ∧ (¬ ((x3 >>> (x6 &&& 31)) &&& (1 : Int32)) = (1 : Int32) → (x5 = 0 → ((0 : Int32) = 0 → G 46 [some (.inr (21, 0)), some (.inl x1), some (.inl x2), some (.inl x3), some (.inl x4), some (.inl (0 : Int32)), some (.inl (x6 + 1)), none] [] S 0) ∧ (¬ (0 : Int32) = 0 → (x2 = (2 : Int32) → (x6 = x1 → G 46 [some (.inr (21, 0)), some (.inl x1), some (.inl x2), some (.inl x3), some (.inl x4), some (.inl (0 : Int32)), some (.inl (x6 + 1)), none] [] S 0) ∧ (¬ x6 = x1 → Sp_X6_isAt [(.inr (21, 0)), (.inl (12 : Int32)), (.inl x1), (.inl x6)] S (ab_back Q G 100 [some (.inr (21, 0)), some (.inl x1), some (.inl x2), some (.inl x3), some (.inl x4), some (.inl x5), some (.inl x6), some (.inl (0 : Int32))] [] 0))) ∧ (¬ x2 = (2 : Int32) → vp_in ((288 : Int32) + x6) 336 ∧ ((S 24 0 ((288 : Int32) + x6).toNatClampNeg) = x4 → vp_in ((288 : Int32) + x6) 336 ∧ vp_in ((288 : Int32) + x1) 336 ∧ ((S 25 0 ((288 : Int32) + x1).toNatClampNeg) ≤ (S 25 0 ((288 : Int32) + x6).toNatClampNeg) → G 46 [some (.inr (21, 0)), some (.inl x1), some (.inl x2), some (.inl x3), some (.inl x4), some (.inl (0 : Int32)), some (.inl (x6 + 1)), none] [] S 0) ∧ (¬ (S 25 0 ((288 : Int32) + x1).toNatClampNeg) ≤ (S 25 0 ((288 : Int32) + x6).toNatClampNeg) → G 46 [some (.inr (21, 0)), some (.inl x1), some (.inl x2), some (.inl x3), some (.inl x4), some (.inl (1 : Int32)), some (.inl (x6 + 1)), none] [] S 0)) ∧ (¬ (S 24 0 ((288 : Int32) + x6).toNatClampNeg) = x4 → G 46 [some (.inr (21, 0)), some (.inl x1), some (.inl x2), some (.inl x3), some (.inl x4), some (.inl (0 : Int32)), some (.inl (x6 + 1)), none] [] S 0)))) ∧ (¬ x5 = 0 → G 46 [some (.inr (21, 0)), some (.inl x1), some (.inl x2), some (.inl x3), some (.inl x4), some (.inl (1 : Int32)), some (.inl (x6 + 1)), none] [] S 0)))) : G 46 [some (.inr (21, 0)), some (.inl x1), some (.inl x2), some (.inl x3), some (.inl x4), some (.inl x5), some (.inl x6), none] [] S 0 := by
  refine ab_iload' hG 46 _ _ _ _ 6 _ dX6_isFound_46 rfl ?_
  refine ab_bipush' hG 48 _ _ _ _ 24 24 dX6_isFound_48 (by decide) ?_
  refine ab_icmp_ge' hG 50 _ _ _ _ (109) 159 _ _ dX6_isFound_50 (by decide) (fun hc => ?_) (fun hc => ?_)
  · have h := h.1 hc
    refine ab_iload' hG 159 _ _ _ _ 5 _ dX6_isFound_159 rfl ?_
    exact ab_ireturn' hG 161 _ _ _ _ dX6_isFound_161 (Or.inr ⟨rfl, h.1⟩) (by decide) h.2
  · have h := h.2 hc
    refine ab_iload_n' hG 53 _ _ _ _ 3 _ dX6_isFound_53 rfl ?_
    refine ab_iload' hG 54 _ _ _ _ 6 _ dX6_isFound_54 rfl ?_
    refine ab_ishr' hG 56 _ _ _ _ _ _ dX6_isFound_56 ?_
    refine ab_iconst' hG 57 _ _ _ _ 1 1 dX6_isFound_57 (by decide) ?_
    refine ab_iand' hG 58 _ _ _ _ _ _ dX6_isFound_58 ?_
    refine ab_iconst' hG 59 _ _ _ _ 1 1 dX6_isFound_59 (by decide) ?_
    refine ab_icmp_ne' hG 60 _ _ _ _ (7) 67 _ _ dX6_isFound_60 (by decide) (fun hc => ?_) (fun hc => ?_)
    · have h := h.2 hc
      refine ab_iconst' hG 67 _ _ _ _ 0 0 dX6_isFound_67 (by decide) ?_
      refine ab_istore' hG 68 _ _ _ _ 7 _ dX6_isFound_68 (Nat.le_of_ble_eq_true rfl) ?_
      refine ab_iload' hG 70 _ _ _ _ 5 _ dX6_isFound_70 rfl ?_
      refine ab_if_ne' hG 72 _ _ _ _ (74) 146 _ dX6_isFound_72 (by decide) (fun hc => ?_) (fun hc => ?_)
      · have h := h.2 hc
        refine ab_iconst' hG 146 _ _ _ _ 1 1 dX6_isFound_146 (by decide) ?_
        refine ab_goto' hG 147 _ _ _ _ (4) 151 dX6_isFound_147 (by decide) ?_
        refine ab_istore' hG 151 _ _ _ _ 5 _ dX6_isFound_151 (Nat.le_of_ble_eq_true rfl) ?_
        refine ab_iinc' hG 153 _ _ _ _ 6 1 _ _ dX6_isFound_153 rfl rfl ?_
        refine ab_goto' hG 156 _ _ _ _ (-110) 46 dX6_isFound_156 (by decide) ?_
        refine ab_forget' hG _ _ _ _ _ 7 ?_
        exact h
      · have h := h.1 hc
        refine ab_iload' hG 75 _ _ _ _ 7 _ dX6_isFound_75 rfl ?_
        refine ab_if_eq' hG 77 _ _ _ _ (73) 150 _ dX6_isFound_77 (by decide) (fun hc => ?_) (fun hc => ?_)
        · have h := h.1 hc
          refine ab_iconst' hG 150 _ _ _ _ 0 0 dX6_isFound_150 (by decide) ?_
          refine ab_istore' hG 151 _ _ _ _ 5 _ dX6_isFound_151 (Nat.le_of_ble_eq_true rfl) ?_
          refine ab_iinc' hG 153 _ _ _ _ 6 1 _ _ dX6_isFound_153 rfl rfl ?_
          refine ab_goto' hG 156 _ _ _ _ (-110) 46 dX6_isFound_156 (by decide) ?_
          refine ab_forget' hG _ _ _ _ _ 7 ?_
          exact h
        · have h := h.2 hc
          refine ab_iload_n' hG 80 _ _ _ _ 2 _ dX6_isFound_80 rfl ?_
          refine ab_iconst' hG 81 _ _ _ _ 2 2 dX6_isFound_81 (by decide) ?_
          refine ab_icmp_ne' hG 82 _ _ _ _ (24) 106 _ _ dX6_isFound_82 (by decide) (fun hc => ?_) (fun hc => ?_)
          · have h := h.2 hc
            refine ab_aload_n' hG 106 _ _ _ _ 0 _ dX6_isFound_106 rfl ?_
            refine ab_gR hG 107 _ _ _ _ 17 21 3 0 (24, 0) dX6_isFound_107 (List.Mem.head _) rfl ?_
            refine ab_sipush' hG 110 _ _ _ _ 288 288 dX6_isFound_110 (by decide) ?_
            refine ab_iload' hG 113 _ _ _ _ 6 _ dX6_isFound_113 rfl ?_
            refine ab_iadd' hG 115 _ _ _ _ _ _ dX6_isFound_115 ?_
            refine ab_iaload' hG 116 _ _ _ _ 24 0 336 _ dX6_isFound_116 rfl h.1 ?_
            have h := h.2
            refine ab_iload' hG 117 _ _ _ _ 4 _ dX6_isFound_117 rfl ?_
            refine ab_icmp_ne' hG 119 _ _ _ _ (31) 150 _ _ dX6_isFound_119 (by decide) (fun hc => ?_) (fun hc => ?_)
            · have h := h.2 hc
              refine ab_iconst' hG 150 _ _ _ _ 0 0 dX6_isFound_150 (by decide) ?_
              refine ab_istore' hG 151 _ _ _ _ 5 _ dX6_isFound_151 (Nat.le_of_ble_eq_true rfl) ?_
              refine ab_iinc' hG 153 _ _ _ _ 6 1 _ _ dX6_isFound_153 rfl rfl ?_
              refine ab_goto' hG 156 _ _ _ _ (-110) 46 dX6_isFound_156 (by decide) ?_
              refine ab_forget' hG _ _ _ _ _ 7 ?_
              exact h
            · have h := h.1 hc
              refine ab_aload_n' hG 122 _ _ _ _ 0 _ dX6_isFound_122 rfl ?_
              refine ab_gR hG 123 _ _ _ _ 20 21 4 0 (25, 0) dX6_isFound_123 (List.Mem.tail _ (List.Mem.head _)) rfl ?_
              refine ab_sipush' hG 126 _ _ _ _ 288 288 dX6_isFound_126 (by decide) ?_
              refine ab_iload' hG 129 _ _ _ _ 6 _ dX6_isFound_129 rfl ?_
              refine ab_iadd' hG 131 _ _ _ _ _ _ dX6_isFound_131 ?_
              refine ab_iaload' hG 132 _ _ _ _ 25 0 336 _ dX6_isFound_132 rfl h.1 ?_
              have h := h.2
              refine ab_aload_n' hG 133 _ _ _ _ 0 _ dX6_isFound_133 rfl ?_
              refine ab_gR hG 134 _ _ _ _ 20 21 4 0 (25, 0) dX6_isFound_134 (List.Mem.tail _ (List.Mem.head _)) rfl ?_
              refine ab_sipush' hG 137 _ _ _ _ 288 288 dX6_isFound_137 (by decide) ?_
              refine ab_iload_n' hG 140 _ _ _ _ 1 _ dX6_isFound_140 rfl ?_
              refine ab_iadd' hG 141 _ _ _ _ _ _ dX6_isFound_141 ?_
              refine ab_iaload' hG 142 _ _ _ _ 25 0 336 _ dX6_isFound_142 rfl h.1 ?_
              have h := h.2
              refine ab_icmp_ge' hG 143 _ _ _ _ (7) 150 _ _ dX6_isFound_143 (by decide) (fun hc => ?_) (fun hc => ?_)
              · have h := h.1 hc
                refine ab_iconst' hG 150 _ _ _ _ 0 0 dX6_isFound_150 (by decide) ?_
                refine ab_istore' hG 151 _ _ _ _ 5 _ dX6_isFound_151 (Nat.le_of_ble_eq_true rfl) ?_
                refine ab_iinc' hG 153 _ _ _ _ 6 1 _ _ dX6_isFound_153 rfl rfl ?_
                refine ab_goto' hG 156 _ _ _ _ (-110) 46 dX6_isFound_156 (by decide) ?_
                refine ab_forget' hG _ _ _ _ _ 7 ?_
                exact h
              · have h := h.2 hc
                refine ab_iconst' hG 146 _ _ _ _ 1 1 dX6_isFound_146 (by decide) ?_
                refine ab_goto' hG 147 _ _ _ _ (4) 151 dX6_isFound_147 (by decide) ?_
                refine ab_istore' hG 151 _ _ _ _ 5 _ dX6_isFound_151 (Nat.le_of_ble_eq_true rfl) ?_
                refine ab_iinc' hG 153 _ _ _ _ 6 1 _ _ dX6_isFound_153 rfl rfl ?_
                refine ab_goto' hG 156 _ _ _ _ (-110) 46 dX6_isFound_156 (by decide) ?_
                refine ab_forget' hG _ _ _ _ _ 7 ?_
                exact h
          · have h := h.1 hc
            refine ab_iload' hG 85 _ _ _ _ 6 _ dX6_isFound_85 rfl ?_
            refine ab_iload_n' hG 87 _ _ _ _ 1 _ dX6_isFound_87 rfl ?_
            refine ab_icmp_eq' hG 88 _ _ _ _ (62) 150 _ _ dX6_isFound_88 (by decide) (fun hc => ?_) (fun hc => ?_)
            · have h := h.1 hc
              refine ab_iconst' hG 150 _ _ _ _ 0 0 dX6_isFound_150 (by decide) ?_
              refine ab_istore' hG 151 _ _ _ _ 5 _ dX6_isFound_151 (Nat.le_of_ble_eq_true rfl) ?_
              refine ab_iinc' hG 153 _ _ _ _ 6 1 _ _ dX6_isFound_153 rfl rfl ?_
              refine ab_goto' hG 156 _ _ _ _ (-110) 46 dX6_isFound_156 (by decide) ?_
              refine ab_forget' hG _ _ _ _ _ 7 ?_
              exact h
            · have h := h.2 hc
              refine ab_aload_n' hG 91 _ _ _ _ 0 _ dX6_isFound_91 rfl ?_
              refine ab_bipush' hG 92 _ _ _ _ 12 12 dX6_isFound_92 (by decide) ?_
              refine ab_iload_n' hG 94 _ _ _ _ 1 _ dX6_isFound_94 rfl ?_
              refine ab_iload' hG 95 _ _ _ _ 6 _ dX6_isFound_95 rfl ?_
              exact ab_invv' hG 97 _ [_, _, _] _ _ 0 121 _ 3 1 0 _ (21, _) dX6_isFound_97 rfl rfl rfl rfl (Nat.le_of_ble_eq_true rfl) (Nat.le_of_ble_eq_true rfl) h
    · have h := h.1 hc
      refine ab_iconst' hG 63 _ _ _ _ 1 1 dX6_isFound_63 (by decide) ?_
      refine ab_goto' hG 64 _ _ _ _ (4) 68 dX6_isFound_64 (by decide) ?_
      refine ab_istore' hG 68 _ _ _ _ 7 _ dX6_isFound_68 (Nat.le_of_ble_eq_true rfl) ?_
      refine ab_iload' hG 70 _ _ _ _ 5 _ dX6_isFound_70 rfl ?_
      refine ab_if_ne' hG 72 _ _ _ _ (74) 146 _ dX6_isFound_72 (by decide) (fun hc => ?_) (fun hc => ?_)
      · have h := h.2 hc
        refine ab_iconst' hG 146 _ _ _ _ 1 1 dX6_isFound_146 (by decide) ?_
        refine ab_goto' hG 147 _ _ _ _ (4) 151 dX6_isFound_147 (by decide) ?_
        refine ab_istore' hG 151 _ _ _ _ 5 _ dX6_isFound_151 (Nat.le_of_ble_eq_true rfl) ?_
        refine ab_iinc' hG 153 _ _ _ _ 6 1 _ _ dX6_isFound_153 rfl rfl ?_
        refine ab_goto' hG 156 _ _ _ _ (-110) 46 dX6_isFound_156 (by decide) ?_
        refine ab_forget' hG _ _ _ _ _ 7 ?_
        exact h
      · have h := h.1 hc
        refine ab_iload' hG 75 _ _ _ _ 7 _ dX6_isFound_75 rfl ?_
        refine ab_if_eq' hG 77 _ _ _ _ (73) 150 _ dX6_isFound_77 (by decide) (fun hc => ?_) (fun hc => ?_)
        · have h := h.1 hc
          refine ab_iconst' hG 150 _ _ _ _ 0 0 dX6_isFound_150 (by decide) ?_
          refine ab_istore' hG 151 _ _ _ _ 5 _ dX6_isFound_151 (Nat.le_of_ble_eq_true rfl) ?_
          refine ab_iinc' hG 153 _ _ _ _ 6 1 _ _ dX6_isFound_153 rfl rfl ?_
          refine ab_goto' hG 156 _ _ _ _ (-110) 46 dX6_isFound_156 (by decide) ?_
          refine ab_forget' hG _ _ _ _ _ 7 ?_
          exact h
        · have h := h.2 hc
          refine ab_iload_n' hG 80 _ _ _ _ 2 _ dX6_isFound_80 rfl ?_
          refine ab_iconst' hG 81 _ _ _ _ 2 2 dX6_isFound_81 (by decide) ?_
          refine ab_icmp_ne' hG 82 _ _ _ _ (24) 106 _ _ dX6_isFound_82 (by decide) (fun hc => ?_) (fun hc => ?_)
          · have h := h.2 hc
            refine ab_aload_n' hG 106 _ _ _ _ 0 _ dX6_isFound_106 rfl ?_
            refine ab_gR hG 107 _ _ _ _ 17 21 3 0 (24, 0) dX6_isFound_107 (List.Mem.head _) rfl ?_
            refine ab_sipush' hG 110 _ _ _ _ 288 288 dX6_isFound_110 (by decide) ?_
            refine ab_iload' hG 113 _ _ _ _ 6 _ dX6_isFound_113 rfl ?_
            refine ab_iadd' hG 115 _ _ _ _ _ _ dX6_isFound_115 ?_
            refine ab_iaload' hG 116 _ _ _ _ 24 0 336 _ dX6_isFound_116 rfl h.1 ?_
            have h := h.2
            refine ab_iload' hG 117 _ _ _ _ 4 _ dX6_isFound_117 rfl ?_
            refine ab_icmp_ne' hG 119 _ _ _ _ (31) 150 _ _ dX6_isFound_119 (by decide) (fun hc => ?_) (fun hc => ?_)
            · have h := h.2 hc
              refine ab_iconst' hG 150 _ _ _ _ 0 0 dX6_isFound_150 (by decide) ?_
              refine ab_istore' hG 151 _ _ _ _ 5 _ dX6_isFound_151 (Nat.le_of_ble_eq_true rfl) ?_
              refine ab_iinc' hG 153 _ _ _ _ 6 1 _ _ dX6_isFound_153 rfl rfl ?_
              refine ab_goto' hG 156 _ _ _ _ (-110) 46 dX6_isFound_156 (by decide) ?_
              refine ab_forget' hG _ _ _ _ _ 7 ?_
              exact h
            · have h := h.1 hc
              refine ab_aload_n' hG 122 _ _ _ _ 0 _ dX6_isFound_122 rfl ?_
              refine ab_gR hG 123 _ _ _ _ 20 21 4 0 (25, 0) dX6_isFound_123 (List.Mem.tail _ (List.Mem.head _)) rfl ?_
              refine ab_sipush' hG 126 _ _ _ _ 288 288 dX6_isFound_126 (by decide) ?_
              refine ab_iload' hG 129 _ _ _ _ 6 _ dX6_isFound_129 rfl ?_
              refine ab_iadd' hG 131 _ _ _ _ _ _ dX6_isFound_131 ?_
              refine ab_iaload' hG 132 _ _ _ _ 25 0 336 _ dX6_isFound_132 rfl h.1 ?_
              have h := h.2
              refine ab_aload_n' hG 133 _ _ _ _ 0 _ dX6_isFound_133 rfl ?_
              refine ab_gR hG 134 _ _ _ _ 20 21 4 0 (25, 0) dX6_isFound_134 (List.Mem.tail _ (List.Mem.head _)) rfl ?_
              refine ab_sipush' hG 137 _ _ _ _ 288 288 dX6_isFound_137 (by decide) ?_
              refine ab_iload_n' hG 140 _ _ _ _ 1 _ dX6_isFound_140 rfl ?_
              refine ab_iadd' hG 141 _ _ _ _ _ _ dX6_isFound_141 ?_
              refine ab_iaload' hG 142 _ _ _ _ 25 0 336 _ dX6_isFound_142 rfl h.1 ?_
              have h := h.2
              refine ab_icmp_ge' hG 143 _ _ _ _ (7) 150 _ _ dX6_isFound_143 (by decide) (fun hc => ?_) (fun hc => ?_)
              · have h := h.1 hc
                refine ab_iconst' hG 150 _ _ _ _ 0 0 dX6_isFound_150 (by decide) ?_
                refine ab_istore' hG 151 _ _ _ _ 5 _ dX6_isFound_151 (Nat.le_of_ble_eq_true rfl) ?_
                refine ab_iinc' hG 153 _ _ _ _ 6 1 _ _ dX6_isFound_153 rfl rfl ?_
                refine ab_goto' hG 156 _ _ _ _ (-110) 46 dX6_isFound_156 (by decide) ?_
                refine ab_forget' hG _ _ _ _ _ 7 ?_
                exact h
              · have h := h.2 hc
                refine ab_iconst' hG 146 _ _ _ _ 1 1 dX6_isFound_146 (by decide) ?_
                refine ab_goto' hG 147 _ _ _ _ (4) 151 dX6_isFound_147 (by decide) ?_
                refine ab_istore' hG 151 _ _ _ _ 5 _ dX6_isFound_151 (Nat.le_of_ble_eq_true rfl) ?_
                refine ab_iinc' hG 153 _ _ _ _ 6 1 _ _ dX6_isFound_153 rfl rfl ?_
                refine ab_goto' hG 156 _ _ _ _ (-110) 46 dX6_isFound_156 (by decide) ?_
                refine ab_forget' hG _ _ _ _ _ 7 ?_
                exact h
          · have h := h.1 hc
            refine ab_iload' hG 85 _ _ _ _ 6 _ dX6_isFound_85 rfl ?_
            refine ab_iload_n' hG 87 _ _ _ _ 1 _ dX6_isFound_87 rfl ?_
            refine ab_icmp_eq' hG 88 _ _ _ _ (62) 150 _ _ dX6_isFound_88 (by decide) (fun hc => ?_) (fun hc => ?_)
            · have h := h.1 hc
              refine ab_iconst' hG 150 _ _ _ _ 0 0 dX6_isFound_150 (by decide) ?_
              refine ab_istore' hG 151 _ _ _ _ 5 _ dX6_isFound_151 (Nat.le_of_ble_eq_true rfl) ?_
              refine ab_iinc' hG 153 _ _ _ _ 6 1 _ _ dX6_isFound_153 rfl rfl ?_
              refine ab_goto' hG 156 _ _ _ _ (-110) 46 dX6_isFound_156 (by decide) ?_
              refine ab_forget' hG _ _ _ _ _ 7 ?_
              exact h
            · have h := h.2 hc
              refine ab_aload_n' hG 91 _ _ _ _ 0 _ dX6_isFound_91 rfl ?_
              refine ab_bipush' hG 92 _ _ _ _ 12 12 dX6_isFound_92 (by decide) ?_
              refine ab_iload_n' hG 94 _ _ _ _ 1 _ dX6_isFound_94 rfl ?_
              refine ab_iload' hG 95 _ _ _ _ 6 _ dX6_isFound_95 rfl ?_
              exact ab_invv' hG 97 _ [_, _, _] _ _ 0 121 _ 3 1 0 _ (21, _) dX6_isFound_97 rfl rfl rfl rfl (Nat.le_of_ble_eq_true rfl) (Nat.le_of_ble_eq_true rfl) h
theorem bl_X6_isFound_100 {Q : ab_Po} {G : ab_Gt} (hG : ab_Cl M_X6_isFound Q G) (x1 : Int32) (x2 : Int32) (x3 : Int32) (x4 : Int32) (x5 : Int32) (x6 : Int32) (x7 : Int32) (xs0 : Int32) (S : ab_S) (h : (xs0 = 0 → G 46 [some (.inr (21, 0)), some (.inl x1), some (.inl x2), some (.inl x3), some (.inl x4), some (.inl (0 : Int32)), some (.inl (x6 + 1)), none] [] S 0) ∧ (¬ xs0 = 0 → G 46 [some (.inr (21, 0)), some (.inl x1), some (.inl x2), some (.inl x3), some (.inl x4), some (.inl (1 : Int32)), some (.inl (x6 + 1)), none] [] S 0)) : G 100 [some (.inr (21, 0)), some (.inl x1), some (.inl x2), some (.inl x3), some (.inl x4), some (.inl x5), some (.inl x6), some (.inl x7)] [(.inl xs0)] S 0 := by
  refine ab_if_eq' hG 100 _ _ _ _ (50) 150 _ dX6_isFound_100 (by decide) (fun hc => ?_) (fun hc => ?_)
  · have h := h.1 hc
    refine ab_iconst' hG 150 _ _ _ _ 0 0 dX6_isFound_150 (by decide) ?_
    refine ab_istore' hG 151 _ _ _ _ 5 _ dX6_isFound_151 (Nat.le_of_ble_eq_true rfl) ?_
    refine ab_iinc' hG 153 _ _ _ _ 6 1 _ _ dX6_isFound_153 rfl rfl ?_
    refine ab_goto' hG 156 _ _ _ _ (-110) 46 dX6_isFound_156 (by decide) ?_
    refine ab_forget' hG _ _ _ _ _ 7 ?_
    exact h
  · have h := h.2 hc
    refine ab_goto' hG 103 _ _ _ _ (43) 146 dX6_isFound_103 (by decide) ?_
    refine ab_iconst' hG 146 _ _ _ _ 1 1 dX6_isFound_146 (by decide) ?_
    refine ab_goto' hG 147 _ _ _ _ (4) 151 dX6_isFound_147 (by decide) ?_
    refine ab_istore' hG 151 _ _ _ _ 5 _ dX6_isFound_151 (Nat.le_of_ble_eq_true rfl) ?_
    refine ab_iinc' hG 153 _ _ _ _ 6 1 _ _ dX6_isFound_153 rfl rfl ?_
    refine ab_goto' hG 156 _ _ _ _ (-110) 46 dX6_isFound_156 (by decide) ?_
    refine ab_forget' hG _ _ _ _ _ 7 ?_
    exact h
