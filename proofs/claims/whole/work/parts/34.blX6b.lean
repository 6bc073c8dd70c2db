theorem bl_X6_choose_0 {Q : ab_Po} {G : ab_Gt} (hG : ab_Cl M_X6_choose Q G) (x0 : Int32) (x1 : Int32) (x2 : Int32) (x3 : Int32) (S : ab_S) (h : (x0 = x1 → Q (.inl (some x0)) S) ∧ (¬ x0 = x1 → (x2 = 0 → (x2 = 0 → Q (.inl (some (-9))) S) ∧ (¬ x2 = 0 → (x3 = x1 → Q (.inl (some x0)) S) ∧ (¬ x3 = x1 → Q (.inl (some (-9))) S))) ∧ (¬ x2 = 0 → (x3 = x0 → Q (.inl (some x1)) S) ∧ (¬ x3 = x0 → (x2 = 0 → Q (.inl (some (-9))) S) ∧ (¬ x2 = 0 → (x3 = x1 → Q (.inl (some x0)) S) ∧ (¬ x3 = x1 → Q (.inl (some (-9))) S)))))) : G 0 [some (.inl x0), some (.inl x1), some (.inl x2), some (.inl x3)] [] S 0 := by
  refine ab_iload_n' hG 0 _ _ _ _ 0 _ dX6_choose_0 rfl ?_
  refine ab_iload_n' hG 1 _ _ _ _ 1 _ dX6_choose_1 rfl ?_
  refine ab_icmp_ne' hG 2 _ _ _ _ (7) 9 _ _ dX6_choose_2 (by decide) (fun hc => ?_) (fun hc => ?_)
  · have h := h.2 hc
    refine ab_iload_n' hG 9 _ _ _ _ 2 _ dX6_choose_9 rfl ?_
    refine ab_if_eq' hG 10 _ _ _ _ (12) 22 _ dX6_choose_10 (by decide) (fun hc => ?_) (fun hc => ?_)
    · have h := h.1 hc
      refine ab_iload_n' hG 22 _ _ _ _ 2 _ dX6_choose_22 rfl ?_
      refine ab_if_eq' hG 23 _ _ _ _ (12) 35 _ dX6_choose_23 (by decide) (fun hc => ?_) (fun hc => ?_)
      · have h := h.1 hc
        refine ab_bipush' hG 35 _ _ _ _ (-9) (-9) dX6_choose_35 (by decide) ?_
        exact ab_ireturn' hG 37 _ _ _ _ dX6_choose_37 (Or.inl rfl) (by decide) h
      · have h := h.2 hc
        refine ab_iload_n' hG 26 _ _ _ _ 3 _ dX6_choose_26 rfl ?_
        refine ab_iload_n' hG 27 _ _ _ _ 1 _ dX6_choose_27 rfl ?_
        refine ab_icmp_ne' hG 28 _ _ _ _ (7) 35 _ _ dX6_choose_28 (by decide) (fun hc => ?_) (fun hc => ?_)
        · have h := h.2 hc
          refine ab_bipush' hG 35 _ _ _ _ (-9) (-9) dX6_choose_35 (by decide) ?_
          exact ab_ireturn' hG 37 _ _ _ _ dX6_choose_37 (Or.inl rfl) (by decide) h
        · have h := h.1 hc
          refine ab_iload_n' hG 31 _ _ _ _ 0 _ dX6_choose_31 rfl ?_
          refine ab_goto' hG 32 _ _ _ _ (5) 37 dX6_choose_32 (by decide) ?_
          exact ab_ireturn' hG 37 _ _ _ _ dX6_choose_37 (Or.inl rfl) (by decide) h
    · have h := h.2 hc
      refine ab_iload_n' hG 13 _ _ _ _ 3 _ dX6_choose_13 rfl ?_
      refine ab_iload_n' hG 14 _ _ _ _ 0 _ dX6_choose_14 rfl ?_
      refine ab_icmp_ne' hG 15 _ _ _ _ (7) 22 _ _ dX6_choose_15 (by decide) (fun hc => ?_) (fun hc => ?_)
      · have h := h.2 hc
        refine ab_iload_n' hG 22 _ _ _ _ 2 _ dX6_choose_22 rfl ?_
        refine ab_if_eq' hG 23 _ _ _ _ (12) 35 _ dX6_choose_23 (by decide) (fun hc => ?_) (fun hc => ?_)
        · have h := h.1 hc
          refine ab_bipush' hG 35 _ _ _ _ (-9) (-9) dX6_choose_35 (by decide) ?_
          exact ab_ireturn' hG 37 _ _ _ _ dX6_choose_37 (Or.inl rfl) (by decide) h
        · have h := h.2 hc
          refine ab_iload_n' hG 26 _ _ _ _ 3 _ dX6_choose_26 rfl ?_
          refine ab_iload_n' hG 27 _ _ _ _ 1 _ dX6_choose_27 rfl ?_
          refine ab_icmp_ne' hG 28 _ _ _ _ (7) 35 _ _ dX6_choose_28 (by decide) (fun hc => ?_) (fun hc => ?_)
          · have h := h.2 hc
            refine ab_bipush' hG 35 _ _ _ _ (-9) (-9) dX6_choose_35 (by decide) ?_
            exact ab_ireturn' hG 37 _ _ _ _ dX6_choose_37 (Or.inl rfl) (by decide) h
          · have h := h.1 hc
            refine ab_iload_n' hG 31 _ _ _ _ 0 _ dX6_choose_31 rfl ?_
            refine ab_goto' hG 32 _ _ _ _ (5) 37 dX6_choose_32 (by decide) ?_
            exact ab_ireturn' hG 37 _ _ _ _ dX6_choose_37 (Or.inl rfl) (by decide) h
      · have h := h.1 hc
        refine ab_iload_n' hG 18 _ _ _ _ 1 _ dX6_choose_18 rfl ?_
        refine ab_goto' hG 19 _ _ _ _ (18) 37 dX6_choose_19 (by decide) ?_
        exact ab_ireturn' hG 37 _ _ _ _ dX6_choose_37 (Or.inl rfl) (by decide) h
  · have h := h.1 hc
    refine ab_iload_n' hG 5 _ _ _ _ 0 _ dX6_choose_5 rfl ?_
    refine ab_goto' hG 6 _ _ _ _ (31) 37 dX6_choose_6 (by decide) ?_
    exact ab_ireturn' hG 37 _ _ _ _ dX6_choose_37 (Or.inl rfl) (by decide) h
theorem bl_X6_meet_0 {Q : ab_Po} {G : ab_Gt} (hG : ab_Cl M_X6_meet Q G) (x1 : Int32) (x2 : Int32) (x3 : Int32) (S : ab_S) (h : Sp_X6_stay [(.inr (21, 0)), (.inl ((24 * (S 21 0 10)) + x1)), (.inl ((24 * x2) + x1)), (.inl ((24 * x3) + x1))] S (ab_back Q G 37 [some (.inr (21, 0)), some (.inl x1), some (.inl x2), some (.inl x3), some (.inl ((24 * (S 21 0 10)) + x1)), some (.inl ((24 * x2) + x1)), some (.inl ((24 * x3) + x1)), none, none, none] [] 0)) : G 0 [some (.inr (21, 0)), some (.inl x1), some (.inl x2), some (.inl x3), none, none, none, none, none, none] [] S 0 := by
  refine ab_bipush' hG 0 _ _ _ _ 24 24 dX6_meet_0 (by decide) ?_
  refine ab_aload_n' hG 2 _ _ _ _ 0 _ dX6_meet_2 rfl ?_
  refine ab_gI hG 3 _ _ _ _ 124 21 10 0 dX6_meet_3 (List.Mem.head _) rfl ?_
  refine ab_imul' hG 6 _ _ _ _ _ _ dX6_meet_6 ?_
  refine ab_iload_n' hG 7 _ _ _ _ 1 _ dX6_meet_7 rfl ?_
  refine ab_iadd' hG 8 _ _ _ _ _ _ dX6_meet_8 ?_
  refine ab_istore' hG 9 _ _ _ _ 4 _ dX6_meet_9 (by decide) ?_
  refine ab_bipush' hG 11 _ _ _ _ 24 24 dX6_meet_11 (by decide) ?_
  refine ab_iload_n' hG 13 _ _ _ _ 2 _ dX6_meet_13 rfl ?_
  refine ab_imul' hG 14 _ _ _ _ _ _ dX6_meet_14 ?_
  refine ab_iload_n' hG 15 _ _ _ _ 1 _ dX6_meet_15 rfl ?_
  refine ab_iadd' hG 16 _ _ _ _ _ _ dX6_meet_16 ?_
  refine ab_istore' hG 17 _ _ _ _ 5 _ dX6_meet_17 (by decide) ?_
  refine ab_bipush' hG 19 _ _ _ _ 24 24 dX6_meet_19 (by decide) ?_
  refine ab_iload_n' hG 21 _ _ _ _ 3 _ dX6_meet_21 rfl ?_
  refine ab_imul' hG 22 _ _ _ _ _ _ dX6_meet_22 ?_
  refine ab_iload_n' hG 23 _ _ _ _ 1 _ dX6_meet_23 rfl ?_
  refine ab_iadd' hG 24 _ _ _ _ _ _ dX6_meet_24 ?_
  refine ab_istore' hG 25 _ _ _ _ 6 _ dX6_meet_25 (by decide) ?_
  refine ab_aload_n' hG 27 _ _ _ _ 0 _ dX6_meet_27 rfl ?_
  refine ab_iload' hG 28 _ _ _ _ 4 _ dX6_meet_28 rfl ?_
  refine ab_iload' hG 30 _ _ _ _ 5 _ dX6_meet_30 rfl ?_
  refine ab_iload' hG 32 _ _ _ _ 6 _ dX6_meet_32 rfl ?_
  exact ab_invv' hG 34 [some (.inr (21, 0)), some (.inl x1), some (.inl x2), some (.inl x3), some (.inl ((24 * (S 21 0 10)) + x1)), some (.inl ((24 * x2) + x1)), some (.inl ((24 * x3) + x1)), none, none, none] [(.inl ((24 * (S 21 0 10)) + x1)), (.inl ((24 * x2) + x1)), (.inl ((24 * x3) + x1))] [] S 0 134 _ 3 1 0 _ (21, 0) dX6_meet_34 rfl rfl rfl rfl (by decide) (by decide) h
theorem bl_X6_meet_37 {Q : ab_Po} {G : ab_Gt} (hG : ab_Cl M_X6_meet Q G) (x1 : Int32) (x2 : Int32) (x3 : Int32) (x4 : Int32) (x5 : Int32) (x6 : Int32) (xs0 : Int32) (S : ab_S) (h : (xs0 ≤ 0 → vp_in x1 24 ∧ (xs0 = 2 → vp_in x1 24 ∧ (xs0 = 0 → Q (.inl none) (ab_su (ab_su S 30 0 x1.toNatClampNeg (vp_nar .boolean 0)) 31 0 x1.toNatClampNeg 1)) ∧ (¬ xs0 = 0 → vp_in x4 336 ∧ (((ab_su (ab_su S 30 0 x1.toNatClampNeg (vp_nar .boolean 0)) 31 0 x1.toNatClampNeg 1) 22 0 x4.toNatClampNeg) = 0 → vp_in x4 336 ∧ (((ab_su (ab_su S 30 0 x1.toNatClampNeg (vp_nar .boolean 0)) 31 0 x1.toNatClampNeg 1) 22 0 x4.toNatClampNeg) = 0 → (0 = 0 → vp_in x5 336 ∧ vp_in x1 24 ∧ (0 = 0 → vp_in x5 336 ∧ vp_in x1 24 ∧ vp_in x1 24 ∧ (((ab_su (ab_su (ab_su (ab_su S 30 0 x1.toNatClampNeg (vp_nar .boolean 0)) 31 0 x1.toNatClampNeg 1) 32 0 x1.toNatClampNeg ((ab_su (ab_su S 30 0 x1.toNatClampNeg (vp_nar .boolean 0)) 31 0 x1.toNatClampNeg 1) 23 0 x5.toNatClampNeg)) 33 0 x1.toNatClampNeg ((ab_su (ab_su (ab_su S 30 0 x1.toNatClampNeg (vp_nar .boolean 0)) 31 0 x1.toNatClampNeg 1) 32 0 x1.toNatClampNeg ((ab_su (ab_su S 30 0 x1.toNatClampNeg (vp_nar .boolean 0)) 31 0 x1.toNatClampNeg 1) 23 0 x5.toNatClampNeg)) 24 0 x5.toNatClampNeg)) 31 0 x1.toNatClampNeg) = 0 → vp_in x1 24 ∧ (((ab_su (ab_su (ab_su (ab_su S 30 0 x1.toNatClampNeg (vp_nar .boolean 0)) 31 0 x1.toNatClampNeg 1) 32 0 x1.toNatClampNeg ((ab_su (ab_su S 30 0 x1.toNatClampNeg (vp_nar .boolean 0)) 31 0 x1.toNatClampNeg 1) 23 0 x5.toNatClampNeg)) 33 0 x1.toNatClampNeg ((ab_su (ab_su (ab_su S 30 0 x1.toNatClampNeg (vp_nar .boolean 0)) 31 0 x1.toNatClampNeg 1) 32 0 x1.toNatClampNeg ((ab_su (ab_su S 30 0 x1.toNatClampNeg (vp_nar .boolean 0)) 31 0 x1.toNatClampNeg 1) 23 0 x5.toNatClampNeg)) 24 0 x5.toNatClampNeg)) 32 0 x1.toNatClampNeg) = (-9) → vp_in x1 24 ∧ Q (.inl none) (ab_su (ab_su (ab_su (ab_su (ab_su S 30 0 x1.toNatClampNeg (vp_nar .boolean 0)) 31 0 x1.toNatClampNeg 1) 32 0 x1.toNatClampNeg ((ab_su (ab_su S 30 0 x1.toNatClampNeg (vp_nar .boolean 0)) 31 0 x1.toNatClampNeg 1) 23 0 x5.toNatClampNeg)) 33 0 x1.toNatClampNeg ((ab_su (ab_su (ab_su S 30 0 x1.toNatClampNeg (vp_nar .boolean 0)) 31 0 x1.toNatClampNeg 1) 32 0 x1.toNatClampNeg ((ab_su (ab_su S 30 0 x1.toNatClampNeg (vp_nar .boolean 0)) 31 0 x1.toNatClampNeg 1) 23 0 x5.toNatClampNeg)) 24 0 x5.toNatClampNeg)) 31 0 x1.toNatClampNeg 2)) ∧ (¬ ((ab_su (ab_su (ab_su (ab_su S 30 0 x1.toNatClampNeg (vp_nar .boolean 0)) 31 0 x1.toNatClampNeg 1) 32 0 x1.toNatClampNeg ((ab_su (ab_su S 30 0 x1.toNatClampNeg (vp_nar .boolean 0)) 31 0 x1.toNatClampNeg 1) 23 0 x5.toNatClampNeg)) 33 0 x1.toNatClampNeg ((ab_su (ab_su (ab_su S 30 0 x1.toNatClampNeg (vp_nar .boolean 0)) 31 0 x1.toNatClampNeg 1) 32 0 x1.toNatClampNeg ((ab_su (ab_su S 30 0 x1.toNatClampNeg (vp_nar .boolean 0)) 31 0 x1.toNatClampNeg 1) 23 0 x5.toNatClampNeg)) 24 0 x5.toNatClampNeg)) 32 0 x1.toNatClampNeg) = (-9) → vp_in x1 24 ∧ (((ab_su (ab_su (ab_su (ab_su S 30 0 x1.toNatClampNeg (vp_nar .boolean 0)) 31 0 x1.toNatClampNeg 1) 32 0 x1.toNatClampNeg ((ab_su (ab_su S 30 0 x1.toNatClampNeg (vp_nar .boolean 0)) 31 0 x1.toNatClampNeg 1) 23 0 x5.toNatClampNeg)) 33 0 x1.toNatClampNeg ((ab_su (ab_su (ab_su S 30 0 x1.toNatClampNeg (vp_nar .boolean 0)) 31 0 x1.toNatClampNeg 1) 32 0 x1.toNatClampNeg ((ab_su (ab_su S 30 0 x1.toNatClampNeg (vp_nar .boolean 0)) 31 0 x1.toNatClampNeg 1) 23 0 x5.toNatClampNeg)) 24 0 x5.toNatClampNeg)) 33 0 x1.toNatClampNeg) = (-9) → vp_in x1 24 ∧ Q (.inl none) (ab_su (ab_su (ab_su (ab_su (ab_su S 30 0 x1.toNatClampNeg (vp_nar .boolean 0)) 31 0 x1.toNatClampNeg 1) 32 0 x1.toNatClampNeg ((ab_su (ab_su S 30 0 x1.toNatClampNeg (vp_nar .boolean 0)) 31 0 x1.toNatClampNeg 1) 23 0 x5.toNatClampNeg)) 33 0 x1.toNatClampNeg ((ab_su (ab_su (ab_su S 30 0 x1.toNatClampNeg (vp_nar .boolean 0)) 31 0 x1.toNatClampNeg 1) 32 0 x1.toNatClampNeg ((ab_su (ab_su S 30 0 x1.toNatClampNeg (vp_nar .boolean 0)) 31 0 x1.toNatClampNeg 1) 23 0 x5.toNatClampNeg)) 24 0 x5.toNatClampNeg)) 31 0 x1.toNatClampNeg 3)) ∧ (¬ ((ab_su (ab_su (ab_su (ab_su S 30 0 x1.toNatClampNeg (vp_nar .boolean 0)) 31 0 x1.toNatClampNeg 1) 32 0 x1.toNatClampNeg ((ab_su (ab_su S 30 0 x1.toNatClampNeg (vp_nar .boolean 0)) 31 0 x1.toNatClampNeg 1) 23 0 x5.toNatClampNeg)) 33 0 x1.toNatClampNeg ((ab_su (ab_su (ab_su S 30 0 x1.toNatClampNeg (vp_nar .boolean 0)) 31 0 x1.toNatClampNeg 1) 32 0 x1.toNatClampNeg ((ab_su (ab_su S 30 0 x1.toNatClampNeg (vp_nar .boolean 0)) 31 0 x1.toNatClampNeg 1) 23 0 x5.toNatClampNeg)) 24 0 x5.toNatClampNeg)) 33 0 x1.toNatClampNeg) = (-9) → vp_in x1 24 ∧ Q (.inl none) (ab_su (ab_su (ab_su (ab_su (ab_su S 30 0 x1.toNatClampNeg (vp_nar .boolean 0)) 31 0 x1.toNatClampNeg 1) 32 0 x1.toNatClampNeg ((ab_su (ab_su S 30 0 x1.toNatClampNeg (vp_nar .boolean 0)) 31 0 x1.toNatClampNeg 1) 23 0 x5.toNatClampNeg)) 33 0 x1.toNatClampNeg ((ab_su (ab_su (ab_su S 30 0 x1.toNatClampNeg (vp_nar .boolean 0)) 31 0 x1.toNatClampNeg 1) 32 0 x1.toNatClampNeg ((ab_su (ab_su S 30 0 x1.toNatClampNeg (vp_nar .boolean 0)) 31 0 x1.toNatClampNeg 1) 23 0 x5.toNatClampNeg)) 24 0 x5.toNatClampNeg)) 31 0 x1.toNatClampNeg 0)))) ∧ (¬ ((ab_su (ab_su (ab_su (ab_su S 30 0 x1.toNatClampNeg (vp_nar .boolean 0)) 31 0 x1.toNatClampNeg 1) 32 0 x1.toNatClampNeg ((ab_su (ab_su S 30 0 x1.toNatClampNeg (vp_nar .boolean 0)) 31 0 x1.toNatClampNeg 1) 23 0 x5.toNatClampNeg)) 33 0 x1.toNatClampNeg ((ab_su (ab_su (ab_su S 30 0 x1.toNatClampNeg (vp_nar .boolean 0)) 31 0 x1.toNatClampNeg 1) 32 0 x1.toNatClampNeg ((ab_su (ab_su S 30 0 x1.toNatClampNeg (vp_nar .boolean 0)) 31 0 x1.toNatClampNeg 1) 23 0 x5.toNatClampNeg)) 24 0 x5.toNatClampNeg)) 31 0 x1.toNatClampNeg) = 0 → Q (.inl none) (ab_su (ab_su (ab_su (ab_su S 30 0 x1.toNatClampNeg (vp_nar .boolean 0)) 31 0 x1.toNatClampNeg 1) 32 0 x1.toNatClampNeg ((ab_su (ab_su S 30 0 x1.toNatClampNeg (vp_nar .boolean 0)) 31 0 x1.toNatClampNeg 1) 23 0 x5.toNatClampNeg)) 33 0 x1.toNatClampNeg ((ab_su (ab_su (ab_su S 30 0 x1.toNatClampNeg (vp_nar .boolean 0)) 31 0 x1.toNatClampNeg 1) 32 0 x1.toNatClampNeg ((ab_su (ab_su S 30 0 x1.toNatClampNeg (vp_nar .boolean 0)) 31 0 x1.toNatClampNeg 1) 23 0 x5.toNatClampNeg)) 24 0 x5.toNatClampNeg)))) ∧ (¬ 0 = 0 → vp_in x4 336 ∧ vp_in x5 336 ∧ vp_in x6 336 ∧ vp_in x6 336 ∧ Sp_X6_choose [(.inl ((ab_su (ab_su (ab_su S 30 0 x1.toNatClampNeg (vp_nar .boolean 0)) 31 0 x1.toNatClampNeg 1) 32 0 x1.toNatClampNeg ((ab_su (ab_su S 30 0 x1.toNatClampNeg (vp_nar .boolean 0)) 31 0 x1.toNatClampNeg 1) 23 0 x5.toNatClampNeg)) 24 0 x4.toNatClampNeg)), (.inl ((ab_su (ab_su (ab_su S 30 0 x1.toNatClampNeg (vp_nar .boolean 0)) 31 0 x1.toNatClampNeg 1) 32 0 x1.toNatClampNeg ((ab_su (ab_su S 30 0 x1.toNatClampNeg (vp_nar .boolean 0)) 31 0 x1.toNatClampNeg 1) 23 0 x5.toNatClampNeg)) 24 0 x5.toNatClampNeg)), (.inl ((ab_su (ab_su (ab_su S 30 0 x1.toNatClampNeg (vp_nar .boolean 0)) 31 0 x1.toNatClampNeg 1) 32 0 x1.toNatClampNeg ((ab_su (ab_su S 30 0 x1.toNatClampNeg (vp_nar .boolean 0)) 31 0 x1.toNatClampNeg 1) 23 0 x5.toNatClampNeg)) 22 0 x6.toNatClampNeg)), (.inl ((ab_su (ab_su (ab_su S 30 0 x1.toNatClampNeg (vp_nar .boolean 0)) 31 0 x1.toNatClampNeg 1) 32 0 x1.toNatClampNeg ((ab_su (ab_su S 30 0 x1.toNatClampNeg (vp_nar .boolean 0)) 31 0 x1.toNatClampNeg 1) 23 0 x5.toNatClampNeg)) 24 0 x6.toNatClampNeg))] (ab_su (ab_su (ab_su S 30 0 x1.toNatClampNeg (vp_nar .boolean 0)) 31 0 x1.toNatClampNeg 1) 32 0 x1.toNatClampNeg ((ab_su (ab_su S 30 0 x1.toNatClampNeg (vp_nar .boolean 0)) 31 0 x1.toNatClampNeg 1) 23 0 x5.toNatClampNeg)) (ab_back Q G 217 [some (.inr (21, 0)), some (.inl x1), some (.inl x2), some (.inl x3), some (.inl x4), some (.inl x5), some (.inl x6), some (.inl xs0), some (.inl x5), some (.inl 0)] [(.inl x1), (.inr (33, 0))] 0))) ∧ (¬ 0 = 0 → vp_in x4 336 ∧ vp_in x5 336 ∧ vp_in x6 336 ∧ vp_in x6 336 ∧ Sp_X6_choose [(.inl ((ab_su (ab_su S 30 0 x1.toNatClampNeg (vp_nar .boolean 0)) 31 0 x1.toNatClampNeg 1) 23 0 x4.toNatClampNeg)), (.inl ((ab_su (ab_su S 30 0 x1.toNatClampNeg (vp_nar .boolean 0)) 31 0 x1.toNatClampNeg 1) 23 0 x5.toNatClampNeg)), (.inl ((ab_su (ab_su S 30 0 x1.toNatClampNeg (vp_nar .boolean 0)) 31 0 x1.toNatClampNeg 1) 22 0 x6.toNatClampNeg)), (.inl ((ab_su (ab_su S 30 0 x1.toNatClampNeg (vp_nar .boolean 0)) 31 0 x1.toNatClampNeg 1) 23 0 x6.toNatClampNeg))] (ab_su (ab_su S 30 0 x1.toNatClampNeg (vp_nar .boolean 0)) 31 0 x1.toNatClampNeg 1) (ab_back Q G 165 [some (.inr (21, 0)), some (.inl x1), some (.inl x2), some (.inl x3), some (.inl x4), some (.inl x5), some (.inl x6), some (.inl xs0), some (.inl x5), some (.inl 0)] [(.inl x1), (.inr (32, 0))] 0))) ∧ (¬ ((ab_su (ab_su S 30 0 x1.toNatClampNeg (vp_nar .boolean 0)) 31 0 x1.toNatClampNeg 1) 22 0 x4.toNatClampNeg) = 0 → vp_in x5 336 ∧ (((ab_su (ab_su S 30 0 x1.toNatClampNeg (vp_nar .boolean 0)) 31 0 x1.toNatClampNeg 1) 22 0 x5.toNatClampNeg) = 0 → (0 = 0 → vp_in x5 336 ∧ vp_in x1 24 ∧ (0 = 0 → vp_in x5 336 ∧ vp_in x1 24 ∧ vp_in x1 24 ∧ (((ab_su (ab_su (ab_su (ab_su S 30 0 x1.toNatClampNeg (vp_nar .boolean 0)) 31 0 x1.toNatClampNeg 1) 32 0 x1.toNatClampNeg ((ab_su (ab_su S 30 0 x1.toNatClampNeg (vp_nar .boolean 0)) 31 0 x1.toNatClampNeg 1) 23 0 x5.toNatClampNeg)) 33 0 x1.toNatClampNeg ((ab_su (ab_su (ab_su S 30 0 x1.toNatClampNeg (vp_nar .boolean 0)) 31 0 x1.toNatClampNeg 1) 32 0 x1.toNatClampNeg ((ab_su (ab_su S 30 0 x1.toNatClampNeg (vp_nar .boolean 0)) 31 0 x1.toNatClampNeg 1) 23 0 x5.toNatClampNeg)) 24 0 x5.toNatClampNeg)) 31 0 x1.toNatClampNeg) = 0 → vp_in x1 24 ∧ (((ab_su (ab_su (ab_su (ab_su S 30 0 x1.toNatClampNeg (vp_nar .boolean 0)) 31 0 x1.toNatClampNeg 1) 32 0 x1.toNatClampNeg ((ab_su (ab_su S 30 0 x1.toNatClampNeg (vp_nar .boolean 0)) 31 0 x1.toNatClampNeg 1) 23 0 x5.toNatClampNeg)) 33 0 x1.toNatClampNeg ((ab_su (ab_su (ab_su S 30 0 x1.toNatClampNeg (vp_nar .boolean 0)) 31 0 x1.toNatClampNeg 1) 32 0 x1.toNatClampNeg ((ab_su (ab_su S 30 0 x1.toNatClampNeg (vp_nar .boolean 0)) 31 0 x1.toNatClampNeg 1) 23 0 x5.toNatClampNeg)) 24 0 x5.toNatClampNeg)) 32 0 x1.toNatClampNeg) = (-9) → vp_in x1 24 ∧ Q (.inl none) (ab_su (ab_su (ab_su (ab_su (ab_su S 30 0 x1.toNatClampNeg (vp_nar .boolean 0)) 31 0 x1.toNatClampNeg 1) 32 0 x1.toNatClampNeg ((ab_su (ab_su S 30 0 x1.toNatClampNeg (vp_nar .boolean 0)) 31 0 x1.toNatClampNeg 1) 23 0 x5.toNatClampNeg)) 33 0 x1.toNatClampNeg ((ab_su (ab_su (ab_su S 30 0 x1.toNatClampNeg (vp_nar .boolean 0)) 31 0 x1.toNatClampNeg 1) 32 0 x1.toNatClampNeg ((ab_su (ab_su S 30 0 x1.toNatClampNeg (vp_nar .boolean 0)) 31 0 x1.toNatClampNeg 1) 23 0 x5.toNatClampNeg)) 24 0 x5.toNatClampNeg)) 31 0 x1.toNatClampNeg 2)) ∧ (¬ ((ab_su (ab_su (ab_su (ab_su S 30 0 x1.toNatClampNeg (vp_nar .boolean 0)) 31 0 x1.toNatClampNeg 1) 32 0 x1.toNatClampNeg ((ab_su (ab_su S 30 0 x1.toNatClampNeg (vp_nar .boolean 0)) 31 0 x1.toNatClampNeg 1) 23 0 x5.toNatClampNeg)) 33 0 x1.toNatClampNeg ((ab_su (ab_su (ab_su S 30 0 x1.toNatClampNeg (vp_nar .boolean 0)) 31 0 x1.toNatClampNeg 1) 32 0 x1.toNatClampNeg ((ab_su (ab_su S 30 0 x1.toNatClampNeg (vp_nar .boolean 0)) 31 0 x1.toNatClampNeg 1) 23 0 x5.toNatClampNeg)) 24 0 x5.toNatClampNeg)) 32 0 x1.toNatClampNeg) = (-9) → vp_in x1 24 ∧ (((ab_su (ab_su (ab_su (ab_su S 30 0 x1.toNatClampNeg (vp_nar .boolean 0)) 31 0 x1.toNatClampNeg 1) 32 0 x1.toNatClampNeg ((ab_su (ab_su S 30 0 x1.toNatClampNeg (vp_nar .boolean 0)) 31 0 x1.toNatClampNeg 1) 23 0 x5.toNatClampNeg)) 33 0 x1.toNatClampNeg ((ab_su (ab_su (ab_su S 30 0 x1.toNatClampNeg (vp_nar .boolean 0)) 31 0 x1.toNatClampNeg 1) 32 0 x1.toNatClampNeg ((ab_su (ab_su S 30 0 x1.toNatClampNeg (vp_nar .boolean 0)) 31 0 x1.toNatClampNeg 1) 23 0 x5.toNatClampNeg)) 24 0 x5.toNatClampNeg)) 33 0 x1.toNatClampNeg) = (-9) → vp_in x1 24 ∧ Q (.inl none) (ab_su (ab_su (ab_su (ab_su (ab_su S 30 0 x1.toNatClampNeg (vp_nar .boolean 0)) 31 0 x1.toNatClampNeg 1) 32 0 x1.toNatClampNeg ((ab_su (ab_su S 30 0 x1.toNatClampNeg (vp_nar .boolean 0)) 31 0 x1.toNatClampNeg 1) 23 0 x5.toNatClampNeg)) 33 0 x1.toNatClampNeg ((ab_su (ab_su (ab_su S 30 0 x1.toNatClampNeg (vp_nar .boolean 0)) 31 0 x1.toNatClampNeg 1) 32 0 x1.toNatClampNeg ((ab_su (ab_su S 30 0 x1.toNatClampNeg (vp_nar .boolean 0)) 31 0 x1.toNatClampNeg 1) 23 0 x5.toNatClampNeg)) 24 0 x5.toNatClampNeg)) 31 0 x1.toNatClampNeg 3)) ∧ (¬ ((ab_su (ab_su (ab_su (ab_su S 30 0 x1.toNatClampNeg (vp_nar .boolean 0)) 31 0 x1.toNatClampNeg 1) 32 0 x1.toNatClampNeg ((ab_su (ab_su S 30 0 x1.toNatClampNeg (vp_nar .boolean 0)) 31 0 x1.toNatClampNeg 1) 23 0 x5.toNatClampNeg)) 33 0 x1.toNatClampNeg ((ab_su (ab_su (ab_su S 30 0 x1.toNatClampNeg (vp_nar .boolean 0)) 31 0 x1.toNatClampNeg 1) 32 0 x1.toNatClampNeg ((ab_su (ab_su S 30 0 x1.toNatClampNeg (vp_nar .boolean 0)) 31 0 x1.toNatClampNeg 1) 23 0 x5.toNatClampNeg)) 24 0 x5.toNatClampNeg)) 33 0 x1.toNatClampNeg) = (-9) → vp_in x1 24 ∧ Q (.inl none) (ab_su (ab_su (ab_su (ab_su (ab_su S 30 0 x1.toNatClampNeg (vp_nar .boolean 0)) 31 0 x1.toNatClampNeg 1) 32 0 x1.toNatClampNeg ((ab_su (ab_su S 30 0 x1.toNatClampNeg (vp_nar .boolean 0)) 31 0 x1.toNatClampNeg 1) 23 0 x5.toNatClampNeg)) 33 0 x1.toNatClampNeg ((ab_su (ab_su (ab_su S 30 0 x1.toNatClampNeg (vp_nar .boolean 0)) 31 0 x1.toNatClampNeg 1) 32 0 x1.toNatClampNeg ((ab_su (ab_su S 30 0 x1.toNatClampNeg (vp_nar .boolean 0)) 31 0 x1.toNatClampNeg 1) 23 0 x5.toNatClampNeg)) 24 0 x5.toNatClampNeg)) 31 0 x1.toNatClampNeg 0)))) ∧ (¬ ((ab_su (ab_su (ab_su (ab_su S 30 0 x1.toNatClampNeg (vp_nar .boolean 0)) 31 0 x1.toNatClampNeg 1) 32 0 x1.toNatClampNeg ((ab_su (ab_su S 30 0 x1.toNatClampNeg (vp_nar .boolean 0)) 31 0 x1.toNatClampNeg 1) 23 0 x5.toNatClampNeg)) 33 0 x1.toNatClampNeg ((ab_su (ab_su (ab_su S 30 0 x1.toNatClampNeg (vp_nar .boolean 0)) 31 0 x1.toNatClampNeg 1) 32 0 x1.toNatClampNeg ((ab_su (ab_su S 30 0 x1.toNatClampNeg (vp_nar .boolean 0)) 31 0 x1.toNatClampNeg 1) 23 0 x5.toNatClampNeg)) 24 0 x5.toNatClampNeg)) 31 0 x1.toNatClampNeg) = 0 → Q (.inl none) (ab_su (ab_su (ab_su (ab_su S 30 0 x1.toNatClampNeg (vp_nar .boolean 0)) 31 0 x1.toNatClampNeg 1) 32 0 x1.toNatClampNeg ((ab_su (ab_su S 30 0 x1.toNatClampNeg (vp_nar .boolean 0)) 31 0 x1.toNatClampNeg 1) 23 0 x5.toNatClampNeg)) 33 0 x1.toNatClampNeg ((ab_su (ab_su (ab_su S 30 0 x1.toNatClampNeg (vp_nar .boolean 0)) 31 0 x1.toNatClampNeg 1) 32 0 x1.toNatClampNeg ((ab_su (ab_su S 30 0 x1.toNatClampNeg (vp_nar .boolean 0)) 31 0 x1.toNatClampNeg 1) 23 0 x5.toNatClampNeg)) 24 0 x5.toNatClampNeg)))) ∧ (¬ 0 = 0 → vp_in x4 336 ∧ vp_in x5 336 ∧ vp_in x6 336 ∧ vp_in x6 336 ∧ Sp_X6_choose [(.inl ((ab_su (ab_su (ab_su S 30 0 x1.toNatClampNeg (vp_nar .boolean 0)) 31 0 x1.toNatClampNeg 1) 32 0 x1.toNatClampNeg ((ab_su (ab_su S 30 0 x1.toNatClampNeg (vp_nar .boolean 0)) 31 0 x1.toNatClampNeg 1) 23 0 x5.toNatClampNeg)) 24 0 x4.toNatClampNeg)), (.inl ((ab_su (ab_su (ab_su S 30 0 x1.toNatClampNeg (vp_nar .boolean 0)) 31 0 x1.toNatClampNeg 1) 32 0 x1.toNatClampNeg ((ab_su (ab_su S 30 0 x1.toNatClampNeg (vp_nar .boolean 0)) 31 0 x1.toNatClampNeg 1) 23 0 x5.toNatClampNeg)) 24 0 x5.toNatClampNeg)), (.inl ((ab_su (ab_su (ab_su S 30 0 x1.toNatClampNeg (vp_nar .boolean 0)) 31 0 x1.toNatClampNeg 1) 32 0 x1.toNatClampNeg ((ab_su (ab_su S 30 0 x1.toNatClampNeg (vp_nar .boolean 0)) 31 0 x1.toNatClampNeg 1) 23 0 x5.toNatClampNeg)) 22 0 x6.toNatClampNeg)), (.inl ((ab_su (ab_su (ab_su S 30 0 x1.toNatClampNeg (vp_nar .boolean 0)) 31 0 x1.toNatClampNeg 1) 32 0 x1.toNatClampNeg ((ab_su (ab_su S 30 0 x1.toNatClampNeg (vp_nar .boolean 0)) 31 0 x1.toNatClampNeg 1) 23 0 x5.toNatClampNeg)) 24 0 x6.toNatClampNeg))] (ab_su (ab_su (ab_su S 30 0 x1.toNatClampNeg (vp_nar .boolean 0)) 31 0 x1.toNatClampNeg 1) 32 0 x1.toNatClampNeg ((ab_su (ab_su S 30 0 x1.toNatClampNeg (vp_nar .boolean 0)) 31 0 x1.toNatClampNeg 1) 23 0 x5.toNatClampNeg)) (ab_back Q G 217 [some (.inr (21, 0)), some (.inl x1), some (.inl x2), some (.inl x3), some (.inl x4), some (.inl x5), some (.inl x6), some (.inl xs0), some (.inl x5), some (.inl 0)] [(.inl x1), (.inr (33, 0))] 0))) ∧ (¬ 0 = 0 → vp_in x4 336 ∧ vp_in x5 336 ∧ vp_in x6 336 ∧ vp_in x6 336 ∧ Sp_X6_choose [(.inl ((ab_su (ab_su S 30 0 x1.toNatClampNeg (vp_nar .boolean 0)) 31 0 x1.toNatClampNeg 1) 23 0 x4.toNatClampNeg)), (.inl ((ab_su (ab_su S 30 0 x1.toNatClampNeg (vp_nar .boolean 0)) 31 0 x1.toNatClampNeg 1) 23 0 x5.toNatClampNeg)), (.inl ((ab_su (ab_su S 30 0 x1.toNatClampNeg (vp_nar .boolean 0)) 31 0 x1.toNatClampNeg 1) 22 0 x6.toNatClampNeg)), (.inl ((ab_su (ab_su S 30 0 x1.toNatClampNeg (vp_nar .boolean 0)) 31 0 x1.toNatClampNeg 1) 23 0 x6.toNatClampNeg))] (ab_su (ab_su S 30 0 x1.toNatClampNeg (vp_nar .boolean 0)) 31 0 x1.toNatClampNeg 1) (ab_back Q G 165 [some (.inr (21, 0)), some (.inl x1), some (.inl x2), some (.inl x3), some (.inl x4), some (.inl x5), some (.inl x6), some (.inl xs0), some (.inl x5), some (.inl 0)] [(.inl x1), (.inr (32, 0))] 0))) ∧ (¬ ((ab_su (ab_su S 30 0 x1.toNatClampNeg (vp_nar .boolean 0)) 31 0 x1.toNatClampNeg 1) 22 0 x5.toNatClampNeg) = 0 → (1 = 0 → vp_in x5 336 ∧ vp_in x1 24 ∧ (1 = 0 → vp_in x5 336 ∧ vp_in x1 24 ∧ vp_in x1 24 ∧ (((ab_su (ab_su (ab_su (ab_su S 30 0 x1.toNatClampNeg (vp_nar .boolean 0)) 31 0 x1.toNatClampNeg 1) 32 0 x1.toNatClampNeg ((ab_su (ab_su S 30 0 x1.toNatClampNeg (vp_nar .boolean 0)) 31 0 x1.toNatClampNeg 1) 23 0 x5.toNatClampNeg)) 33 0 x1.toNatClampNeg ((ab_su (ab_su (ab_su S 30 0 x1.toNatClampNeg (vp_nar .boolean 0)) 31 0 x1.toNatClampNeg 1) 32 0 x1.toNatClampNeg ((ab_su (ab_su S 30 0 x1.toNatClampNeg (vp_nar .boolean 0)) 31 0 x1.toNatClampNeg 1) 23 0 x5.toNatClampNeg)) 24 0 x5.toNatClampNeg)) 31 0 x1.toNatClampNeg) = 0 → vp_in x1 24 ∧ (((ab_su (ab_su (ab_su (ab_su S 30 0 x1.toNatClampNeg (vp_nar .boolean 0)) 31 0 x1.toNatClampNeg 1) 32 0 x1.toNatClampNeg ((ab_su (ab_su S 30 0 x1.toNatClampNeg (vp_nar .boolean 0)) 31 0 x1.toNatClampNeg 1) 23 0 x5.toNatClampNeg)) 33 0 x1.toNatClampNeg ((ab_su (ab_su (ab_su S 30 0 x1.toNatClampNeg (vp_nar .boolean 0)) 31 0 x1.toNatClampNeg 1) 32 0 x1.toNatClampNeg ((ab_su (ab_su S 30 0 x1.toNatClampNeg (vp_nar .boolean 0)) 31 0 x1.toNatClampNeg 1) 23 0 x5.toNatClampNeg)) 24 0 x5.toNatClampNeg)) 32 0 x1.toNatClampNeg) = (-9) → vp_in x1 24 ∧ Q (.inl none) (ab_su (ab_su (ab_su (ab_su (ab_su S 30 0 x1.toNatClampNeg (vp_nar .boolean 0)) 31 0 x1.toNatClampNeg 1) 32 0 x1.toNatClampNeg ((ab_su (ab_su S 30 0 x1.toNatClampNeg (vp_nar .boolean 0)) 31 0 x1.toNatClampNeg 1) 23 0 x5.toNatClampNeg)) 33 0 x1.toNatClampNeg ((ab_su (ab_su (ab_su S 30 0 x1.toNatClampNeg (vp_nar .boolean 0)) 31 0 x1.toNatClampNeg 1) 32 0 x1.toNatClampNeg ((ab_su (ab_su S 30 0 x1.toNatClampNeg (vp_nar .boolean 0)) 31 0 x1.toNatClampNeg 1) 23 0 x5.toNatClampNeg)) 24 0 x5.toNatClampNeg)) 31 0 x1.toNatClampNeg 2)) ∧ (¬ ((ab_su (ab_su (ab_su (ab_su S 30 0 x1.toNatClampNeg (vp_nar .boolean 0)) 31 0 x1.toNatClampNeg 1) 32 0 x1.toNatClampNeg ((ab_su (ab_su S 30 0 x1.toNatClampNeg (vp_nar .boolean 0)) 31 0 x1.toNatClampNeg 1) 23 0 x5.toNatClampNeg)) 33 0 x1.toNatClampNeg ((ab_su (ab_su (ab_su S 30 0 x1.toNatClampNeg (vp_nar .boolean 0)) 31 0 x1.toNatClampNeg 1) 32 0 x1.toNatClampNeg ((ab_su (ab_su S 30 0 x1.toNatClampNeg (vp_nar .boolean 0)) 31 0 x1.toNatClampNeg 1) 23 0 x5.toNatClampNeg)) 24 0 x5.toNatClampNeg)) 32 0 x1.toNatClampNeg) = (-9) → vp_in x1 24 ∧ (((ab_su (ab_su (ab_su (ab_su S 30 0 x1.toNatClampNeg (vp_nar .boolean 0)) 31 0 x1.toNatClampNeg 1) 32 0 x1.toNatClampNeg ((ab_su (ab_su S 30 0 x1.toNatClampNeg (vp_nar .boolean 0)) 31 0 x1.toNatClampNeg 1) 23 0 x5.toNatClampNeg)) 33 0 x1.toNatClampNeg ((ab_su (ab_su (ab_su S 30 0 x1.toNatClampNeg (vp_nar .boolean 0)) 31 0 x1.toNatClampNeg 1) 32 0 x1.toNatClampNeg ((ab_su (ab_su S 30 0 x1.toNatClampNeg (vp_nar .boolean 0)) 31 0 x1.toNatClampNeg 1) 23 0 x5.toNatClampNeg)) 24 0 x5.toNatClampNeg)) 33 0 x1.toNatClampNeg) = (-9) → vp_in x1 24 ∧ Q (.inl none) (ab_su (ab_su (ab_su (ab_su (ab_su S 30 0 x1.toNatClampNeg (vp_nar .boolean 0)) 31 0 x1.toNatClampNeg 1) 32 0 x1.toNatClampNeg ((ab_su (ab_su S 30 0 x1.toNatClampNeg (vp_nar .boolean 0)) 31 0 x1.toNatClampNeg 1) 23 0 x5.toNatClampNeg)) 33 0 x1.toNatClampNeg ((ab_su (ab_su (ab_su S 30 0 x1.toNatClampNeg (vp_nar .boolean 0)) 31 0 x1.toNatClampNeg 1) 32 0 x1.toNatClampNeg ((ab_su (ab_su S 30 0 x1.toNatClampNeg (vp_nar .boolean 0)) 31 0 x1.toNatClampNeg 1) 23 0 x5.toNatClampNeg)) 24 0 x5.toNatClampNeg)) 31 0 x1.toNatClampNeg 3)) ∧ (¬ ((ab_su (ab_su (ab_su (ab_su S 30 0 x1.toNatClampNeg (vp_nar .boolean 0)) 31 0 x1.toNatClampNeg 1) 32 0 x1.toNatClampNeg ((ab_su (ab_su S 30 0 x1.toNatClampNeg (vp_nar .boolean 0)) 31 0 x1.toNatClampNeg 1) 23 0 x5.toNatClampNeg)) 33 0 x1.toNatClampNeg ((ab_su (ab_su (ab_su S 30 0 x1.toNatClampNeg (vp_nar .boolean 0)) 31 0 x1.toNatClampNeg 1) 32 0 x1.toNatClampNeg ((ab_su (ab_su S 30 0 x1.toNatClampNeg (vp_nar .boolean 0)) 31 0 x1.toNatClampNeg 1) 23 0 x5.toNatClampNeg)) 24 0 x5.toNatClampNeg)) 33 0 x1.toNatClampNeg) = (-9) → vp_in x1 24 ∧ Q (.inl none) (ab_su (ab_su (ab_su (ab_su (ab_su S 30 0 x1.toNatClampNeg (vp_nar .boolean 0)) 31 0 x1.toNatClampNeg 1) 32 0 x1.toNatClampNeg ((ab_su (ab_su S 30 0 x1.toNatClampNeg (vp_nar .boolean 0)) 31 0 x1.toNatClampNeg 1) 23 0 x5.toNatClampNeg)) 33 0 x1.toNatClampNeg ((ab_su (ab_su (ab_su S 30 0 x1.toNatClampNeg (vp_nar .boolean 0)) 31 0 x1.toNatClampNeg 1) 32 0 x1.toNatClampNeg ((ab_su (ab_su S 30 0 x1.toNatClampNeg (vp_nar .boolean 0)) 31 0 x1.toNatClampNeg 1) 23 0 x5.toNatClampNeg)) 24 0 x5.toNatClampNeg)) 31 0 x1.toNatClampNeg 0)))) ∧ (¬ ((ab_su (ab_su (ab_su (ab_su S 30 0 x1.toNatClampNeg (vp_nar .boolean 0)) 31 0 x1.toNatClampNeg 1) 32 0 x1.toNatClampNeg ((ab_su (ab_su S 30 0 x1.toNatClampNeg (vp_nar .boolean 0)) 31 0 x1.toNatClampNeg 1) 23 0 x5.toNatClampNeg)) 33 0 x1.toNatClampNeg ((ab_su (ab_su (ab_su S 30 0 x1.toNatClampNeg (vp_nar .boolean 0)) 31 0 x1.toNatClampNeg 1) 32 0 x1.toNatClampNeg ((ab_su (ab_su S 30 0 x1.toNatClampNeg (vp_nar .boolean 0)) 31 0 x1.toNatClampNeg 1) 23 0 x5.toNatClampNeg)) 24 0 x5.toNatClampNeg)) 31 0 x1.toNatClampNeg) = 0 → Q (.inl none) (ab_su (ab_su (ab_su (ab_su S 30 0 x1.toNatClampNeg (vp_nar .boolean 0)) 31 0 x1.toNatClampNeg 1) 32 0 x1.toNatClampNeg ((ab_su (ab_su S 30 0 x1.toNatClampNeg (vp_nar .boolean 0)) 31 0 x1.toNatClampNeg 1) 23 0 x5.toNatClampNeg)) 33 0 x1.toNatClampNeg ((ab_su (ab_su (ab_su S 30 0 x1.toNatClampNeg (vp_nar .boolean 0)) 31 0 x1.toNatClampNeg 1) 32 0 x1.toNatClampNeg ((ab_su (ab_su S 30 0 x1.toNatClampNeg (vp_nar .boolean 0)) 31 0 x1.toNatClampNeg 1) 23 0 x5.toNatClampNeg)) 24 0 x5.toNatClampNeg)))) ∧ (¬ 1 = 0 → vp_in x4 336 ∧ vp_in x5 336 ∧ vp_in x6 336 ∧ vp_in x6 336 ∧ Sp_X6_choose [(.inl ((ab_su (ab_su (ab_su S 30 0 x1.toNatClampNeg (vp_nar .boolean 0)) 31 0 x1.toNatClampNeg 1) 32 0 x1.toNatClampNeg ((ab_su (ab_su S 30 0 x1.toNatClampNeg (vp_nar .boolean 0)) 31 0 x1.toNatClampNeg 1) 23 0 x5.toNatClampNeg)) 24 0 x4.toNatClampNeg)), (.inl ((ab_su (ab_su (ab_su S 30 0 x1.toNatClampNeg (vp_nar .boolean 0)) 31 0 x1.toNatClampNeg 1) 32 0 x1.toNatClampNeg ((ab_su (ab_su S 30 0 x1.toNatClampNeg (vp_nar .boolean 0)) 31 0 x1.toNatClampNeg 1) 23 0 x5.toNatClampNeg)) 24 0 x5.toNatClampNeg)), (.inl ((ab_su (ab_su (ab_su S 30 0 x1.toNatClampNeg (vp_nar .boolean 0)) 31 0 x1.toNatClampNeg 1) 32 0 x1.toNatClampNeg ((ab_su (ab_su S 30 0 x1.toNatClampNeg (vp_nar .boolean 0)) 31 0 x1.toNatClampNeg 1) 23 0 x5.toNatClampNeg)) 22 0 x6.toNatClampNeg)), (.inl ((ab_su (ab_su (ab_su S 30 0 x1.toNatClampNeg (vp_nar .boolean 0)) 31 0 x1.toNatClampNeg 1) 32 0 x1.toNatClampNeg ((ab_su (ab_su S 30 0 x1.toNatClampNeg (vp_nar .boolean 0)) 31 0 x1.toNatClampNeg 1) 23 0 x5.toNatClampNeg)) 24 0 x6.toNatClampNeg))] (ab_su (ab_su (ab_su S 30 0 x1.toNatClampNeg (vp_nar .boolean 0)) 31 0 x1.toNatClampNeg 1) 32 0 x1.toNatClampNeg ((ab_su (ab_su S 30 0 x1.toNatClampNeg (vp_nar .boolean 0)) 31 0 x1.toNatClampNeg 1) 23 0 x5.toNatClampNeg)) (ab_back Q G 217 [some (.inr (21, 0)), some (.inl x1), some (.inl x2), some (.inl x3), some (.inl x4), some (.inl x5), some (.inl x6), some (.inl xs0), some (.inl x5), some (.inl 1)] [(.inl x1), (.inr (33, 0))] 0))) ∧ (¬ 1 = 0 → vp_in x4 336 ∧ vp_in x5 336 ∧ vp_in x6 336 ∧ vp_in x6 336 ∧ Sp_X6_choose [(.inl ((ab_su (ab_su S 30 0 x1.toNatClampNeg (vp_nar .boolean 0)) 31 0 x1.toNatClampNeg 1) 23 0 x4.toNatClampNeg)), (.inl ((ab_su (ab_su S 30 0 x1.toNatClampNeg (vp_nar .boolean 0)) 31 0 x1.toNatClampNeg 1) 23 0 x5.toNatClampNeg)), (.inl ((ab_su (ab_su S 30 0 x1.toNatClampNeg (vp_nar .boolean 0)) 31 0 x1.toNatClampNeg 1) 22 0 x6.toNatClampNeg)), (.inl ((ab_su (ab_su S 30 0 x1.toNatClampNeg (vp_nar .boolean 0)) 31 0 x1.toNatClampNeg 1) 23 0 x6.toNatClampNeg))] (ab_su (ab_su S 30 0 x1.toNatClampNeg (vp_nar .boolean 0)) 31 0 x1.toNatClampNeg 1) (ab_back Q G 165 [some (.inr (21, 0)), some (.inl x1), some (.inl x2), some (.inl x3), some (.inl x4), some (.inl x5), some (.inl x6), some (.inl xs0), some (.inl x5), some (.inl 1)] [(.inl x1), (.inr (32, 0))] 0))))) ∧ (¬ ((ab_su (ab_su S 30 0 x1.toNatClampNeg (vp_nar .boolean 0)) 31 0 x1.toNatClampNeg 1) 22 0 x4.toNatClampNeg) = 0 → vp_in x4 336 ∧ (((ab_su (ab_su S 30 0 x1.toNatClampNeg (vp_nar .boolean 0)) 31 0 x1.toNatClampNeg 1) 22 0 x4.toNatClampNeg) = 0 → (0 = 0 → vp_in x4 336 ∧ vp_in x1 24 ∧ (0 = 0 → vp_in x4 336 ∧ vp_in x1 24 ∧ vp_in x1 24 ∧ (((ab_su (ab_su (ab_su (ab_su S 30 0 x1.toNatClampNeg (vp_nar .boolean 0)) 31 0 x1.toNatClampNeg 1) 32 0 x1.toNatClampNeg ((ab_su (ab_su S 30 0 x1.toNatClampNeg (vp_nar .boolean 0)) 31 0 x1.toNatClampNeg 1) 23 0 x4.toNatClampNeg)) 33 0 x1.toNatClampNeg ((ab_su (ab_su (ab_su S 30 0 x1.toNatClampNeg (vp_nar .boolean 0)) 31 0 x1.toNatClampNeg 1) 32 0 x1.toNatClampNeg ((ab_su (ab_su S 30 0 x1.toNatClampNeg (vp_nar .boolean 0)) 31 0 x1.toNatClampNeg 1) 23 0 x4.toNatClampNeg)) 24 0 x4.toNatClampNeg)) 31 0 x1.toNatClampNeg) = 0 → vp_in x1 24 ∧ (((ab_su (ab_su (ab_su (ab_su S 30 0 x1.toNatClampNeg (vp_nar .boolean 0)) 31 0 x1.toNatClampNeg 1) 32 0 x1.toNatClampNeg ((ab_su (ab_su S 30 0 x1.toNatClampNeg (vp_nar .boolean 0)) 31 0 x1.toNatClampNeg 1) 23 0 x4.toNatClampNeg)) 33 0 x1.toNatClampNeg ((ab_su (ab_su (ab_su S 30 0 x1.toNatClampNeg (vp_nar .boolean 0)) 31 0 x1.toNatClampNeg 1) 32 0 x1.toNatClampNeg ((ab_su (ab_su S 30 0 x1.toNatClampNeg (vp_nar .boolean 0)) 31 0 x1.toNatClampNeg 1) 23 0 x4.toNatClampNeg)) 24 0 x4.toNatClampNeg)) 32 0 x1.toNatClampNeg) = (-9) → vp_in x1 24 ∧ Q (.inl none) (ab_su (ab_su (ab_su (ab_su (ab_su S 30 0 x1.toNatClampNeg (vp_nar .boolean 0)) 31 0 x1.toNatClampNeg 1) 32 0 x1.toNatClampNeg ((ab_su (ab_su S 30 0 x1.toNatClampNeg (vp_nar .boolean 0)) 31 0 x1.toNatClampNeg 1) 23 0 x4.toNatClampNeg)) 33 0 x1.toNatClampNeg ((ab_su (ab_su (ab_su S 30 0 x1.toNatClampNeg (vp_nar .boolean 0)) 31 0 x1.toNatClampNeg 1) 32 0 x1.toNatClampNeg ((ab_su (ab_su S 30 0 x1.toNatClampNeg (vp_nar .boolean 0)) 31 0 x1.toNatClampNeg 1) 23 0 x4.toNatClampNeg)) 24 0 x4.toNatClampNeg)) 31 0 x1.toNatClampNeg 2)) ∧ (¬ ((ab_su (ab_su (ab_su (ab_su S 30 0 x1.toNatClampNeg (vp_nar .boolean 0)) 31 0 x1.toNatClampNeg 1) 32 0 x1.toNatClampNeg ((ab_su (ab_su S 30 0 x1.toNatClampNeg (vp_nar .boolean 0)) 31 0 x1.toNatClampNeg 1) 23 0 x4.toNatClampNeg)) 33 0 x1.toNatClampNeg ((ab_su (ab_su (ab_su S 30 0 x1.toNatClampNeg (vp_nar .boolean 0)) 31 0 x1.toNatClampNeg 1) 32 0 x1.toNatClampNeg ((ab_su (ab_su S 30 0 x1.toNatClampNeg (vp_nar .boolean 0)) 31 0 x1.toNatClampNeg 1) 23 0 x4.toNatClampNeg)) 24 0 x4.toNatClampNeg)) 32 0 x1.toNatClampNeg) = (-9) → vp_in x1 24 ∧ (((ab_su (ab_su (ab_su (ab_su S 30 0 x1.toNatClampNeg (vp_nar .boolean 0)) 31 0 x1.toNatClampNeg 1) 32 0 x1.toNatClampNeg ((ab_su (ab_su S 30 0 x1.toNatClampNeg (vp_nar .boolean 0)) 31 0 x1.toNatClampNeg 1) 23 0 x4.toNatClampNeg)) 33 0 x1.toNatClampNeg ((ab_su (ab_su (ab_su S 30 0 x1.toNatClampNeg (vp_nar .boolean 0)) 31 0 x1.toNatClampNeg 1) 32 0 x1.toNatClampNeg ((ab_su (ab_su S 30 0 x1.toNatClampNeg (vp_nar .boolean 0)) 31 0 x1.toNatClampNeg 1) 23 0 x4.toNatClampNeg)) 24 0 x4.toNatClampNeg)) 33 0 x1.toNatClampNeg) = (-9) → vp_in x1 24 ∧ Q (.inl none) (ab_su (ab_su (ab_su (ab_su (ab_su S 30 0 x1.toNatClampNeg (vp_nar .boolean 0)) 31 0 x1.toNatClampNeg 1) 32 0 x1.toNatClampNeg ((ab_su (ab_su S 30 0 x1.toNatClampNeg (vp_nar .boolean 0)) 31 0 x1.toNatClampNeg 1) 23 0 x4.toNatClampNeg)) 33 0 x1.toNatClampNeg ((ab_su (ab_su (ab_su S 30 0 x1.toNatClampNeg (vp_nar .boolean 0)) 31 0 x1.toNatClampNeg 1) 32 0 x1.toNatClampNeg ((ab_su (ab_su S 30 0 x1.toNatClampNeg (vp_nar .boolean 0)) 31 0 x1.toNatClampNeg 1) 23 0 x4.toNatClampNeg)) 24 0 x4.toNatClampNeg)) 31 0 x1.toNatClampNeg 3)) ∧ (¬ ((ab_su (ab_su (ab_su (ab_su S 30 0 x1.toNatClampNeg (vp_nar .boolean 0)) 31 0 x1.toNatClampNeg 1) 32 0 x1.toNatClampNeg ((ab_su (ab_su S 30 0 x1.toNatClampNeg (vp_nar .boolean 0)) 31 0 x1.toNatClampNeg 1) 23 0 x4.toNatClampNeg)) 33 0 x1.toNatClampNeg ((ab_su (ab_su (ab_su S 30 0 x1.toNatClampNeg (vp_nar .boolean 0)) 31 0 x1.toNatClampNeg 1) 32 0 x1.toNatClampNeg ((ab_su (ab_su S 30 0 x1.toNatClampNeg (vp_nar .boolean 0)) 31 0 x1.toNatClampNeg 1) 23 0 x4.toNatClampNeg)) 24 0 x4.toNatClampNeg)) 33 0 x1.toNatClampNeg) = (-9) → vp_in x1 24 ∧ Q (.inl none) (ab_su (ab_su (ab_su (ab_su (ab_su S 30 0 x1.toNatClampNeg (vp_nar .boolean 0)) 31 0 x1.toNatClampNeg 1) 32 0 x1.toNatClampNeg ((ab_su (ab_su S 30 0 x1.toNatClampNeg (vp_nar .boolean 0)) 31 0 x1.toNatClampNeg 1) 23 0 x4.toNatClampNeg)) 33 0 x1.toNatClampNeg ((ab_su (ab_su (ab_su S 30 0 x1.toNatClampNeg (vp_nar .boolean 0)) 31 0 x1.toNatClampNeg 1) 32 0 x1.toNatClampNeg ((ab_su (ab_su S 30 0 x1.toNatClampNeg (vp_nar .boolean 0)) 31 0 x1.toNatClampNeg 1) 23 0 x4.toNatClampNeg)) 24 0 x4.toNatClampNeg)) 31 0 x1.toNatClampNeg 0)))) ∧ (¬ ((ab_su (ab_su (ab_su (ab_su S 30 0 x1.toNatClampNeg (vp_nar .boolean 0)) 31 0 x1.toNatClampNeg 1) 32 0 x1.toNatClampNeg ((ab_su (ab_su S 30 0 x1.toNatClampNeg (vp_nar .boolean 0)) 31 0 x1.toNatClampNeg 1) 23 0 x4.toNatClampNeg)) 33 0 x1.toNatClampNeg ((ab_su (ab_su (ab_su S 30 0 x1.toNatClampNeg (vp_nar .boolean 0)) 31 0 x1.toNatClampNeg 1) 32 0 x1.toNatClampNeg ((ab_su (ab_su S 30 0 x1.toNatClampNeg (vp_nar .boolean 0)) 31 0 x1.toNatClampNeg 1) 23 0 x4.toNatClampNeg)) 24 0 x4.toNatClampNeg)) 31 0 x1.toNatClampNeg) = 0 → Q (.inl none) (ab_su (ab_su (ab_su (ab_su S 30 0 x1.toNatClampNeg (vp_nar .boolean 0)) 31 0 x1.toNatClampNeg 1) 32 0 x1.toNatClampNeg ((ab_su (ab_su S 30 0 x1.toNatClampNeg (vp_nar .boolean 0)) 31 0 x1.toNatClampNeg 1) 23 0 x4.toNatClampNeg)) 33 0 x1.toNatClampNeg ((ab_su (ab_su (ab_su S 30 0 x1.toNatClampNeg (vp_nar .boolean 0)) 31 0 x1.toNatClampNeg 1) 32 0 x1.toNatClampNeg ((ab_su (ab_su S 30 0 x1.toNatClampNeg (vp_nar .boolean 0)) 31 0 x1.toNatClampNeg 1) 23 0 x4.toNatClampNeg)) 24 0 x4.toNatClampNeg)))) ∧ (¬ 0 = 0 → vp_in x4 336 ∧ vp_in x5 336 ∧ vp_in x6 336 ∧ vp_in x6 336 ∧ Sp_X6_choose [(.inl ((ab_su (ab_su (ab_su S 30 0 x1.toNatClampNeg (vp_nar .boolean 0)) 31 0 x1.toNatClampNeg 1) 32 0 x1.toNatClampNeg ((ab_su (ab_su S 30 0 x1.toNatClampNeg (vp_nar .boolean 0)) 31 0 x1.toNatClampNeg 1) 23 0 x4.toNatClampNeg)) 24 0 x4.toNatClampNeg)), (.inl ((ab_su (ab_su (ab_su S 30 0 x1.toNatClampNeg (vp_nar .boolean 0)) 31 0 x1.toNatClampNeg 1) 32 0 x1.toNatClampNeg ((ab_su (ab_su S 30 0 x1.toNatClampNeg (vp_nar .boolean 0)) 31 0 x1.toNatClampNeg 1) 23 0 x4.toNatClampNeg)) 24 0 x5.toNatClampNeg)), (.inl ((ab_su (ab_su (ab_su S 30 0 x1.toNatClampNeg (vp_nar .boolean 0)) 31 0 x1.toNatClampNeg 1) 32 0 x1.toNatClampNeg ((ab_su (ab_su S 30 0 x1.toNatClampNeg (vp_nar .boolean 0)) 31 0 x1.toNatClampNeg 1) 23 0 x4.toNatClampNeg)) 22 0 x6.toNatClampNeg)), (.inl ((ab_su (ab_su (ab_su S 30 0 x1.toNatClampNeg (vp_nar .boolean 0)) 31 0 x1.toNatClampNeg 1) 32 0 x1.toNatClampNeg ((ab_su (ab_su S 30 0 x1.toNatClampNeg (vp_nar .boolean 0)) 31 0 x1.toNatClampNeg 1) 23 0 x4.toNatClampNeg)) 24 0 x6.toNatClampNeg))] (ab_su (ab_su (ab_su S 30 0 x1.toNatClampNeg (vp_nar .boolean 0)) 31 0 x1.toNatClampNeg 1) 32 0 x1.toNatClampNeg ((ab_su (ab_su S 30 0 x1.toNatClampNeg (vp_nar .boolean 0)) 31 0 x1.toNatClampNeg 1) 23 0 x4.toNatClampNeg)) (ab_back Q G 217 [some (.inr (21, 0)), some (.inl x1), some (.inl x2), some (.inl x3), some (.inl x4), some (.inl x5), some (.inl x6), some (.inl xs0), some (.inl x4), some (.inl 0)] [(.inl x1), (.inr (33, 0))] 0))) ∧ (¬ 0 = 0 → vp_in x4 336 ∧ vp_in x5 336 ∧ vp_in x6 336 ∧ vp_in x6 336 ∧ Sp_X6_choose [(.inl ((ab_su (ab_su S 30 0 x1.toNatClampNeg (vp_nar .boolean 0)) 31 0 x1.toNatClampNeg 1) 23 0 x4.toNatClampNeg)), (.inl ((ab_su (ab_su S 30 0 x1.toNatClampNeg (vp_nar .boolean 0)) 31 0 x1.toNatClampNeg 1) 23 0 x5.toNatClampNeg)), (.inl ((ab_su (ab_su S 30 0 x1.toNatClampNeg (vp_nar .boolean 0)) 31 0 x1.toNatClampNeg 1) 22 0 x6.toNatClampNeg)), (.inl ((ab_su (ab_su S 30 0 x1.toNatClampNeg (vp_nar .boolean 0)) 31 0 x1.toNatClampNeg 1) 23 0 x6.toNatClampNeg))] (ab_su (ab_su S 30 0 x1.toNatClampNeg (vp_nar .boolean 0)) 31 0 x1.toNatClampNeg 1) (ab_back Q G 165 [some (.inr (21, 0)), some (.inl x1), some (.inl x2), some (.inl x3), some (.inl x4), some (.inl x5), some (.inl x6), some (.inl xs0), some (.inl x4), some (.inl 0)] [(.inl x1), (.inr (32, 0))] 0))) ∧ (¬ ((ab_su (ab_su S 30 0 x1.toNatClampNeg (vp_nar .boolean 0)) 31 0 x1.toNatClampNeg 1) 22 0 x4.toNatClampNeg) = 0 → vp_in x5 336 ∧ (((ab_su (ab_su S 30 0 x1.toNatClampNeg (vp_nar .boolean 0)) 31 0 x1.toNatClampNeg 1) 22 0 x5.toNatClampNeg) = 0 → (0 = 0 → vp_in x4 336 ∧ vp_in x1 24 ∧ (0 = 0 → vp_in x4 336 ∧ vp_in x1 24 ∧ vp_in x1 24 ∧ (((ab_su (ab_su (ab_su (ab_su S 30 0 x1.toNatClampNeg (vp_nar .boolean 0)) 31 0 x1.toNatClampNeg 1) 32 0 x1.toNatClampNeg ((ab_su (ab_su S 30 0 x1.toNatClampNeg (vp_nar .boolean 0)) 31 0 x1.toNatClampNeg 1) 23 0 x4.toNatClampNeg)) 33 0 x1.toNatClampNeg ((ab_su (ab_su (ab_su S 30 0 x1.toNatClampNeg (vp_nar .boolean 0)) 31 0 x1.toNatClampNeg 1) 32 0 x1.toNatClampNeg ((ab_su (ab_su S 30 0 x1.toNatClampNeg (vp_nar .boolean 0)) 31 0 x1.toNatClampNeg 1) 23 0 x4.toNatClampNeg)) 24 0 x4.toNatClampNeg)) 31 0 x1.toNatClampNeg) = 0 → vp_in x1 24 ∧ (((ab_su (ab_su (ab_su (ab_su S 30 0 x1.toNatClampNeg (vp_nar .boolean 0)) 31 0 x1.toNatClampNeg 1) 32 0 x1.toNatClampNeg ((ab_su (ab_su S 30 0 x1.toNatClampNeg (vp_nar .boolean 0)) 31 0 x1.toNatClampNeg 1) 23 0 x4.toNatClampNeg)) 33 0 x1.toNatClampNeg ((ab_su (ab_su (ab_su S 30 0 x1.toNatClampNeg (vp_nar .boolean 0)) 31 0 x1.toNatClampNeg 1) 32 0 x1.toNatClampNeg ((ab_su (ab_su S 30 0 x1.toNatClampNeg (vp_nar .boolean 0)) 31 0 x1.toNatClampNeg 1) 23 0 x4.toNatClampNeg)) 24 0 x4.toNatClampNeg)) 32 0 x1.toNatClampNeg) = (-9) → vp_in x1 24 ∧ Q (.inl none) (ab_su (ab_su (ab_su (ab_su (ab_su S 30 0 x1.toNatClampNeg (vp_nar .boolean 0)) 31 0 x1.toNatClampNeg 1) 32 0 x1.toNatClampNeg ((ab_su (ab_su S 30 0 x1.toNatClampNeg (vp_nar .boolean 0)) 31 0 x1.toNatClampNeg 1) 23 0 x4.toNatClampNeg)) 33 0 x1.toNatClampNeg ((ab_su (ab_su (ab_su S 30 0 x1.toNatClampNeg (vp_nar .boolean 0)) 31 0 x1.toNatClampNeg 1) 32 0 x1.toNatClampNeg ((ab_su (ab_su S 30 0 x1.toNatClampNeg (vp_nar .boolean 0)) 31 0 x1.toNatClampNeg 1) 23 0 x4.toNatClampNeg)) 24 0 x4.toNatClampNeg)) 31 0 x1.toNatClampNeg 2)) ∧ (¬ ((ab_su (ab_su (ab_su (ab_su S 30 0 x1.toNatClampNeg (vp_nar .boolean 0)) 31 0 x1.toNatClampNeg 1) 32 0 x1.toNatClampNeg ((ab_su (ab_su S 30 0 x1.toNatClampNeg (vp_nar .boolean 0)) 31 0 x1.toNatClampNeg 1) 23 0 x4.toNatClampNeg)) 33 0 x1.toNatClampNeg ((ab_su (ab_su (ab_su S 30 0 x1.toNatClampNeg (vp_nar .boolean 0)) 31 0 x1.toNatClampNeg 1) 32 0 x1.toNatClampNeg ((ab_su (ab_su S 30 0 x1.toNatClampNeg (vp_nar .boolean 0)) 31 0 x1.toNatClampNeg 1) 23 0 x4.toNatClampNeg)) 24 0 x4.toNatClampNeg)) 32 0 x1.toNatClampNeg) = (-9) → vp_in x1 24 ∧ (((ab_su (ab_su (ab_su (ab_su S 30 0 x1.toNatClampNeg (vp_nar .boolean 0)) 31 0 x1.toNatClampNeg 1) 32 0 x1.toNatClampNeg ((ab_su (ab_su S 30 0 x1.toNatClampNeg (vp_nar .boolean 0)) 31 0 x1.toNatClampNeg 1) 23 0 x4.toNatClampNeg)) 33 0 x1.toNatClampNeg ((ab_su (ab_su (ab_su S 30 0 x1.toNatClampNeg (vp_nar .boolean 0)) 31 0 x1.toNatClampNeg 1) 32 0 x1.toNatClampNeg ((ab_su (ab_su S 30 0 x1.toNatClampNeg (vp_nar .boolean 0)) 31 0 x1.toNatClampNeg 1) 23 0 x4.toNatClampNeg)) 24 0 x4.toNatClampNeg)) 33 0 x1.toNatClampNeg) = (-9) → vp_in x1 24 ∧ Q (.inl none) (ab_su (ab_su (ab_su (ab_su (ab_su S 30 0 x1.toNatClampNeg (vp_nar .boolean 0)) 31 0 x1.toNatClampNeg 1) 32 0 x1.toNatClampNeg ((ab_su (ab_su S 30 0 x1.toNatClampNeg (vp_nar .boolean 0)) 31 0 x1.toNatClampNeg 1) 23 0 x4.toNatClampNeg)) 33 0 x1.toNatClampNeg ((ab_su (ab_su (ab_su S 30 0 x1.toNatClampNeg (vp_nar .boolean 0)) 31 0 x1.toNatClampNeg 1) 32 0 x1.toNatClampNeg ((ab_su (ab_su S 30 0 x1.toNatClampNeg (vp_nar .boolean 0)) 31 0 x1.toNatClampNeg 1) 23 0 x4.toNatClampNeg)) 24 0 x4.toNatClampNeg)) 31 0 x1.toNatClampNeg 3)) ∧ (¬ ((ab_su (ab_su (ab_su (ab_su S 30 0 x1.toNatClampNeg (vp_nar .boolean 0)) 31 0 x1.toNatClampNeg 1) 32 0 x1.toNatClampNeg ((ab_su (ab_su S 30 0 x1.toNatClampNeg (vp_nar .boolean 0)) 31 0 x1.toNatClampNeg 1) 23 0 x4.toNatClampNeg)) 33 0 x1.toNatClampNeg ((ab_su (ab_su (ab_su S 30 0 x1.toNatClampNeg (vp_nar .boolean 0)) 31 0 x1.toNatClampNeg 1) 32 0 x1.toNatClampNeg ((ab_su (ab_su S 30 0 x1.toNatClampNeg (vp_nar .boolean 0)) 31 0 x1.toNatClampNeg 1) 23 0 x4.toNatClampNeg)) 24 0 x4.toNatClampNeg)) 33 0 x1.toNatClampNeg) = (-9) → vp_in x1 24 ∧ Q (.inl none) (ab_su (ab_su (ab_su (ab_su (ab_su S 30 0 x1.toNatClampNeg (vp_nar .boolean 0)) 31 0 x1.toNatClampNeg 1) 32 0 x1.toNatClampNeg ((ab_su (ab_su S 30 0 x1.toNatClampNeg (vp_nar .boolean 0)) 31 0 x1.toNatClampNeg 1) 23 0 x4.toNatClampNeg)) 33 0 x1.toNatClampNeg ((ab_su (ab_su (ab_su S 30 0 x1.toNatClampNeg (vp_nar .boolean 0)) 31 0 x1.toNatClampNeg 1) 32 0 x1.toNatClampNeg ((ab_su (ab_su S 30 0 x1.toNatClampNeg (vp_nar .boolean 0)) 31 0 x1.toNatClampNeg 1) 23 0 x4.toNatClampNeg)) 24 0 x4.toNatClampNeg)) 31 0 x1.toNatClampNeg 0)))) ∧ (¬ ((ab_su (ab_su (ab_su (ab_su S 30 0 x1.toNatClampNeg (vp_nar .boolean 0)) 31 0 x1.toNatClampNeg 1) 32 0 x1.toNatClampNeg ((ab_su (ab_su S 30 0 x1.toNatClampNeg (vp_nar .boolean 0)) 31 0 x1.toNatClampNeg 1) 23 0 x4.toNatClampNeg)) 33 0 x1.toNatClampNeg ((ab_su (ab_su (ab_su S 30 0 x1.toNatClampNeg (vp_nar .boolean 0)) 31 0 x1.toNatClampNeg 1) 32 0 x1.toNatClampNeg ((ab_su (ab_su S 30 0 x1.toNatClampNeg (vp_nar .boolean 0)) 31 0 x1.toNatClampNeg 1) 23 0 x4.toNatClampNeg)) 24 0 x4.toNatClampNeg)) 31 0 x1.toNatClampNeg) = 0 → Q (.inl none) (ab_su (ab_su (ab_su (ab_su S 30 0 x1.toNatClampNeg (vp_nar .boolean 0)) 31 0 x1.toNatClampNeg 1) 32 0 x1.toNatClampNeg ((ab_su (ab_su S 30 0 x1.toNatClampNeg (vp_nar .boolean 0)) 31 0 x1.toNatClampNeg 1) 23 0 x4.toNatClampNeg)) 33 0 x1.toNatClampNeg ((ab_su (ab_su (ab_su S 30 0 x1.toNatClampNeg (vp_nar .boolean 0)) 31 0 x1.toNatClampNeg 1) 32 0 x1.toNatClampNeg ((ab_su (ab_su S 30 0 x1.toNatClampNeg (vp_nar .boolean 0)) 31 0 x1.toNatClampNeg 1) 23 0 x4.toNatClampNeg)) 24 0 x4.toNatClampNeg)))) ∧ (¬ 0 = 0 → vp_in x4 336 ∧ vp_in x5 336 ∧ vp_in x6 336 ∧ vp_in x6 336 ∧ Sp_X6_choose [(.inl ((ab_su (ab_su (ab_su S 30 0 x1.toNatClampNeg (vp_nar .boolean 0)) 31 0 x1.toNatClampNeg 1) 32 0 x1.toNatClampNeg ((ab_su (ab_su S 30 0 x1.toNatClampNeg (vp_nar .boolean 0)) 31 0 x1.toNatClampNeg 1) 23 0 x4.toNatClampNeg)) 24 0 x4.toNatClampNeg)), (.inl ((ab_su (ab_su (ab_su S 30 0 x1.toNatClampNeg (vp_nar .boolean 0)) 31 0 x1.toNatClampNeg 1) 32 0 x1.toNatClampNeg ((ab_su (ab_su S 30 0 x1.toNatClampNeg (vp_nar .boolean 0)) 31 0 x1.toNatClampNeg 1) 23 0 x4.toNatClampNeg)) 24 0 x5.toNatClampNeg)), (.inl ((ab_su (ab_su (ab_su S 30 0 x1.toNatClampNeg (vp_nar .boolean 0)) 31 0 x1.toNatClampNeg 1) 32 0 x1.toNatClampNeg ((ab_su (ab_su S 30 0 x1.toNatClampNeg (vp_nar .boolean 0)) 31 0 x1.toNatClampNeg 1) 23 0 x4.toNatClampNeg)) 22 0 x6.toNatClampNeg)), (.inl ((ab_su (ab_su (ab_su S 30 0 x1.toNatClampNeg (vp_nar .boolean 0)) 31 0 x1.toNatClampNeg 1) 32 0 x1.toNatClampNeg ((ab_su (ab_su S 30 0 x1.toNatClampNeg (vp_nar .boolean 0)) 31 0 x1.toNatClampNeg 1) 23 0 x4.toNatClampNeg)) 24 0 x6.toNatClampNeg))] (ab_su (ab_su (ab_su S 30 0 x1.toNatClampNeg (vp_nar .boolean 0)) 31 0 x1.toNatClampNeg 1) 32 0 x1.toNatClampNeg ((ab_su (ab_su S 30 0 x1.toNatClampNeg (vp_nar .boolean 0)) 31 0 x1.toNatClampNeg 1) 23 0 x4.toNatClampNeg)) (ab_back Q G 217 [some (.inr (21, 0)), some (.inl x1), some (.inl x2), some (.inl x3), some (.inl x4), some (.inl x5), some (.inl x6), some (.inl xs0), some (.inl x4), some (.inl 0)] [(.inl x1), (.inr (33, 0))] 0))) ∧ (¬ 0 = 0 → vp_in x4 336 ∧ vp_in x5 336 ∧ vp_in x6 336 ∧ vp_in x6 336 ∧ Sp_X6_choose [(.inl ((ab_su (ab_su S 30 0 x1.toNatClampNeg (vp_nar .boolean 0)) 31 0 x1.toNatClampNeg 1) 23 0 x4.toNatClampNeg)), (.inl ((ab_su (ab_su S 30 0 x1.toNatClampNeg (vp_nar .boolean 0)) 31 0 x1.toNatClampNeg 1) 23 0 x5.toNatClampNeg)), (.inl ((ab_su (ab_su S 30 0 x1.toNatClampNeg (vp_nar .boolean 0)) 31 0 x1.toNatClampNeg 1) 22 0 x6.toNatClampNeg)), (.inl ((ab_su (ab_su S 30 0 x1.toNatClampNeg (vp_nar .boolean 0)) 31 0 x1.toNatClampNeg 1) 23 0 x6.toNatClampNeg))] (ab_su (ab_su S 30 0 x1.toNatClampNeg (vp_nar .boolean 0)) 31 0 x1.toNatClampNeg 1) (ab_back Q G 165 [some (.inr (21, 0)), some (.inl x1), some (.inl x2), some (.inl x3), some (.inl x4), some (.inl x5), some (.inl x6), some (.inl xs0), some (.inl x4), some (.inl 0)] [(.inl x1), (.inr (32, 0))] 0))) ∧ (¬ ((ab_su (ab_su S 30 0 x1.toNatClampNeg (vp_nar .boolean 0)) 31 0 x1.toNatClampNeg 1) 22 0 x5.toNatClampNeg) = 0 → (1 = 0 → vp_in x4 336 ∧ vp_in x1 24 ∧ (1 = 0 → vp_in x4 336 ∧ vp_in x1 24 ∧ vp_in x1 24 ∧ (((ab_su (ab_su (ab_su (ab_su S 30 0 x1.toNatClampNeg (vp_nar .boolean 0)) 31 0 x1.toNatClampNeg 1) 32 0 x1.toNatClampNeg ((ab_su (ab_su S 30 0 x1.toNatClampNeg (vp_nar .boolean 0)) 31 0 x1.toNatClampNeg 1) 23 0 x4.toNatClampNeg)) 33 0 x1.toNatClampNeg ((ab_su (ab_su (ab_su S 30 0 x1.toNatClampNeg (vp_nar .boolean 0)) 31 0 x1.toNatClampNeg 1) 32 0 x1.toNatClampNeg ((ab_su (ab_su S 30 0 x1.toNatClampNeg (vp_nar .boolean 0)) 31 0 x1.toNatClampNeg 1) 23 0 x4.toNatClampNeg)) 24 0 x4.toNatClampNeg)) 31 0 x1.toNatClampNeg) = 0 → vp_in x1 24 ∧ (((ab_su (ab_su (ab_su (ab_su S 30 0 x1.toNatClampNeg (vp_nar .boolean 0)) 31 0 x1.toNatClampNeg 1) 32 0 x1.toNatClampNeg ((ab_su (ab_su S 30 0 x1.toNatClampNeg (vp_nar .boolean 0)) 31 0 x1.toNatClampNeg 1) 23 0 x4.toNatClampNeg)) 33 0 x1.toNatClampNeg ((ab_su (ab_su (ab_su S 30 0 x1.toNatClampNeg (vp_nar .boolean 0)) 31 0 x1.toNatClampNeg 1) 32 0 x1.toNatClampNeg ((ab_su (ab_su S 30 0 x1.toNatClampNeg (vp_nar .boolean 0)) 31 0 x1.toNatClampNeg 1) 23 0 x4.toNatClampNeg)) 24 0 x4.toNatClampNeg)) 32 0 x1.toNatClampNeg) = (-9) → vp_in x1 24 ∧ Q (.inl none) (ab_su (ab_su (ab_su (ab_su (ab_su S 30 0 x1.toNatClampNeg (vp_nar .boolean 0)) 31 0 x1.toNatClampNeg 1) 32 0 x1.toNatClampNeg ((ab_su (ab_su S 30 0 x1.toNatClampNeg (vp_nar .boolean 0)) 31 0 x1.toNatClampNeg 1) 23 0 x4.toNatClampNeg)) 33 0 x1.toNatClampNeg ((ab_su (ab_su (ab_su S 30 0 x1.toNatClampNeg (vp_nar .boolean 0)) 31 0 x1.toNatClampNeg 1) 32 0 x1.toNatClampNeg ((ab_su (ab_su S 30 0 x1.toNatClampNeg (vp_nar .boolean 0)) 31 0 x1.toNatClampNeg 1) 23 0 x4.toNatClampNeg)) 24 0 x4.toNatClampNeg)) 31 0 x1.toNatClampNeg 2)) ∧ (¬ ((ab_su (ab_su (ab_su (ab_su S 30 0 x1.toNatClampNeg (vp_nar .boolean 0)) 31 0 x1.toNatClampNeg 1) 32 0 x1.toNatClampNeg ((ab_su (ab_su S 30 0 x1.toNatClampNeg (vp_nar .boolean 0)) 31 0 x1.toNatClampNeg 1) 23 0 x4.toNatClampNeg)) 33 0 x1.toNatClampNeg ((ab_su (ab_su (ab_su S 30 0 x1.toNatClampNeg (vp_nar .boolean 0)) 31 0 x1.toNatClampNeg 1) 32 0 x1.toNatClampNeg ((ab_su (ab_su S 30 0 x1.toNatClampNeg (vp_nar .boolean 0)) 31 0 x1.toNatClampNeg 1) 23 0 x4.toNatClampNeg)) 24 0 x4.toNatClampNeg)) 32 0 x1.toNatClampNeg) = (-9) → vp_in x1 24 ∧ (((ab_su (ab_su (ab_su (ab_su S 30 0 x1.toNatClampNeg (vp_nar .boolean 0)) 31 0 x1.toNatClampNeg 1) 32 0 x1.toNatClampNeg ((ab_su (ab_su S 30 0 x1.toNatClampNeg (vp_nar .boolean 0)) 31 0 x1.toNatClampNeg 1) 23 0 x4.toNatClampNeg)) 33 0 x1.toNatClampNeg ((ab_su (ab_su (ab_su S 30 0 x1.toNatClampNeg (vp_nar .boolean 0)) 31 0 x1.toNatClampNeg 1) 32 0 x1.toNatClampNeg ((ab_su (ab_su S 30 0 x1.toNatClampNeg (vp_nar .boolean 0)) 31 0 x1.toNatClampNeg 1) 23 0 x4.toNatClampNeg)) 24 0 x4.toNatClampNeg)) 33 0 x1.toNatClampNeg) = (-9) → vp_in x1 24 ∧ Q (.inl none) (ab_su (ab_su (ab_su (ab_su (ab_su S 30 0 x1.toNatClampNeg (vp_nar .boolean 0)) 31 0 x1.toNatClampNeg 1) 32 0 x1.toNatClampNeg ((ab_su (ab_su S 30 0 x1.toNatClampNeg (vp_nar .boolean 0)) 31 0 x1.toNatClampNeg 1) 23 0 x4.toNatClampNeg)) 33 0 x1.toNatClampNeg ((ab_su (ab_su (ab_su S 30 0 x1.toNatClampNeg (vp_nar .boolean 0)) 31 0 x1.toNatClampNeg 1) 32 0 x1.toNatClampNeg ((ab_su (ab_su S 30 0 x1.toNatClampNeg (vp_nar .boolean 0)) 31 0 x1.toNatClampNeg 1) 23 0 x4.toNatClampNeg)) 24 0 x4.toNatClampNeg)) 31 0 x1.toNatClampNeg 3)) ∧ (¬ ((ab_su (ab_su (ab_su (ab_su S 30 0 x1.toNatClampNeg (vp_nar .boolean 0)) 31 0 x1.toNatClampNeg 1) 32 0 x1.toNatClampNeg ((ab_su (ab_su S 30 0 x1.toNatClampNeg (vp_nar .boolean 0)) 31 0 x1.toNatClampNeg 1) 23 0 x4.toNatClampNeg)) 33 0 x1.toNatClampNeg ((ab_su (ab_su (ab_su S 30 0 x1.toNatClampNeg (vp_nar .boolean 0)) 31 0 x1.toNatClampNeg 1) 32 0 x1.toNatClampNeg ((ab_su (ab_su S 30 0 x1.toNatClampNeg (vp_nar .boolean 0)) 31 0 x1.toNatClampNeg 1) 23 0 x4.toNatClampNeg)) 24 0 x4.toNatClampNeg)) 33 0 x1.toNatClampNeg) = (-9) → vp_in x1 24 ∧ Q (.inl none) (ab_su (ab_su (ab_su (ab_su (ab_su S 30 0 x1.toNatClampNeg (vp_nar .boolean 0)) 31 0 x1.toNatClampNeg 1) 32 0 x1.toNatClampNeg ((ab_su (ab_su S 30 0 x1.toNatClampNeg (vp_nar .boolean 0)) 31 0 x1.toNatClampNeg 1) 23 0 x4.toNatClampNeg)) 33 0 x1.toNatClampNeg ((ab_su (ab_su (ab_su S 30 0 x1.toNatClampNeg (vp_nar .boolean 0)) 31 0 x1.toNatClampNeg 1) 32 0 x1.toNatClampNeg ((ab_su (ab_su S 30 0 x1.toNatClampNeg (vp_nar .boolean 0)) 31 0 x1.toNatClampNeg 1) 23 0 x4.toNatClampNeg)) 24 0 x4.toNatClampNeg)) 31 0 x1.toNatClampNeg 0)))) ∧ (¬ ((ab_su (ab_su (ab_su (ab_su S 30 0 x1.toNatClampNeg (vp_nar .boolean 0)) 31 0 x1.toNatClampNeg 1) 32 0 x1.toNatClampNeg ((ab_su (ab_su S 30 0 x1.toNatClampNeg (vp_nar .boolean 0)) 31 0 x1.toNatClampNeg 1) 23 0 x4.toNatClampNeg)) 33 0 x1.toNatClampNeg ((ab_su (ab_su (ab_su S 30 0 x1.toNatClampNeg (vp_nar .boolean 0)) 31 0 x1.toNatClampNeg 1) 32 0 x1.toNatClampNeg ((ab_su (ab_su S 30 0 x1.toNatClampNeg (vp_nar .boolean 0)) 31 0 x1.toNatClampNeg 1) 23 0 x4.toNatClampNeg)) 24 0 x4.toNatClampNeg)) 31 0 x1.toNatClampNeg) = 0 → Q (.inl none) (ab_su (ab_su (ab_su (ab_su S 30 0 x1.toNatClampNeg (vp_nar .boolean 0)) 31 0 x1.toNatClampNeg 1) 32 0 x1.toNatClampNeg ((ab_su (ab_su S 30 0 x1.toNatClampNeg (vp_nar .boolean 0)) 31 0 x1.toNatClampNeg 1) 23 0 x4.toNatClampNeg)) 33 0 x1.toNatClampNeg ((ab_su (ab_su (ab_su S 30 0 x1.toNatClampNeg (vp_nar .boolean 0)) 31 0 x1.toNatClampNeg 1) 32 0 x1.toNatClampNeg ((ab_su (ab_su S 30 0 x1.toNatClampNeg (vp_nar .boolean 0)) 31 0 x1.toNatClampNeg 1) 23 0 x4.toNatClampNeg)) 24 0 x4.toNatClampNeg)))) ∧ (¬ 1 = 0 → vp_in x4 336 ∧ vp_in x5 336 ∧ vp_in x6 336 ∧ vp_in x6 336 ∧ Sp_X6_choose [(.inl ((ab_su (ab_su (ab_su S 30 0 x1.toNatClampNeg (vp_nar .boolean 0)) 31 0 x1.toNatClampNeg 1) 32 0 x1.toNatClampNeg ((ab_su (ab_su S 30 0 x1.toNatClampNeg (vp_nar .boolean 0)) 31 0 x1.toNatClampNeg 1) 23 0 x4.toNatClampNeg)) 24 0 x4.toNatClampNeg)), (.inl ((ab_su (ab_su (ab_su S 30 0 x1.toNatClampNeg (vp_nar .boolean 0)) 31 0 x1.toNatClampNeg 1) 32 0 x1.toNatClampNeg ((ab_su (ab_su S 30 0 x1.toNatClampNeg (vp_nar .boolean 0)) 31 0 x1.toNatClampNeg 1) 23 0 x4.toNatClampNeg)) 24 0 x5.toNatClampNeg)), (.inl ((ab_su (ab_su (ab_su S 30 0 x1.toNatClampNeg (vp_nar .boolean 0)) 31 0 x1.toNatClampNeg 1) 32 0 x1.toNatClampNeg ((ab_su (ab_su S 30 0 x1.toNatClampNeg (vp_nar .boolean 0)) 31 0 x1.toNatClampNeg 1) 23 0 x4.toNatClampNeg)) 22 0 x6.toNatClampNeg)), (.inl ((ab_su (ab_su (ab_su S 30 0 x1.toNatClampNeg (vp_nar .boolean 0)) 31 0 x1.toNatClampNeg 1) 32 0 x1.toNatClampNeg ((ab_su (ab_su S 30 0 x1.toNatClampNeg (vp_nar .boolean 0)) 31 0 x1.toNatClampNeg 1) 23 0 x4.toNatClampNeg)) 24 0 x6.toNatClampNeg))] (ab_su (ab_su (ab_su S 30 0 x1.toNatClampNeg (vp_nar .boolean 0)) 31 0 x1.toNatClampNeg 1) 32 0 x1.toNatClampNeg ((ab_su (ab_su S 30 0 x1.toNatClampNeg (vp_nar .boolean 0)) 31 0 x1.toNatClampNeg 1) 23 0 x4.toNatClampNeg)) (ab_back Q G 217 [some (.inr (21, 0)), some (.inl x1), some (.inl x2), some (.inl x3), some (.inl x4), some (.inl x5), some (.inl x6), some (.inl xs0), some (.inl x4), some (.inl 1)] [(.inl x1), (.inr (33, 0))] 0))) ∧ (¬ 1 = 0 → vp_in x4 336 ∧ vp_in x5 336 ∧ vp_in x6 336 ∧ vp_in x6 336 ∧ Sp_X6_choose [(.inl ((ab_su (ab_su S 30 0 x1.toNatClampNeg (vp_nar .boolean 0)) 31 0 x1.toNatClampNeg 1) 23 0 x4.toNatClampNeg)), (.inl ((ab_su (ab_su S 30 0 x1.toNatClampNeg (vp_nar .boolean 0)) 31 0 x1.toNatClampNeg 1) 23 0 x5.toNatClampNeg)), (.inl ((ab_su (ab_su S 30 0 x1.toNatClampNeg (vp_nar .boolean 0)) 31 0 x1.toNatClampNeg 1) 22 0 x6.toNatClampNeg)), (.inl ((ab_su (ab_su S 30 0 x1.toNatClampNeg (vp_nar .boolean 0)) 31 0 x1.toNatClampNeg 1) 23 0 x6.toNatClampNeg))] (ab_su (ab_su S 30 0 x1.toNatClampNeg (vp_nar .boolean 0)) 31 0 x1.toNatClampNeg 1) (ab_back Q G 165 [some (.inr (21, 0)), some (.inl x1), some (.inl x2), some (.inl x3), some (.inl x4), some (.inl x5), some (.inl x6), some (.inl xs0), some (.inl x4), some (.inl 1)] [(.inl x1), (.inr (32, 0))] 0))))))) ∧ (¬ xs0 = 2 → vp_in x1 24 ∧ (xs0 = 0 → Q (.inl none) (ab_su (ab_su S 30 0 x1.toNatClampNeg (vp_nar .boolean 0)) 31 0 x1.toNatClampNeg 0)) ∧ (¬ xs0 = 0 → vp_in x4 336 ∧ (((ab_su (ab_su S 30 0 x1.toNatClampNeg (vp_nar .boolean 0)) 31 0 x1.toNatClampNeg 0) 22 0 x4.toNatClampNeg) = 0 → vp_in x4 336 ∧ (((ab_su (ab_su S 30 0 x1.toNatClampNeg (vp_nar .boolean 0)) 31 0 x1.toNatClampNeg 0) 22 0 x4.toNatClampNeg) = 0 → (0 = 0 → vp_in x5 336 ∧ vp_in x1 24 ∧ (0 = 0 → vp_in x5 336 ∧ vp_in x1 24 ∧ vp_in x1 24 ∧ (((ab_su (ab_su (ab_su (ab_su S 30 0 x1.toNatClampNeg (vp_nar .boolean 0)) 31 0 x1.toNatClampNeg 0) 32 0 x1.toNatClampNeg ((ab_su (ab_su S 30 0 x1.toNatClampNeg (vp_nar .boolean 0)) 31 0 x1.toNatClampNeg 0) 23 0 x5.toNatClampNeg)) 33 0 x1.toNatClampNeg ((ab_su (ab_su (ab_su S 30 0 x1.toNatClampNeg (vp_nar .boolean 0)) 31 0 x1.toNatClampNeg 0) 32 0 x1.toNatClampNeg ((ab_su (ab_su S 30 0 x1.toNatClampNeg (vp_nar .boolean 0)) 31 0 x1.toNatClampNeg 0) 23 0 x5.toNatClampNeg)) 24 0 x5.toNatClampNeg)) 31 0 x1.toNatClampNeg) = 0 → vp_in x1 24 ∧ (((ab_su (ab_su (ab_su (ab_su S 30 0 x1.toNatClampNeg (vp_nar .boolean 0)) 31 0 x1.toNatClampNeg 0) 32 0 x1.toNatClampNeg ((ab_su (ab_su S 30 0 x1.toNatClampNeg (vp_nar .boolean 0)) 31 0 x1.toNatClampNeg 0) 23 0 x5.toNatClampNeg)) 33 0 x1.toNatClampNeg ((ab_su (ab_su (ab_su S 30 0 x1.toNatClampNeg (vp_nar .boolean 0)) 31 0 x1.toNatClampNeg 0) 32 0 x1.toNatClampNeg ((ab_su (ab_su S 30 0 x1.toNatClampNeg (vp_nar .boolean 0)) 31 0 x1.toNatClampNeg 0) 23 0 x5.toNatClampNeg)) 24 0 x5.toNatClampNeg)) 32 0 x1.toNatClampNeg) = (-9) → vp_in x1 24 ∧ Q (.inl none) (ab_su (ab_su (ab_su (ab_su (ab_su S 30 0 x1.toNatClampNeg (vp_nar .boolean 0)) 31 0 x1.toNatClampNeg 0) 32 0 x1.toNatClampNeg ((ab_su (ab_su S 30 0 x1.toNatClampNeg (vp_nar .boolean 0)) 31 0 x1.toNatClampNeg 0) 23 0 x5.toNatClampNeg)) 33 0 x1.toNatClampNeg ((ab_su (ab_su (ab_su S 30 0 x1.toNatClampNeg (vp_nar .boolean 0)) 31 0 x1.toNatClampNeg 0) 32 0 x1.toNatClampNeg ((ab_su (ab_su S 30 0 x1.toNatClampNeg (vp_nar .boolean 0)) 31 0 x1.toNatClampNeg 0) 23 0 x5.toNatClampNeg)) 24 0 x5.toNatClampNeg)) 31 0 x1.toNatClampNeg 2)) ∧ (¬ ((ab_su (ab_su (ab_su (ab_su S 30 0 x1.toNatClampNeg (vp_nar .boolean 0)) 31 0 x1.toNatClampNeg 0) 32 0 x1.toNatClampNeg ((ab_su (ab_su S 30 0 x1.toNatClampNeg (vp_nar .boolean 0)) 31 0 x1.toNatClampNeg 0) 23 0 x5.toNatClampNeg)) 33 0 x1.toNatClampNeg ((ab_su (ab_su (ab_su S 30 0 x1.toNatClampNeg (vp_nar .boolean 0)) 31 0 x1.toNatClampNeg 0) 32 0 x1.toNatClampNeg ((ab_su (ab_su S 30 0 x1.toNatClampNeg (vp_nar .boolean 0)) 31 0 x1.toNatClampNeg 0) 23 0 x5.toNatClampNeg)) 24 0 x5.toNatClampNeg)) 32 0 x1.toNatClampNeg) = (-9) → vp_in x1 24 ∧ (((ab_su (ab_su (ab_su (ab_su S 30 0 x1.toNatClampNeg (vp_nar .boolean 0)) 31 0 x1.toNatClampNeg 0) 32 0 x1.toNatClampNeg ((ab_su (ab_su S 30 0 x1.toNatClampNeg (vp_nar .boolean 0)) 31 0 x1.toNatClampNeg 0) 23 0 x5.toNatClampNeg)) 33 0 x1.toNatClampNeg ((ab_su (ab_su (ab_su S 30 0 x1.toNatClampNeg (vp_nar .boolean 0)) 31 0 x1.toNatClampNeg 0) 32 0 x1.toNatClampNeg ((ab_su (ab_su S 30 0 x1.toNatClampNeg (vp_nar .boolean 0)) 31 0 x1.toNatClampNeg 0) 23 0 x5.toNatClampNeg)) 24 0 x5.toNatClampNeg)) 33 0 x1.toNatClampNeg) = (-9) → vp_in x1 24 ∧ Q (.inl none) (ab_su (ab_su (ab_su (ab_su (ab_su S 30 0 x1.toNatClampNeg (vp_nar .boolean 0)) 31 0 x1.toNatClampNeg 0) 32 0 x1.toNatClampNeg ((ab_su (ab_su S 30 0 x1.toNatClampNeg (vp_nar .boolean 0)) 31 0 x1.toNatClampNeg 0) 23 0 x5.toNatClampNeg)) 33 0 x1.toNatClampNeg ((ab_su (ab_su (ab_su S 30 0 x1.toNatClampNeg (vp_nar .boolean 0)) 31 0 x1.toNatClampNeg 0) 32 0 x1.toNatClampNeg ((ab_su (ab_su S 30 0 x1.toNatClampNeg (vp_nar .boolean 0)) 31 0 x1.toNatClampNeg 0) 23 0 x5.toNatClampNeg)) 24 0 x5.toNatClampNeg)) 31 0 x1.toNatClampNeg 3)) ∧ (¬ ((ab_su (ab_su (ab_su (ab_su S 30 0 x1.toNatClampNeg (vp_nar .boolean 0)) 31 0 x1.toNatClampNeg 0) 32 0 x1.toNatClampNeg ((ab_su (ab_su S 30 0 x1.toNatClampNeg (vp_nar .boolean 0)) 31 0 x1.toNatClampNeg 0) 23 0 x5.toNatClampNeg)) 33 0 x1.toNatClampNeg ((ab_su (ab_su (ab_su S 30 0 x1.toNatClampNeg (vp_nar .boolean 0)) 31 0 x1.toNatClampNeg 0) 32 0 x1.toNatClampNeg ((ab_su (ab_su S 30 0 x1.toNatClampNeg (vp_nar .boolean 0)) 31 0 x1.toNatClampNeg 0) 23 0 x5.toNatClampNeg)) 24 0 x5.toNatClampNeg)) 33 0 x1.toNatClampNeg) = (-9) → vp_in x1 24 ∧ Q (.inl none) (ab_su (ab_su (ab_su (ab_su (ab_su S 30 0 x1.toNatClampNeg (vp_nar .boolean 0)) 31 0 x1.toNatClampNeg 0) 32 0 x1.toNatClampNeg ((ab_su (ab_su S 30 0 x1.toNatClampNeg (vp_nar .boolean 0)) 31 0 x1.toNatClampNeg 0) 23 0 x5.toNatClampNeg)) 33 0 x1.toNatClampNeg ((ab_su (ab_su (ab_su S 30 0 x1.toNatClampNeg (vp_nar .boolean 0)) 31 0 x1.toNatClampNeg 0) 32 0 x1.toNatClampNeg ((ab_su (ab_su S 30 0 x1.toNatClampNeg (vp_nar .boolean 0)) 31 0 x1.toNatClampNeg 0) 23 0 x5.toNatClampNeg)) 24 0 x5.toNatClampNeg)) 31 0 x1.toNatClampNeg 0)))) ∧ (¬ ((ab_su (ab_su (ab_su (ab_su S 30 0 x1.toNatClampNeg (vp_nar .boolean 0)) 31 0 x1.toNatClampNeg 0) 32 0 x1.toNatClampNeg ((ab_su (ab_su S 30 0 x1.toNatClampNeg (vp_nar .boolean 0)) 31 0 x1.toNatClampNeg 0) 23 0 x5.toNatClampNeg)) 33 0 x1.toNatClampNeg ((ab_su (ab_su (ab_su S 30 0 x1.toNatClampNeg (vp_nar .boolean 0)) 31 0 x1.toNatClampNeg 0) 32 0 x1.toNatClampNeg ((ab_su (ab_su S 30 0 x1.toNatClampNeg (vp_nar .boolean 0)) 31 0 x1.toNatClampNeg 0) 23 0 x5.toNatClampNeg)) 24 0 x5.toNatClampNeg)) 31 0 x1.toNatClampNeg) = 0 → Q (.inl none) (ab_su (ab_su (ab_su (ab_su S 30 0 x1.toNatClampNeg (vp_nar .boolean 0)) 31 0 x1.toNatClampNeg 0) 32 0 x1.toNatClampNeg ((ab_su (ab_su S 30 0 x1.toNatClampNeg (vp_nar .boolean 0)) 31 0 x1.toNatClampNeg 0) 23 0 x5.toNatClampNeg)) 33 0 x1.toNatClampNeg ((ab_su (ab_su (ab_su S 30 0 x1.toNatClampNeg (vp_nar .boolean 0)) 31 0 x1.toNatClampNeg 0) 32 0 x1.toNatClampNeg ((ab_su (ab_su S 30 0 x1.toNatClampNeg (vp_nar .boolean 0)) 31 0 x1.toNatClampNeg 0) 23 0 x5.toNatClampNeg)) 24 0 x5.toNatClampNeg)))) ∧ (¬ 0 = 0 → vp_in x4 336 ∧ vp_in x5 336 ∧ vp_in x6 336 ∧ vp_in x6 336 ∧ Sp_X6_choose [(.inl ((ab_su (ab_su (ab_su S 30 0 x1.toNatClampNeg (vp_nar .boolean 0)) 31 0 x1.toNatClampNeg 0) 32 0 x1.toNatClampNeg ((ab_su (ab_su S 30 0 x1.toNatClampNeg (vp_nar .boolean 0)) 31 0 x1.toNatClampNeg 0) 23 0 x5.toNatClampNeg)) 24 0 x4.toNatClampNeg)), (.inl ((ab_su (ab_su (ab_su S 30 0 x1.toNatClampNeg (vp_nar .boolean 0)) 31 0 x1.toNatClampNeg 0) 32 0 x1.toNatClampNeg ((ab_su (ab_su S 30 0 x1.toNatClampNeg (vp_nar .boolean 0)) 31 0 x1.toNatClampNeg 0) 23 0 x5.toNatClampNeg)) 24 0 x5.toNatClampNeg)), (.inl ((ab_su (ab_su (ab_su S 30 0 x1.toNatClampNeg (vp_nar .boolean 0)) 31 0 x1.toNatClampNeg 0) 32 0 x1.toNatClampNeg ((ab_su (ab_su S 30 0 x1.toNatClampNeg (vp_nar .boolean 0)) 31 0 x1.toNatClampNeg 0) 23 0 x5.toNatClampNeg)) 22 0 x6.toNatClampNeg)), (.inl ((ab_su (ab_su (ab_su S 30 0 x1.toNatClampNeg (vp_nar .boolean 0)) 31 0 x1.toNatClampNeg 0) 32 0 x1.toNatClampNeg ((ab_su (ab_su S 30 0 x1.toNatClampNeg (vp_nar .boolean 0)) 31 0 x1.toNatClampNeg 0) 23 0 x5.toNatClampNeg)) 24 0 x6.toNatClampNeg))] (ab_su (ab_su (ab_su S 30 0 x1.toNatClampNeg (vp_nar .boolean 0)) 31 0 x1.toNatClampNeg 0) 32 0 x1.toNatClampNeg ((ab_su (ab_su S 30 0 x1.toNatClampNeg (vp_nar .boolean 0)) 31 0 x1.toNatClampNeg 0) 23 0 x5.toNatClampNeg)) (ab_back Q G 217 [some (.inr (21, 0)), some (.inl x1), some (.inl x2), some (.inl x3), some (.inl x4), some (.inl x5), some (.inl x6), some (.inl xs0), some (.inl x5), some (.inl 0)] [(.inl x1), (.inr (33, 0))] 0))) ∧ (¬ 0 = 0 → vp_in x4 336 ∧ vp_in x5 336 ∧ vp_in x6 336 ∧ vp_in x6 336 ∧ Sp_X6_choose [(.inl ((ab_su (ab_su S 30 0 x1.toNatClampNeg (vp_nar .boolean 0)) 31 0 x1.toNatClampNeg 0) 23 0 x4.toNatClampNeg)), (.inl ((ab_su (ab_su S 30 0 x1.toNatClampNeg (vp_nar .boolean 0)) 31 0 x1.toNatClampNeg 0) 23 0 x5.toNatClampNeg)), (.inl ((ab_su (ab_su S 30 0 x1.toNatClampNeg (vp_nar .boolean 0)) 31 0 x1.toNatClampNeg 0) 22 0 x6.toNatClampNeg)), (.inl ((ab_su (ab_su S 30 0 x1.toNatClampNeg (vp_nar .boolean 0)) 31 0 x1.toNatClampNeg 0) 23 0 x6.toNatClampNeg))] (ab_su (ab_su S 30 0 x1.toNatClampNeg (vp_nar .boolean 0)) 31 0 x1.toNatClampNeg 0) (ab_back Q G 165 [some (.inr (21, 0)), some (.inl x1), some (.inl x2), some (.inl x3), some (.inl x4), some (.inl x5), some (.inl x6), some (.inl xs0), some (.inl x5), some (.inl 0)] [(.inl x1), (.inr (32, 0))] 0))) ∧ (¬ ((ab_su (ab_su S 30 0 x1.toNatClampNeg (vp_nar .boolean 0)) 31 0 x1.toNatClampNeg 0) 22 0 x4.toNatClampNeg) = 0 → vp_in x5 336 ∧ (((ab_su (ab_su S 30 0 x1.toNatClampNeg (vp_nar .boolean 0)) 31 0 x1.toNatClampNeg 0) 22 0 x5.toNatClampNeg) = 0 → (0 = 0 → vp_in x5 336 ∧ vp_in x1 24 ∧ (0 = 0 → vp_in x5 336 ∧ vp_in x1 24 ∧ vp_in x1 24 ∧ (((ab_su (ab_su (ab_su (ab_su S 30 0 x1.toNatClampNeg (vp_nar .boolean 0)) 31 0 x1.toNatClampNeg 0) 32 0 x1.toNatClampNeg ((ab_su (ab_su S 30 0 x1.toNatClampNeg (vp_nar .boolean 0)) 31 0 x1.toNatClampNeg 0) 23 0 x5.toNatClampNeg)) 33 0 x1.toNatClampNeg ((ab_su (ab_su (ab_su S 30 0 x1.toNatClampNeg (vp_nar .boolean 0)) 31 0 x1.toNatClampNeg 0) 32 0 x1.toNatClampNeg ((ab_su (ab_su S 30 0 x1.toNatClampNeg (vp_nar .boolean 0)) 31 0 x1.toNatClampNeg 0) 23 0 x5.toNatClampNeg)) 24 0 x5.toNatClampNeg)) 31 0 x1.toNatClampNeg) = 0 → vp_in x1 24 ∧ (((ab_su (ab_su (ab_su (ab_su S 30 0 x1.toNatClampNeg (vp_nar .boolean 0)) 31 0 x1.toNatClampNeg 0) 32 0 x1.toNatClampNeg ((ab_su (ab_su S 30 0 x1.toNatClampNeg (vp_nar .boolean 0)) 31 0 x1.toNatClampNeg 0) 23 0 x5.toNatClampNeg)) 33 0 x1.toNatClampNeg ((ab_su (ab_su (ab_su S 30 0 x1.toNatClampNeg (vp_nar .boolean 0)) 31 0 x1.toNatClampNeg 0) 32 0 x1.toNatClampNeg ((ab_su (ab_su S 30 0 x1.toNatClampNeg (vp_nar .boolean 0)) 31 0 x1.toNatClampNeg 0) 23 0 x5.toNatClampNeg)) 24 0 x5.toNatClampNeg)) 32 0 x1.toNatClampNeg) = (-9) → vp_in x1 24 ∧ Q (.inl none) (ab_su (ab_su (ab_su (ab_su (ab_su S 30 0 x1.toNatClampNeg (vp_nar .boolean 0)) 31 0 x1.toNatClampNeg 0) 32 0 x1.toNatClampNeg ((ab_su (ab_su S 30 0 x1.toNatClampNeg (vp_nar .boolean 0)) 31 0 x1.toNatClampNeg 0) 23 0 x5.toNatClampNeg)) 33 0 x1.toNatClampNeg ((ab_su (ab_su (ab_su S 30 0 x1.toNatClampNeg (vp_nar .boolean 0)) 31 0 x1.toNatClampNeg 0) 32 0 x1.toNatClampNeg ((ab_su (ab_su S 30 0 x1.toNatClampNeg (vp_nar .boolean 0)) 31 0 x1.toNatClampNeg 0) 23 0 x5.toNatClampNeg)) 24 0 x5.toNatClampNeg)) 31 0 x1.toNatClampNeg 2)) ∧ (¬ ((ab_su (ab_su (ab_su (ab_su S 30 0 x1.toNatClampNeg (vp_nar .boolean 0)) 31 0 x1.toNatClampNeg 0) 32 0 x1.toNatClampNeg ((ab_su (ab_su S 30 0 x1.toNatClampNeg (vp_nar .boolean 0)) 31 0 x1.toNatClampNeg 0) 23 0 x5.toNatClampNeg)) 33 0 x1.toNatClampNeg ((ab_su (ab_su (ab_su S 30 0 x1.toNatClampNeg (vp_nar .boolean 0)) 31 0 x1.toNatClampNeg 0) 32 0 x1.toNatClampNeg ((ab_su (ab_su S 30 0 x1.toNatClampNeg (vp_nar .boolean 0)) 31 0 x1.toNatClampNeg 0) 23 0 x5.toNatClampNeg)) 24 0 x5.toNatClampNeg)) 32 0 x1.toNatClampNeg) = (-9) → vp_in x1 24 ∧ (((ab_su (ab_su (ab_su (ab_su S 30 0 x1.toNatClampNeg (vp_nar .boolean 0)) 31 0 x1.toNatClampNeg 0) 32 0 x1.toNatClampNeg ((ab_su (ab_su S 30 0 x1.toNatClampNeg (vp_nar .boolean 0)) 31 0 x1.toNatClampNeg 0) 23 0 x5.toNatClampNeg)) 33 0 x1.toNatClampNeg ((ab_su (ab_su (ab_su S 30 0 x1.toNatClampNeg (vp_nar .boolean 0)) 31 0 x1.toNatClampNeg 0) 32 0 x1.toNatClampNeg ((ab_su (ab_su S 30 0 x1.toNatClampNeg (vp_nar .boolean 0)) 31 0 x1.toNatClampNeg 0) 23 0 x5.toNatClampNeg)) 24 0 x5.toNatClampNeg)) 33 0 x1.toNatClampNeg) = (-9) → vp_in x1 24 ∧ Q (.inl none) (ab_su (ab_su (ab_su (ab_su (ab_su S 30 0 x1.toNatClampNeg (vp_nar .boolean 0)) 31 0 x1.toNatClampNeg 0) 32 0 x1.toNatClampNeg ((ab_su (ab_su S 30 0 x1.toNatClampNeg (vp_nar .boolean 0)) 31 0 x1.toNatClampNeg 0) 23 0 x5.toNatClampNeg)) 33 0 x1.toNatClampNeg ((ab_su (ab_su (ab_su S 30 0 x1.toNatClampNeg (vp_nar .boolean 0)) 31 0 x1.toNatClampNeg 0) 32 0 x1.toNatClampNeg ((ab_su (ab_su S 30 0 x1.toNatClampNeg (vp_nar .boolean 0)) 31 0 x1.toNatClampNeg 0) 23 0 x5.toNatClampNeg)) 24 0 x5.toNatClampNeg)) 31 0 x1.toNatClampNeg 3)) ∧ (¬ ((ab_su (ab_su (ab_su (ab_su S 30 0 x1.toNatClampNeg (vp_nar .boolean 0)) 31 0 x1.toNatClampNeg 0) 32 0 x1.toNatClampNeg ((ab_su (ab_su S 30 0 x1.toNatClampNeg (vp_nar .boolean 0)) 31 0 x1.toNatClampNeg 0) 23 0 x5.toNatClampNeg)) 33 0 x1.toNatClampNeg ((ab_su (ab_su (ab_su S 30 0 x1.toNatClampNeg (vp_nar .boolean 0)) 31 0 x1.toNatClampNeg 0) 32 0 x1.toNatClampNeg ((ab_su (ab_su S 30 0 x1.toNatClampNeg (vp_nar .boolean 0)) 31 0 x1.toNatClampNeg 0) 23 0 x5.toNatClampNeg)) 24 0 x5.toNatClampNeg)) 33 0 x1.toNatClampNeg) = (-9) → vp_in x1 24 ∧ Q (.inl none) (ab_su (ab_su (ab_su (ab_su (ab_su S 30 0 x1.toNatClampNeg (vp_nar .boolean 0)) 31 0 x1.toNatClampNeg 0) 32 0 x1.toNatClampNeg ((ab_su (ab_su S 30 0 x1.toNatClampNeg (vp_nar .boolean 0)) 31 0 x1.toNatClampNeg 0) 23 0 x5.toNatClampNeg)) 33 0 x1.toNatClampNeg ((ab_su (ab_su (ab_su S 30 0 x1.toNatClampNeg (vp_nar .boolean 0)) 31 0 x1.toNatClampNeg 0) 32 0 x1.toNatClampNeg ((ab_su (ab_su S 30 0 x1.toNatClampNeg (vp_nar .boolean 0)) 31 0 x1.toNatClampNeg 0) 23 0 x5.toNatClampNeg)) 24 0 x5.toNatClampNeg)) 31 0 x1.toNatClampNeg 0)))) ∧ (¬ ((ab_su (ab_su (ab_su (ab_su S 30 0 x1.toNatClampNeg (vp_nar .boolean 0)) 31 0 x1.toNatClampNeg 0) 32 0 x1.toNatClampNeg ((ab_su (ab_su S 30 0 x1.toNatClampNeg (vp_nar .boolean 0)) 31 0 x1.toNatClampNeg 0) 23 0 x5.toNatClampNeg)) 33 0 x1.toNatClampNeg ((ab_su (ab_su (ab_su S 30 0 x1.toNatClampNeg (vp_nar .boolean 0)) 31 0 x1.toNatClampNeg 0) 32 0 x1.toNatClampNeg ((ab_su (ab_su S 30 0 x1.toNatClampNeg (vp_nar .boolean 0)) 31 0 x1.toNatClampNeg 0) 23 0 x5.toNatClampNeg)) 24 0 x5.toNatClampNeg)) 31 0 x1.toNatClampNeg) = 0 → Q (.inl none) (ab_su (ab_su (ab_su (ab_su S 30 0 x1.toNatClampNeg (vp_nar .boolean 0)) 31 0 x1.toNatClampNeg 0) 32 0 x1.toNatClampNeg ((ab_su (ab_su S 30 0 x1.toNatClampNeg (vp_nar .boolean 0)) 31 0 x1.toNatClampNeg 0) 23 0 x5.toNatClampNeg)) 33 0 x1.toNatClampNeg ((ab_su (ab_su (ab_su S 30 0 x1.toNatClampNeg (vp_nar .boolean 0)) 31 0 x1.toNatClampNeg 0) 32 0 x1.toNatClampNeg ((ab_su (ab_su S 30 0 x1.toNatClampNeg (vp_nar .boolean 0)) 31 0 x1.toNatClampNeg 0) 23 0 x5.toNatClampNeg)) 24 0 x5.toNatClampNeg)))) ∧ (¬ 0 = 0 → vp_in x4 336 ∧ vp_in x5 336 ∧ vp_in x6 336 ∧ vp_in x6 336 ∧ Sp_X6_choose [(.inl ((ab_su (ab_su (ab_su S 30 0 x1.toNatClampNeg (vp_nar .boolean 0)) 31 0 x1.toNatClampNeg 0) 32 0 x1.toNatClampNeg ((ab_su (ab_su S 30 0 x1.toNatClampNeg (vp_nar .boolean 0)) 31 0 x1.toNatClampNeg 0) 23 0 x5.toNatClampNeg)) 24 0 x4.toNatClampNeg)), (.inl ((ab_su (ab_su (ab_su S 30 0 x1.toNatClampNeg (vp_nar .boolean 0)) 31 0 x1.toNatClampNeg 0) 32 0 x1.toNatClampNeg ((ab_su (ab_su S 30 0 x1.toNatClampNeg (vp_nar .boolean 0)) 31 0 x1.toNatClampNeg 0) 23 0 x5.toNatClampNeg)) 24 0 x5.toNatClampNeg)), (.inl ((ab_su (ab_su (ab_su S 30 0 x1.toNatClampNeg (vp_nar .boolean 0)) 31 0 x1.toNatClampNeg 0) 32 0 x1.toNatClampNeg ((ab_su (ab_su S 30 0 x1.toNatClampNeg (vp_nar .boolean 0)) 31 0 x1.toNatClampNeg 0) 23 0 x5.toNatClampNeg)) 22 0 x6.toNatClampNeg)), (.inl ((ab_su (ab_su (ab_su S 30 0 x1.toNatClampNeg (vp_nar .boolean 0)) 31 0 x1.toNatClampNeg 0) 32 0 x1.toNatClampNeg ((ab_su (ab_su S 30 0 x1.toNatClampNeg (vp_nar .boolean 0)) 31 0 x1.toNatClampNeg 0) 23 0 x5.toNatClampNeg)) 24 0 x6.toNatClampNeg))] (ab_su (ab_su (ab_su S 30 0 x1.toNatClampNeg (vp_nar .boolean 0)) 31 0 x1.toNatClampNeg 0) 32 0 x1.toNatClampNeg ((ab_su (ab_su S 30 0 x1.toNatClampNeg (vp_nar .boolean 0)) 31 0 x1.toNatClampNeg 0) 23 0 x5.toNatClampNeg)) (ab_back Q G 217 [some (.inr (21, 0)), some (.inl x1), some (.inl x2), some (.inl x3), some (.inl x4), some (.inl x5), some (.inl x6), some (.inl xs0), some (.inl x5), some (.inl 0)] [(.inl x1), (.inr (33, 0))] 0))) ∧ (¬ 0 = 0 → vp_in x4 336 ∧ vp_in x5 336 ∧ vp_in x6 336 ∧ vp_in x6 336 ∧ Sp_X6_choose [(.inl ((ab_su (ab_su S 30 0 x1.toNatClampNeg (vp_nar .boolean 0)) 31 0 x1.toNatClampNeg 0) 23 0 x4.toNatClampNeg)), (.inl ((ab_su (ab_su S 30 0 x1.toNatClampNeg (vp_nar .boolean 0)) 31 0 x1.toNatClampNeg 0) 23 0 x5.toNatClampNeg)), (.inl ((ab_su (ab_su S 30 0 x1.toNatClampNeg (vp_nar .boolean 0)) 31 0 x1.toNatClampNeg 0) 22 0 x6.toNatClampNeg)), (.inl ((ab_su (ab_su S 30 0 x1.toNatClampNeg (vp_nar .boolean 0)) 31 0 x1.toNatClampNeg 0) 23 0 x6.toNatClampNeg))] (ab_su (ab_su S 30 0 x1.toNatClampNeg (vp_nar .boolean 0)) 31 0 x1.toNatClampNeg 0) (ab_back Q G 165 [some (.inr (21, 0)), some (.inl x1), some (.inl x2), some (.inl x3), some (.inl x4), some (.inl x5), some (.inl x6), some (.inl xs0), some (.inl x5), some (.inl 0)] [(.inl x1), (.inr (32, 0))] 0))) ∧ (¬ ((ab_su (ab_su S 30 0 x1.toNatClampNeg (vp_nar .boolean 0)) 31 0 x1.toNatClampNeg 0) 22 0 x5.toNatClampNeg) = 0 → (1 = 0 → vp_in x5 336 ∧ vp_in x1 24 ∧ (1 = 0 → vp_in x5 336 ∧ vp_in x1 24 ∧ vp_in x1 24 ∧ (((ab_su (ab_su (ab_su (ab_su S 30 0 x1.toNatClampNeg (vp_nar .boolean 0)) 31 0 x1.toNatClampNeg 0) 32 0 x1.toNatClampNeg ((ab_su (ab_su S 30 0 x1.toNatClampNeg (vp_nar .boolean 0)) 31 0 x1.toNatClampNeg 0) 23 0 x5.toNatClampNeg)) 33 0 x1.toNatClampNeg ((ab_su (ab_su (ab_su S 30 0 x1.toNatClampNeg (vp_nar .boolean 0)) 31 0 x1.toNatClampNeg 0) 32 0 x1.toNatClampNeg ((ab_su (ab_su S 30 0 x1.toNatClampNeg (vp_nar .boolean 0)) 31 0 x1.toNatClampNeg 0) 23 0 x5.toNatClampNeg)) 24 0 x5.toNatClampNeg)) 31 0 x1.toNatClampNeg) = 0 → vp_in x1 24 ∧ (((ab_su (ab_su (ab_su (ab_su S 30 0 x1.toNatClampNeg (vp_nar .boolean 0)) 31 0 x1.toNatClampNeg 0) 32 0 x1.toNatClampNeg ((ab_su (ab_su S 30 0 x1.toNatClampNeg (vp_nar .boolean 0)) 31 0 x1.toNatClampNeg 0) 23 0 x5.toNatClampNeg)) 33 0 x1.toNatClampNeg ((ab_su (ab_su (ab_su S 30 0 x1.toNatClampNeg (vp_nar .boolean 0)) 31 0 x1.toNatClampNeg 0) 32 0 x1.toNatClampNeg ((ab_su (ab_su S 30 0 x1.toNatClampNeg (vp_nar .boolean 0)) 31 0 x1.toNatClampNeg 0) 23 0 x5.toNatClampNeg)) 24 0 x5.toNatClampNeg)) 32 0 x1.toNatClampNeg) = (-9) → vp_in x1 24 ∧ Q (.inl none) (ab_su (ab_su (ab_su (ab_su (ab_su S 30 0 x1.toNatClampNeg (vp_nar .boolean 0)) 31 0 x1.toNatClampNeg 0) 32 0 x1.toNatClampNeg ((ab_su (ab_su S 30 0 x1.toNatClampNeg (vp_nar .boolean 0)) 31 0 x1.toNatClampNeg 0) 23 0 x5.toNatClampNeg)) 33 0 x1.toNatClampNeg ((ab_su (ab_su (ab_su S 30 0 x1.toNatClampNeg (vp_nar .boolean 0)) 31 0 x1.toNatClampNeg 0) 32 0 x1.toNatClampNeg ((ab_su (ab_su S 30 0 x1.toNatClampNeg (vp_nar .boolean 0)) 31 0 x1.toNatClampNeg 0) 23 0 x5.toNatClampNeg)) 24 0 x5.toNatClampNeg)) 31 0 x1.toNatClampNeg 2)) ∧ (¬ ((ab_su (ab_su (ab_su (ab_su S 30 0 x1.toNatClampNeg (vp_nar .boolean 0)) 31 0 x1.toNatClampNeg 0) 32 0 x1.toNatClampNeg ((ab_su (ab_su S 30 0 x1.toNatClampNeg (vp_nar .boolean 0)) 31 0 x1.toNatClampNeg 0) 23 0 x5.toNatClampNeg)) 33 0 x1.toNatClampNeg ((ab_su (ab_su (ab_su S 30 0 x1.toNatClampNeg (vp_nar .boolean 0)) 31 0 x1.toNatClampNeg 0) 32 0 x1.toNatClampNeg ((ab_su (ab_su S 30 0 x1.toNatClampNeg (vp_nar .boolean 0)) 31 0 x1.toNatClampNeg 0) 23 0 x5.toNatClampNeg)) 24 0 x5.toNatClampNeg)) 32 0 x1.toNatClampNeg) = (-9) → vp_in x1 24 ∧ (((ab_su (ab_su (ab_su (ab_su S 30 0 x1.toNatClampNeg (vp_nar .boolean 0)) 31 0 x1.toNatClampNeg 0) 32 0 x1.toNatClampNeg ((ab_su (ab_su S 30 0 x1.toNatClampNeg (vp_nar .boolean 0)) 31 0 x1.toNatClampNeg 0) 23 0 x5.toNatClampNeg)) 33 0 x1.toNatClampNeg ((ab_su (ab_su (ab_su S 30 0 x1.toNatClampNeg (vp_nar .boolean 0)) 31 0 x1.toNatClampNeg 0) 32 0 x1.toNatClampNeg ((ab_su (ab_su S 30 0 x1.toNatClampNeg (vp_nar .boolean 0)) 31 0 x1.toNatClampNeg 0) 23 0 x5.toNatClampNeg)) 24 0 x5.toNatClampNeg)) 33 0 x1.toNatClampNeg) = (-9) → vp_in x1 24 ∧ Q (.inl none) (ab_su (ab_su (ab_su (ab_su (ab_su S 30 0 x1.toNatClampNeg (vp_nar .boolean 0)) 31 0 x1.toNatClampNeg 0) 32 0 x1.toNatClampNeg ((ab_su (ab_su S 30 0 x1.toNatClampNeg (vp_nar .boolean 0)) 31 0 x1.toNatClampNeg 0) 23 0 x5.toNatClampNeg)) 33 0 x1.toNatClampNeg ((ab_su (ab_su (ab_su S 30 0 x1.toNatClampNeg (vp_nar .boolean 0)) 31 0 x1.toNatClampNeg 0) 32 0 x1.toNatClampNeg ((ab_su (ab_su S 30 0 x1.toNatClampNeg (vp_nar .boolean 0)) 31 0 x1.toNatClampNeg 0) 23 0 x5.toNatClampNeg)) 24 0 x5.toNatClampNeg)) 31 0 x1.toNatClampNeg 3)) ∧ (¬ ((ab_su (ab_su (ab_su (ab_su S 30 0 x1.toNatClampNeg (vp_nar .boolean 0)) 31 0 x1.toNatClampNeg 0) 32 0 x1.toNatClampNeg ((ab_su (ab_su S 30 0 x1.toNatClampNeg (vp_nar .boolean 0)) 31 0 x1.toNatClampNeg 0) 23 0 x5.toNatClampNeg)) 33 0 x1.toNatClampNeg ((ab_su (ab_su (ab_su S 30 0 x1.toNatClampNeg (vp_nar .boolean 0)) 31 0 x1.toNatClampNeg 0) 32 0 x1.toNatClampNeg ((ab_su (ab_su S 30 0 x1.toNatClampNeg (vp_nar .boolean 0)) 31 0 x1.toNatClampNeg 0) 23 0 x5.toNatClampNeg)) 24 0 x5.toNatClampNeg)) 33 0 x1.toNatClampNeg) = (-9) → vp_in x1 24 ∧ Q (.inl none) (ab_su (ab_su (ab_su (ab_su (ab_su S 30 0 x1.toNatClampNeg (vp_nar .boolean 0)) 31 0 x1.toNatClampNeg 0) 32 0 x1.toNatClampNeg ((ab_su (ab_su S 30 0 x1.toNatClampNeg (vp_nar .boolean 0)) 31 0 x1.toNatClampNeg 0) 23 0 x5.toNatClampNeg)) 33 0 x1.toNatClampNeg ((ab_su (ab_su (ab_su S 30 0 x1.toNatClampNeg (vp_nar .boolean 0)) 31 0 x1.toNatClampNeg 0) 32 0 x1.toNatClampNeg ((ab_su (ab_su S 30 0 x1.toNatClampNeg (vp_nar .boolean 0)) 31 0 x1.toNatClampNeg 0) 23 0 x5.toNatClampNeg)) 24 0 x5.toNatClampNeg)) 31 0 x1.toNatClampNeg 0)))) ∧ (¬ ((ab_su (ab_su (ab_su (ab_su S 30 0 x1.toNatClampNeg (vp_nar .boolean 0)) 31 0 x1.toNatClampNeg 0) 32 0 x1.toNatClampNeg ((ab_su (ab_su S 30 0 x1.toNatClampNeg (vp_nar .boolean 0)) 31 0 x1.toNatClampNeg 0) 23 0 x5.toNatClampNeg)) 33 0 x1.toNatClampNeg ((ab_su (ab_su (ab_su S 30 0 x1.toNatClampNeg (vp_nar .boolean 0)) 31 0 x1.toNatClampNeg 0) 32 0 x1.toNatClampNeg ((ab_su (ab_su S 30 0 x1.toNatClampNeg (vp_nar .boolean 0)) 31 0 x1.toNatClampNeg 0) 23 0 x5.toNatClampNeg)) 24 0 x5.toNatClampNeg)) 31 0 x1.toNatClampNeg) = 0 → Q (.inl none) (ab_su (ab_su (ab_su (ab_su S 30 0 x1.toNatClampNeg (vp_nar .boolean 0)) 31 0 x1.toNatClampNeg 0) 32 0 x1.toNatClampNeg ((ab_su (ab_su S 30 0 x1.toNatClampNeg (vp_nar .boolean 0)) 31 0 x1.toNatClampNeg 0) 23 0 x5.toNatClampNeg)) 33 0 x1.toNatClampNeg ((ab_su (ab_su (ab_su S 30 0 x1.toNatClampNeg (vp_nar .boolean 0)) 31 0 x1.toNatClampNeg 0) 32 0 x1.toNatClampNeg ((ab_su (ab_su S 30 0 x1.toNatClampNeg (vp_nar .boolean 0)) 31 0 x1.toNatClampNeg 0) 23 0 x5.toNatClampNeg)) 24 0 x5.toNatClampNeg)))) ∧ (¬ 1 = 0 → vp_in x4 336 ∧ vp_in x5 336 ∧ vp_in x6 336 ∧ vp_in x6 336 ∧ Sp_X6_choose [(.inl ((ab_su (ab_su (ab_su S 30 0 x1.toNatClampNeg (vp_nar .boolean 0)) 31 0 x1.toNatClampNeg 0) 32 0 x1.toNatClampNeg ((ab_su (ab_su S 30 0 x1.toNatClampNeg (vp_nar .boolean 0)) 31 0 x1.toNatClampNeg 0) 23 0 x5.toNatClampNeg)) 24 0 x4.toNatClampNeg)), (.inl ((ab_su (ab_su (ab_su S 30 0 x1.toNatClampNeg (vp_nar .boolean 0)) 31 0 x1.toNatClampNeg 0) 32 0 x1.toNatClampNeg ((ab_su (ab_su S 30 0 x1.toNatClampNeg (vp_nar .boolean 0)) 31 0 x1.toNatClampNeg 0) 23 0 x5.toNatClampNeg)) 24 0 x5.toNatClampNeg)), (.inl ((ab_su (ab_su (ab_su S 30 0 x1.toNatClampNeg (vp_nar .boolean 0)) 31 0 x1.toNatClampNeg 0) 32 0 x1.toNatClampNeg ((ab_su (ab_su S 30 0 x1.toNatClampNeg (vp_nar .boolean 0)) 31 0 x1.toNatClampNeg 0) 23 0 x5.toNatClampNeg)) 22 0 x6.toNatClampNeg)), (.inl ((ab_su (ab_su (ab_su S 30 0 x1.toNatClampNeg (vp_nar .boolean 0)) 31 0 x1.toNatClampNeg 0) 32 0 x1.toNatClampNeg ((ab_su (ab_su S 30 0 x1.toNatClampNeg (vp_nar .boolean 0)) 31 0 x1.toNatClampNeg 0) 23 0 x5.toNatClampNeg)) 24 0 x6.toNatClampNeg))] (ab_su (ab_su (ab_su S 30 0 x1.toNatClampNeg (vp_nar .boolean 0)) 31 0 x1.toNatClampNeg 0) 32 0 x1.toNatClampNeg ((ab_su (ab_su S 30 0 x1.toNatClampNeg (vp_nar .boolean 0)) 31 0 x1.toNatClampNeg 0) 23 0 x5.toNatClampNeg)) (ab_back Q G 217 [some (.inr (21, 0)), some (.inl x1), some (.inl x2), some (.inl x3), some (.inl x4), some (.inl x5), some (.inl x6), some (.inl xs0), some (.inl x5), some (.inl 1)] [(.inl x1), (.inr (33, 0))] 0))) ∧ (¬ 1 = 0 → vp_in x4 336 ∧ vp_in x5 336 ∧ vp_in x6 336 ∧ vp_in x6 336 ∧ Sp_X6_choose [(.inl ((ab_su (ab_su S 30 0 x1.toNatClampNeg (vp_nar .boolean 0)) 31 0 x1.toNatClampNeg 0) 23 0 x4.toNatClampNeg)), (.inl ((ab_su (ab_su S 30 0 x1.toNatClampNeg (vp_nar .boolean 0)) 31 0 x1.toNatClampNeg 0) 23 0 x5.toNatClampNeg)), (.inl ((ab_su (ab_su S 30 0 x1.toNatClampNeg (vp_nar .boolean 0)) 31 0 x1.toNatClampNeg 0) 22 0 x6.toNatClampNeg)), (.inl ((ab_su (ab_su S 30 0 x1.toNatClampNeg (vp_nar .boolean 0)) 31 0 x1.toNatClampNeg 0) 23 0 x6.toNatClampNeg))] (ab_su (ab_su S 30 0 x1.toNatClampNeg (vp_nar .boolean 0)) 31 0 x1.toNatClampNeg 0) (ab_back Q G 165 [some (.inr (21, 0)), some (.inl x1), some (.inl x2), some (.inl x3), some (.inl x4), some (.inl x5), some (.inl x6), some (.inl xs0), some (.inl x5), some (.inl 1)] [(.inl x1), (.inr (32, 0))] 0))))) ∧ (¬ ((ab_su (ab_su S 30 0 x1.toNatClampNeg (vp_nar .boolean 0)) 31 0 x1.toNatClampNeg 0) 22 0 x4.toNatClampNeg) = 0 → vp_in x4 336 ∧ (((ab_su (ab_su S 30 0 x1.toNatClampNeg (vp_nar .boolean 0)) 31 0 x1.toNatClampNeg 0) 22 0 x4.toNatClampNeg) = 0 → (0 = 0 → vp_in x4 336 ∧ vp_in x1 24 ∧ (0 = 0 → vp_in x4 336 ∧ vp_in x1 24 ∧ vp_in x1 24 ∧ (((ab_su (ab_su (ab_su (ab_su S 30 0 x1.toNatClampNeg (vp_nar .boolean 0)) 31 0 x1.toNatClampNeg 0) 32 0 x1.toNatClampNeg ((ab_su (ab_su S 30 0 x1.toNatClampNeg (vp_nar .boolean 0)) 31 0 x1.toNatClampNeg 0) 23 0 x4.toNatClampNeg)) 33 0 x1.toNatClampNeg ((ab_su (ab_su (ab_su S 30 0 x1.toNatClampNeg (vp_nar .boolean 0)) 31 0 x1.toNatClampNeg 0) 32 0 x1.toNatClampNeg ((ab_su (ab_su S 30 0 x1.toNatClampNeg (vp_nar .boolean 0)) 31 0 x1.toNatClampNeg 0) 23 0 x4.toNatClampNeg)) 24 0 x4.toNatClampNeg)) 31 0 x1.toNatClampNeg) = 0 → vp_in x1 24 ∧ (((ab_su (ab_su (ab_su (ab_su S 30 0 x1.toNatClampNeg (vp_nar .boolean 0)) 31 0 x1.toNatClampNeg 0) 32 0 x1.toNatClampNeg ((ab_su (ab_su S 30 0 x1.toNatClampNeg (vp_nar .boolean 0)) 31 0 x1.toNatClampNeg 0) 23 0 x4.toNatClampNeg)) 33 0 x1.toNatClampNeg ((ab_su (ab_su (ab_su S 30 0 x1.toNatClampNeg (vp_nar .boolean 0)) 31 0 x1.toNatClampNeg 0) 32 0 x1.toNatClampNeg ((ab_su (ab_su S 30 0 x1.toNatClampNeg (vp_nar .boolean 0)) 31 0 x1.toNatClampNeg 0) 23 0 x4.toNatClampNeg)) 24 0 x4.toNatClampNeg)) 32 0 x1.toNatClampNeg) = (-9) → vp_in x1 24 ∧ Q (.inl none) (ab_su (ab_su (ab_su (ab_su (ab_su S 30 0 x1.toNatClampNeg (vp_nar .boolean 0)) 31 0 x1.toNatClampNeg 0) 32 0 x1.toNatClampNeg ((ab_su (ab_su S 30 0 x1.toNatClampNeg (vp_nar .boolean 0)) 31 0 x1.toNatClampNeg 0) 23 0 x4.toNatClampNeg)) 33 0 x1.toNatClampNeg ((ab_su (ab_su (ab_su S 30 0 x1.toNatClampNeg (vp_nar .boolean 0)) 31 0 x1.toNatClampNeg 0) 32 0 x1.toNatClampNeg ((ab_su (ab_su S 30 0 x1.toNatClampNeg (vp_nar .boolean 0)) 31 0 x1.toNatClampNeg 0) 23 0 x4.toNatClampNeg)) 24 0 x4.toNatClampNeg)) 31 0 x1.toNatClampNeg 2)) ∧ (¬ ((ab_su (ab_su (ab_su (ab_su S 30 0 x1.toNatClampNeg (vp_nar .boolean 0)) 31 0 x1.toNatClampNeg 0) 32 0 x1.toNatClampNeg ((ab_su (ab_su S 30 0 x1.toNatClampNeg (vp_nar .boolean 0)) 31 0 x1.toNatClampNeg 0) 23 0 x4.toNatClampNeg)) 33 0 x1.toNatClampNeg ((ab_su (ab_su (ab_su S 30 0 x1.toNatClampNeg (vp_nar .boolean 0)) 31 0 x1.toNatClampNeg 0) 32 0 x1.toNatClampNeg ((ab_su (ab_su S 30 0 x1.toNatClampNeg (vp_nar .boolean 0)) 31 0 x1.toNatClampNeg 0) 23 0 x4.toNatClampNeg)) 24 0 x4.toNatClampNeg)) 32 0 x1.toNatClampNeg) = (-9) → vp_in x1 24 ∧ (((ab_su (ab_su (ab_su (ab_su S 30 0 x1.toNatClampNeg (vp_nar .boolean 0)) 31 0 x1.toNatClampNeg 0) 32 0 x1.toNatClampNeg ((ab_su (ab_su S 30 0 x1.toNatClampNeg (vp_nar .boolean 0)) 31 0 x1.toNatClampNeg 0) 23 0 x4.toNatClampNeg)) 33 0 x1.toNatClampNeg ((ab_su (ab_su (ab_su S 30 0 x1.toNatClampNeg (vp_nar .boolean 0)) 31 0 x1.toNatClampNeg 0) 32 0 x1.toNatClampNeg ((ab_su (ab_su S 30 0 x1.toNatClampNeg (vp_nar .boolean 0)) 31 0 x1.toNatClampNeg 0) 23 0 x4.toNatClampNeg)) 24 0 x4.toNatClampNeg)) 33 0 x1.toNatClampNeg) = (-9) → vp_in x1 24 ∧ Q (.inl none) (ab_su (ab_su (ab_su (ab_su (ab_su S 30 0 x1.toNatClampNeg (vp_nar .boolean 0)) 31 0 x1.toNatClampNeg 0) 32 0 x1.toNatClampNeg ((ab_su (ab_su S 30 0 x1.toNatClampNeg (vp_nar .boolean 0)) 31 0 x1.toNatClampNeg 0) 23 0 x4.toNatClampNeg)) 33 0 x1.toNatClampNeg ((ab_su (ab_su (ab_su S 30 0 x1.toNatClampNeg (vp_nar .boolean 0)) 31 0 x1.toNatClampNeg 0) 32 0 x1.toNatClampNeg ((ab_su (ab_su S 30 0 x1.toNatClampNeg (vp_nar .boolean 0)) 31 0 x1.toNatClampNeg 0) 23 0 x4.toNatClampNeg)) 24 0 x4.toNatClampNeg)) 31 0 x1.toNatClampNeg 3)) ∧ (¬ ((ab_su (ab_su (ab_su (ab_su S 30 0 x1.toNatClampNeg (vp_nar .boolean 0)) 31 0 x1.toNatClampNeg 0) 32 0 x1.toNatClampNeg ((ab_su (ab_su S 30 0 x1.toNatClampNeg (vp_nar .boolean 0)) 31 0 x1.toNatClampNeg 0) 23 0 x4.toNatClampNeg)) 33 0 x1.toNatClampNeg ((ab_su (ab_su (ab_su S 30 0 x1.toNatClampNeg (vp_nar .boolean 0)) 31 0 x1.toNatClampNeg 0) 32 0 x1.toNatClampNeg ((ab_su (ab_su S 30 0 x1.toNatClampNeg (vp_nar .boolean 0)) 31 0 x1.toNatClampNeg 0) 23 0 x4.toNatClampNeg)) 24 0 x4.toNatClampNeg)) 33 0 x1.toNatClampNeg) = (-9) → vp_in x1 24 ∧ Q (.inl none) (ab_su (ab_su (ab_su (ab_su (ab_su S 30 0 x1.toNatClampNeg (vp_nar .boolean 0)) 31 0 x1.toNatClampNeg 0) 32 0 x1.toNatClampNeg ((ab_su (ab_su S 30 0 x1.toNatClampNeg (vp_nar .boolean 0)) 31 0 x1.toNatClampNeg 0) 23 0 x4.toNatClampNeg)) 33 0 x1.toNatClampNeg ((ab_su (ab_su (ab_su S 30 0 x1.toNatClampNeg (vp_nar .boolean 0)) 31 0 x1.toNatClampNeg 0) 32 0 x1.toNatClampNeg ((ab_su (ab_su S 30 0 x1.toNatClampNeg (vp_nar .boolean 0)) 31 0 x1.toNatClampNeg 0) 23 0 x4.toNatClampNeg)) 24 0 x4.toNatClampNeg)) 31 0 x1.toNatClampNeg 0)))) ∧ (¬ ((ab_su (ab_su (ab_su (ab_su S 30 0 x1.toNatClampNeg (vp_nar .boolean 0)) 31 0 x1.toNatClampNeg 0) 32 0 x1.toNatClampNeg ((ab_su (ab_su S 30 0 x1.toNatClampNeg (vp_nar .boolean 0)) 31 0 x1.toNatClampNeg 0) 23 0 x4.toNatClampNeg)) 33 0 x1.toNatClampNeg ((ab_su (ab_su (ab_su S 30 0 x1.toNatClampNeg (vp_nar .boolean 0)) 31 0 x1.toNatClampNeg 0) 32 0 x1.toNatClampNeg ((ab_su (ab_su S 30 0 x1.toNatClampNeg (vp_nar .boolean 0)) 31 0 x1.toNatClampNeg 0) 23 0 x4.toNatClampNeg)) 24 0 x4.toNatClampNeg)) 31 0 x1.toNatClampNeg) = 0 → Q (.inl none) (ab_su (ab_su (ab_su (ab_su S 30 0 x1.toNatClampNeg (vp_nar .boolean 0)) 31 0 x1.toNatClampNeg 0) 32 0 x1.toNatClampNeg ((ab_su (ab_su S 30 0 x1.toNatClampNeg (vp_nar .boolean 0)) 31 0 x1.toNatClampNeg 0) 23 0 x4.toNatClampNeg)) 33 0 x1.toNatClampNeg ((ab_su (ab_su (ab_su S 30 0 x1.toNatClampNeg (vp_nar .boolean 0)) 31 0 x1.toNatClampNeg 0) 32 0 x1.toNatClampNeg ((ab_su (ab_su S 30 0 x1.toNatClampNeg (vp_nar .boolean 0)) 31 0 x1.toNatClampNeg 0) 23 0 x4.toNatClampNeg)) 24 0 x4.toNatClampNeg)))) ∧ (¬ 0 = 0 → vp_in x4 336 ∧ vp_in x5 336 ∧ vp_in x6 336 ∧ vp_in x6 336 ∧ Sp_X6_choose [(.inl ((ab_su (ab_su (ab_su S 30 0 x1.toNatClampNeg (vp_nar .boolean 0)) 31 0 x1.toNatClampNeg 0) 32 0 x1.toNatClampNeg ((ab_su (ab_su S 30 0 x1.toNatClampNeg (vp_nar .boolean 0)) 31 0 x1.toNatClampNeg 0) 23 0 x4.toNatClampNeg)) 24 0 x4.toNatClampNeg)), (.inl ((ab_su (ab_su (ab_su S 30 0 x1.toNatClampNeg (vp_nar .boolean 0)) 31 0 x1.toNatClampNeg 0) 32 0 x1.toNatClampNeg ((ab_su (ab_su S 30 0 x1.toNatClampNeg (vp_nar .boolean 0)) 31 0 x1.toNatClampNeg 0) 23 0 x4.toNatClampNeg)) 24 0 x5.toNatClampNeg)), (.inl ((ab_su (ab_su (ab_su S 30 0 x1.toNatClampNeg (vp_nar .boolean 0)) 31 0 x1.toNatClampNeg 0) 32 0 x1.toNatClampNeg ((ab_su (ab_su S 30 0 x1.toNatClampNeg (vp_nar .boolean 0)) 31 0 x1.toNatClampNeg 0) 23 0 x4.toNatClampNeg)) 22 0 x6.toNatClampNeg)), (.inl ((ab_su (ab_su (ab_su S 30 0 x1.toNatClampNeg (vp_nar .boolean 0)) 31 0 x1.toNatClampNeg 0) 32 0 x1.toNatClampNeg ((ab_su (ab_su S 30 0 x1.toNatClampNeg (vp_nar .boolean 0)) 31 0 x1.toNatClampNeg 0) 23 0 x4.toNatClampNeg)) 24 0 x6.toNatClampNeg))] (ab_su (ab_su (ab_su S 30 0 x1.toNatClampNeg (vp_nar .boolean 0)) 31 0 x1.toNatClampNeg 0) 32 0 x1.toNatClampNeg ((ab_su (ab_su S 30 0 x1.toNatClampNeg (vp_nar .boolean 0)) 31 0 x1.toNatClampNeg 0) 23 0 x4.toNatClampNeg)) (ab_back Q G 217 [some (.inr (21, 0)), some (.inl x1), some (.inl x2), some (.inl x3), some (.inl x4), some (.inl x5), some (.inl x6), some (.inl xs0), some (.inl x4), some (.inl 0)] [(.inl x1), (.inr (33, 0))] 0))) ∧ (¬ 0 = 0 → vp_in x4 336 ∧ vp_in x5 336 ∧ vp_in x6 336 ∧ vp_in x6 336 ∧ Sp_X6_choose [(.inl ((ab_su (ab_su S 30 0 x1.toNatClampNeg (vp_nar .boolean 0)) 31 0 x1.toNatClampNeg 0) 23 0 x4.toNatClampNeg)), (.inl ((ab_su (ab_su S 30 0 x1.toNatClampNeg (vp_nar .boolean 0)) 31 0 x1.toNatClampNeg 0) 23 0 x5.toNatClampNeg)), (.inl ((ab_su (ab_su S 30 0 x1.toNatClampNeg (vp_nar .boolean 0)) 31 0 x1.toNatClampNeg 0) 22 0 x6.toNatClampNeg)), (.inl ((ab_su (ab_su S 30 0 x1.toNatClampNeg (vp_nar .boolean 0)) 31 0 x1.toNatClampNeg 0) 23 0 x6.toNatClampNeg))] (ab_su (ab_su S 30 0 x1.toNatClampNeg (vp_nar .boolean 0)) 31 0 x1.toNatClampNeg 0) (ab_back Q G 165 [some (.inr (21, 0)), some (.inl x1), some (.inl x2), some (.inl x3), some (.inl x4), some (.inl x5), some (.inl x6), some (.inl xs0), some (.inl x4), some (.inl 0)] [(.inl x1), (.inr (32, 0))] 0))) ∧ (¬ ((ab_su (ab_su S 30 0 x1.toNatClampNeg (vp_nar .boolean 0)) 31 0 x1.toNatClampNeg 0) 22 0 x4.toNatClampNeg) = 0 → vp_in x5 336 ∧ (((ab_su (ab_su S 30 0 x1.toNatClampNeg (vp_nar .boolean 0)) 31 0 x1.toNatClampNeg 0) 22 0 x5.toNatClampNeg) = 0 → (0 = 0 → vp_in x4 336 ∧ vp_in x1 24 ∧ (0 = 0 → vp_in x4 336 ∧ vp_in x1 24 ∧ vp_in x1 24 ∧ (((ab_su (ab_su (ab_su (ab_su S 30 0 x1.toNatClampNeg (vp_nar .boolean 0)) 31 0 x1.toNatClampNeg 0) 32 0 x1.toNatClampNeg ((ab_su (ab_su S 30 0 x1.toNatClampNeg (vp_nar .boolean 0)) 31 0 x1.toNatClampNeg 0) 23 0 x4.toNatClampNeg)) 33 0 x1.toNatClampNeg ((ab_su (ab_su (ab_su S 30 0 x1.toNatClampNeg (vp_nar .boolean 0)) 31 0 x1.toNatClampNeg 0) 32 0 x1.toNatClampNeg ((ab_su (ab_su S 30 0 x1.toNatClampNeg (vp_nar .boolean 0)) 31 0 x1.toNatClampNeg 0) 23 0 x4.toNatClampNeg)) 24 0 x4.toNatClampNeg)) 31 0 x1.toNatClampNeg) = 0 → vp_in x1 24 ∧ (((ab_su (ab_su (ab_su (ab_su S 30 0 x1.toNatClampNeg (vp_nar .boolean 0)) 31 0 x1.toNatClampNeg 0) 32 0 x1.toNatClampNeg ((ab_su (ab_su S 30 0 x1.toNatClampNeg (vp_nar .boolean 0)) 31 0 x1.toNatClampNeg 0) 23 0 x4.toNatClampNeg)) 33 0 x1.toNatClampNeg ((ab_su (ab_su (ab_su S 30 0 x1.toNatClampNeg (vp_nar .boolean 0)) 31 0 x1.toNatClampNeg 0) 32 0 x1.toNatClampNeg ((ab_su (ab_su S 30 0 x1.toNatClampNeg (vp_nar .boolean 0)) 31 0 x1.toNatClampNeg 0) 23 0 x4.toNatClampNeg)) 24 0 x4.toNatClampNeg)) 32 0 x1.toNatClampNeg) = (-9) → vp_in x1 24 ∧ Q (.inl none) (ab_su (ab_su (ab_su (ab_su (ab_su S 30 0 x1.toNatClampNeg (vp_nar .boolean 0)) 31 0 x1.toNatClampNeg 0) 32 0 x1.toNatClampNeg ((ab_su (ab_su S 30 0 x1.toNatClampNeg (vp_nar .boolean 0)) 31 0 x1.toNatClampNeg 0) 23 0 x4.toNatClampNeg)) 33 0 x1.toNatClampNeg ((ab_su (ab_su (ab_su S 30 0 x1.toNatClampNeg (vp_nar .boolean 0)) 31 0 x1.toNatClampNeg 0) 32 0 x1.toNatClampNeg ((ab_su (ab_su S 30 0 x1.toNatClampNeg (vp_nar .boolean 0)) 31 0 x1.toNatClampNeg 0) 23 0 x4.toNatClampNeg)) 24 0 x4.toNatClampNeg)) 31 0 x1.toNatClampNeg 2)) ∧ (¬ ((ab_su (ab_su (ab_su (ab_su S 30 0 x1.toNatClampNeg (vp_nar .boolean 0)) 31 0 x1.toNatClampNeg 0) 32 0 x1.toNatClampNeg ((ab_su (ab_su S 30 0 x1.toNatClampNeg (vp_nar .boolean 0)) 31 0 x1.toNatClampNeg 0) 23 0 x4.toNatClampNeg)) 33 0 x1.toNatClampNeg ((ab_su (ab_su (ab_su S 30 0 x1.toNatClampNeg (vp_nar .boolean 0)) 31 0 x1.toNatClampNeg 0) 32 0 x1.toNatClampNeg ((ab_su (ab_su S 30 0 x1.toNatClampNeg (vp_nar .boolean 0)) 31 0 x1.toNatClampNeg 0) 23 0 x4.toNatClampNeg)) 24 0 x4.toNatClampNeg)) 32 0 x1.toNatClampNeg) = (-9) → vp_in x1 24 ∧ (((ab_su (ab_su (ab_su (ab_su S 30 0 x1.toNatClampNeg (vp_nar .boolean 0)) 31 0 x1.toNatClampNeg 0) 32 0 x1.toNatClampNeg ((ab_su (ab_su S 30 0 x1.toNatClampNeg (vp_nar .boolean 0)) 31 0 x1.toNatClampNeg 0) 23 0 x4.toNatClampNeg)) 33 0 x1.toNatClampNeg ((ab_su (ab_su (ab_su S 30 0 x1.toNatClampNeg (vp_nar .boolean 0)) 31 0 x1.toNatClampNeg 0) 32 0 x1.toNatClampNeg ((ab_su (ab_su S 30 0 x1.toNatClampNeg (vp_nar .boolean 0)) 31 0 x1.toNatClampNeg 0) 23 0 x4.toNatClampNeg)) 24 0 x4.toNatClampNeg)) 33 0 x1.toNatClampNeg) = (-9) → vp_in x1 24 ∧ Q (.inl none) (ab_su (ab_su (ab_su (ab_su (ab_su S 30 0 x1.toNatClampNeg (vp_nar .boolean 0)) 31 0 x1.toNatClampNeg 0) 32 0 x1.toNatClampNeg ((ab_su (ab_su S 30 0 x1.toNatClampNeg (vp_nar .boolean 0)) 31 0 x1.toNatClampNeg 0) 23 0 x4.toNatClampNeg)) 33 0 x1.toNatClampNeg ((ab_su (ab_su (ab_su S 30 0 x1.toNatClampNeg (vp_nar .boolean 0)) 31 0 x1.toNatClampNeg 0) 32 0 x1.toNatClampNeg ((ab_su (ab_su S 30 0 x1.toNatClampNeg (vp_nar .boolean 0)) 31 0 x1.toNatClampNeg 0) 23 0 x4.toNatClampNeg)) 24 0 x4.toNatClampNeg)) 31 0 x1.toNatClampNeg 3)) ∧ (¬ ((ab_su (ab_su (ab_su (ab_su S 30 0 x1.toNatClampNeg (vp_nar .boolean 0)) 31 0 x1.toNatClampNeg 0) 32 0 x1.toNatClampNeg ((ab_su (ab_su S 30 0 x1.toNatClampNeg (vp_nar .boolean 0)) 31 0 x1.toNatClampNeg 0) 23 0 x4.toNatClampNeg)) 33 0 x1.toNatClampNeg ((ab_su (ab_su (ab_su S 30 0 x1.toNatClampNeg (vp_nar .boolean 0)) 31 0 x1.toNatClampNeg 0) 32 0 x1.toNatClampNeg ((ab_su (ab_su S 30 0 x1.toNatClampNeg (vp_nar .boolean 0)) 31 0 x1.toNatClampNeg 0) 23 0 x4.toNatClampNeg)) 24 0 x4.toNatClampNeg)) 33 0 x1.toNatClampNeg) = (-9) → vp_in x1 24 ∧ Q (.inl none) (ab_su (ab_su (ab_su (ab_su (ab_su S 30 0 x1.toNatClampNeg (vp_nar .boolean 0)) 31 0 x1.toNatClampNeg 0) 32 0 x1.toNatClampNeg ((ab_su (ab_su S 30 0 x1.toNatClampNeg (vp_nar .boolean 0)) 31 0 x1.toNatClampNeg 0) 23 0 x4.toNatClampNeg)) 33 0 x1.toNatClampNeg ((ab_su (ab_su (ab_su S 30 0 x1.toNatClampNeg (vp_nar .boolean 0)) 31 0 x1.toNatClampNeg 0) 32 0 x1.toNatClampNeg ((ab_su (ab_su S 30 0 x1.toNatClampNeg (vp_nar .boolean 0)) 31 0 x1.toNatClampNeg 0) 23 0 x4.toNatClampNeg)) 24 0 x4.toNatClampNeg)) 31 0 x1.toNatClampNeg 0)))) ∧ (¬ ((ab_su (ab_su (ab_su (ab_su S 30 0 x1.toNatClampNeg (vp_nar .boolean 0)) 31 0 x1.toNatClampNeg 0) 32 0 x1.toNatClampNeg ((ab_su (ab_su S 30 0 x1.toNatClampNeg (vp_nar .boolean 0)) 31 0 x1.toNatClampNeg 0) 23 0 x4.toNatClampNeg)) 33 0 x1.toNatClampNeg ((ab_su (ab_su (ab_su S 30 0 x1.toNatClampNeg (vp_nar .boolean 0)) 31 0 x1.toNatClampNeg 0) 32 0 x1.toNatClampNeg ((ab_su (ab_su S 30 0 x1.toNatClampNeg (vp_nar .boolean 0)) 31 0 x1.toNatClampNeg 0) 23 0 x4.toNatClampNeg)) 24 0 x4.toNatClampNeg)) 31 0 x1.toNatClampNeg) = 0 → Q (.inl none) (ab_su (ab_su (ab_su (ab_su S 30 0 x1.toNatClampNeg (vp_nar .boolean 0)) 31 0 x1.toNatClampNeg 0) 32 0 x1.toNatClampNeg ((ab_su (ab_su S 30 0 x1.toNatClampNeg (vp_nar .boolean 0)) 31 0 x1.toNatClampNeg 0) 23 0 x4.toNatClampNeg)) 33 0 x1.toNatClampNeg ((ab_su (ab_su (ab_su S 30 0 x1.toNatClampNeg (vp_nar .boolean 0)) 31 0 x1.toNatClampNeg 0) 32 0 x1.toNatClampNeg ((ab_su (ab_su S 30 0 x1.toNatClampNeg (vp_nar .boolean 0)) 31 0 x1.toNatClampNeg 0) 23 0 x4.toNatClampNeg)) 24 0 x4.toNatClampNeg)))) ∧ (¬ 0 = 0 → vp_in x4 336 ∧ vp_in x5 336 ∧ vp_in x6 336 ∧ vp_in x6 336 ∧ Sp_X6_choose [(.inl ((ab_su (ab_su (ab_su S 30 0 x1.toNatClampNeg (vp_nar .boolean 0)) 31 0 x1.toNatClampNeg 0) 32 0 x1.toNatClampNeg ((ab_su (ab_su S 30 0 x1.toNatClampNeg (vp_nar .boolean 0)) 31 0 x1.toNatClampNeg 0) 23 0 x4.toNatClampNeg)) 24 0 x4.toNatClampNeg)), (.inl ((ab_su (ab_su (ab_su S 30 0 x1.toNatClampNeg (vp_nar .boolean 0)) 31 0 x1.toNatClampNeg 0) 32 0 x1.toNatClampNeg ((ab_su (ab_su S 30 0 x1.toNatClampNeg (vp_nar .boolean 0)) 31 0 x1.toNatClampNeg 0) 23 0 x4.toNatClampNeg)) 24 0 x5.toNatClampNeg)), (.inl ((ab_su (ab_su (ab_su S 30 0 x1.toNatClampNeg (vp_nar .boolean 0)) 31 0 x1.toNatClampNeg 0) 32 0 x1.toNatClampNeg ((ab_su (ab_su S 30 0 x1.toNatClampNeg (vp_nar .boolean 0)) 31 0 x1.toNatClampNeg 0) 23 0 x4.toNatClampNeg)) 22 0 x6.toNatClampNeg)), (.inl ((ab_su (ab_su (ab_su S 30 0 x1.toNatClampNeg (vp_nar .boolean 0)) 31 0 x1.toNatClampNeg 0) 32 0 x1.toNatClampNeg ((ab_su (ab_su S 30 0 x1.toNatClampNeg (vp_nar .boolean 0)) 31 0 x1.toNatClampNeg 0) 23 0 x4.toNatClampNeg)) 24 0 x6.toNatClampNeg))] (ab_su (ab_su (ab_su S 30 0 x1.toNatClampNeg (vp_nar .boolean 0)) 31 0 x1.toNatClampNeg 0) 32 0 x1.toNatClampNeg ((ab_su (ab_su S 30 0 x1.toNatClampNeg (vp_nar .boolean 0)) 31 0 x1.toNatClampNeg 0) 23 0 x4.toNatClampNeg)) (ab_back Q G 217 [some (.inr (21, 0)), some (.inl x1), some (.inl x2), some (.inl x3), some (.inl x4), some (.inl x5), some (.inl x6), some (.inl xs0), some (.inl x4), some (.inl 0)] [(.inl x1), (.inr (33, 0))] 0))) ∧ (¬ 0 = 0 → vp_in x4 336 ∧ vp_in x5 336 ∧ vp_in x6 336 ∧ vp_in x6 336 ∧ Sp_X6_choose [(.inl ((ab_su (ab_su S 30 0 x1.toNatClampNeg (vp_nar .boolean 0)) 31 0 x1.toNatClampNeg 0) 23 0 x4.toNatClampNeg)), (.inl ((ab_su (ab_su S 30 0 x1.toNatClampNeg (vp_nar .boolean 0)) 31 0 x1.toNatClampNeg 0) 23 0 x5.toNatClampNeg)), (.inl ((ab_su (ab_su S 30 0 x1.toNatClampNeg (vp_nar .boolean 0)) 31 0 x1.toNatClampNeg 0) 22 0 x6.toNatClampNeg)), (.inl ((ab_su (ab_su S 30 0 x1.toNatClampNeg (vp_nar .boolean 0)) 31 0 x1.toNatClampNeg 0) 23 0 x6.toNatClampNeg))] (ab_su (ab_su S 30 0 x1.toNatClampNeg (vp_nar .boolean 0)) 31 0 x1.toNatClampNeg 0) (ab_back Q G 165 [some (.inr (21, 0)), some (.inl x1), some (.inl x2), some (.inl x3), some (.inl x4), some (.inl x5), some (.inl x6), some (.inl xs0), some (.inl x4), some (.inl 0)] [(.inl x1), (.inr (32, 0))] 0))) ∧ (¬ ((ab_su (ab_su S 30 0 x1.toNatClampNeg (vp_nar .boolean 0)) 31 0 x1.toNatClampNeg 0) 22 0 x5.toNatClampNeg) = 0 → (1 = 0 → vp_in x4 336 ∧ vp_in x1 24 ∧ (1 = 0 → vp_in x4 336 ∧ vp_in x1 24 ∧ vp_in x1 24 ∧ (((ab_su (ab_su (ab_su (ab_su S 30 0 x1.toNatClampNeg (vp_nar .boolean 0)) 31 0 x1.toNatClampNeg 0) 32 0 x1.toNatClampNeg ((ab_su (ab_su S 30 0 x1.toNatClampNeg (vp_nar .boolean 0)) 31 0 x1.toNatClampNeg 0) 23 0 x4.toNatClampNeg)) 33 0 x1.toNatClampNeg ((ab_su (ab_su (ab_su S 30 0 x1.toNatClampNeg (vp_nar .boolean 0)) 31 0 x1.toNatClampNeg 0) 32 0 x1.toNatClampNeg ((ab_su (ab_su S 30 0 x1.toNatClampNeg (vp_nar .boolean 0)) 31 0 x1.toNatClampNeg 0) 23 0 x4.toNatClampNeg)) 24 0 x4.toNatClampNeg)) 31 0 x1.toNatClampNeg) = 0 → vp_in x1 24 ∧ (((ab_su (ab_su (ab_su (ab_su S 30 0 x1.toNatClampNeg (vp_nar .boolean 0)) 31 0 x1.toNatClampNeg 0) 32 0 x1.toNatClampNeg ((ab_su (ab_su S 30 0 x1.toNatClampNeg (vp_nar .boolean 0)) 31 0 x1.toNatClampNeg 0) 23 0 x4.toNatClampNeg)) 33 0 x1.toNatClampNeg ((ab_su (ab_su (ab_su S 30 0 x1.toNatClampNeg (vp_nar .boolean 0)) 31 0 x1.toNatClampNeg 0) 32 0 x1.toNatClampNeg ((ab_su (ab_su S 30 0 x1.toNatClampNeg (vp_nar .boolean 0)) 31 0 x1.toNatClampNeg 0) 23 0 x4.toNatClampNeg)) 24 0 x4.toNatClampNeg)) 32 0 x1.toNatClampNeg) = (-9) → vp_in x1 24 ∧ Q (.inl none) (ab_su (ab_su (ab_su (ab_su (ab_su S 30 0 x1.toNatClampNeg (vp_nar .boolean 0)) 31 0 x1.toNatClampNeg 0) 32 0 x1.toNatClampNeg ((ab_su (ab_su S 30 0 x1.toNatClampNeg (vp_nar .boolean 0)) 31 0 x1.toNatClampNeg 0) 23 0 x4.toNatClampNeg)) 33 0 x1.toNatClampNeg ((ab_su (ab_su (ab_su S 30 0 x1.toNatClampNeg (vp_nar .boolean 0)) 31 0 x1.toNatClampNeg 0) 32 0 x1.toNatClampNeg ((ab_su (ab_su S 30 0 x1.toNatClampNeg (vp_nar .boolean 0)) 31 0 x1.toNatClampNeg 0) 23 0 x4.toNatClampNeg)) 24 0 x4.toNatClampNeg)) 31 0 x1.toNatClampNeg 2)) ∧ (¬ ((ab_su (ab_su (ab_su (ab_su S 30 0 x1.toNatClampNeg (vp_nar .boolean 0)) 31 0 x1.toNatClampNeg 0) 32 0 x1.toNatClampNeg ((ab_su (ab_su S 30 0 x1.toNatClampNeg (vp_nar .boolean 0)) 31 0 x1.toNatClampNeg 0) 23 0 x4.toNatClampNeg)) 33 0 x1.toNatClampNeg ((ab_su (ab_su (ab_su S 30 0 x1.toNatClampNeg (vp_nar .boolean 0)) 31 0 x1.toNatClampNeg 0) 32 0 x1.toNatClampNeg ((ab_su (ab_su S 30 0 x1.toNatClampNeg (vp_nar .boolean 0)) 31 0 x1.toNatClampNeg 0) 23 0 x4.toNatClampNeg)) 24 0 x4.toNatClampNeg)) 32 0 x1.toNatClampNeg) = (-9) → vp_in x1 24 ∧ (((ab_su (ab_su (ab_su (ab_su S 30 0 x1.toNatClampNeg (vp_nar .boolean 0)) 31 0 x1.toNatClampNeg 0) 32 0 x1.toNatClampNeg ((ab_su (ab_su S 30 0 x1.toNatClampNeg (vp_nar .boolean 0)) 31 0 x1.toNatClampNeg 0) 23 0 x4.toNatClampNeg)) 33 0 x1.toNatClampNeg ((ab_su (ab_su (ab_su S 30 0 x1.toNatClampNeg (vp_nar .boolean 0)) 31 0 x1.toNatClampNeg 0) 32 0 x1.toNatClampNeg ((ab_su (ab_su S 30 0 x1.toNatClampNeg (vp_nar .boolean 0)) 31 0 x1.toNatClampNeg 0) 23 0 x4.toNatClampNeg)) 24 0 x4.toNatClampNeg)) 33 0 x1.toNatClampNeg) = (-9) → vp_in x1 24 ∧ Q (.inl none) (ab_su (ab_su (ab_su (ab_su (ab_su S 30 0 x1.toNatClampNeg (vp_nar .boolean 0)) 31 0 x1.toNatClampNeg 0) 32 0 x1.toNatClampNeg ((ab_su (ab_su S 30 0 x1.toNatClampNeg (vp_nar .boolean 0)) 31 0 x1.toNatClampNeg 0) 23 0 x4.toNatClampNeg)) 33 0 x1.toNatClampNeg ((ab_su (ab_su (ab_su S 30 0 x1.toNatClampNeg (vp_nar .boolean 0)) 31 0 x1.toNatClampNeg 0) 32 0 x1.toNatClampNeg ((ab_su (ab_su S 30 0 x1.toNatClampNeg (vp_nar .boolean 0)) 31 0 x1.toNatClampNeg 0) 23 0 x4.toNatClampNeg)) 24 0 x4.toNatClampNeg)) 31 0 x1.toNatClampNeg 3)) ∧ (¬ ((ab_su (ab_su (ab_su (ab_su S 30 0 x1.toNatClampNeg (vp_nar .boolean 0)) 31 0 x1.toNatClampNeg 0) 32 0 x1.toNatClampNeg ((ab_su (ab_su S 30 0 x1.toNatClampNeg (vp_nar .boolean 0)) 31 0 x1.toNatClampNeg 0) 23 0 x4.toNatClampNeg)) 33 0 x1.toNatClampNeg ((ab_su (ab_su (ab_su S 30 0 x1.toNatClampNeg (vp_nar .boolean 0)) 31 0 x1.toNatClampNeg 0) 32 0 x1.toNatClampNeg ((ab_su (ab_su S 30 0 x1.toNatClampNeg (vp_nar .boolean 0)) 31 0 x1.toNatClampNeg 0) 23 0 x4.toNatClampNeg)) 24 0 x4.toNatClampNeg)) 33 0 x1.toNatClampNeg) = (-9) → vp_in x1 24 ∧ Q (.inl none) (ab_su (ab_su (ab_su (ab_su (ab_su S 30 0 x1.toNatClampNeg (vp_nar .boolean 0)) 31 0 x1.toNatClampNeg 0) 32 0 x1.toNatClampNeg ((ab_su (ab_su S 30 0 x1.toNatClampNeg (vp_nar .boolean 0)) 31 0 x1.toNatClampNeg 0) 23 0 x4.toNatClampNeg)) 33 0 x1.toNatClampNeg ((ab_su (ab_su (ab_su S 30 0 x1.toNatClampNeg (vp_nar .boolean 0)) 31 0 x1.toNatClampNeg 0) 32 0 x1.toNatClampNeg ((ab_su (ab_su S 30 0 x1.toNatClampNeg (vp_nar .boolean 0)) 31 0 x1.toNatClampNeg 0) 23 0 x4.toNatClampNeg)) 24 0 x4.toNatClampNeg)) 31 0 x1.toNatClampNeg 0)))) ∧ (¬ ((ab_su (ab_su (ab_su (ab_su S 30 0 x1.toNatClampNeg (vp_nar .boolean 0)) 31 0 x1.toNatClampNeg 0) 32 0 x1.toNatClampNeg ((ab_su (ab_su S 30 0 x1.toNatClampNeg (vp_nar .boolean 0)) 31 0 x1.toNatClampNeg 0) 23 0 x4.toNatClampNeg)) 33 0 x1.toNatClampNeg ((ab_su (ab_su (ab_su S 30 0 x1.toNatClampNeg (vp_nar .boolean 0)) 31 0 x1.toNatClampNeg 0) 32 0 x1.toNatClampNeg ((ab_su (ab_su S 30 0 x1.toNatClampNeg (vp_nar .boolean 0)) 31 0 x1.toNatClampNeg 0) 23 0 x4.toNatClampNeg)) 24 0 x4.toNatClampNeg)) 31 0 x1.toNatClampNeg) = 0 → Q (.inl none) (ab_su (ab_su (ab_su (ab_su S 30 0 x1.toNatClampNeg (vp_nar .boolean 0)) 31 0 x1.toNatClampNeg 0) 32 0 x1.toNatClampNeg ((ab_su (ab_su S 30 0 x1.toNatClampNeg (vp_nar .boolean 0)) 31 0 x1.toNatClampNeg 0) 23 0 x4.toNatClampNeg)) 33 0 x1.toNatClampNeg ((ab_su (ab_su (ab_su S 30 0 x1.toNatClampNeg (vp_nar .boolean 0)) 31 0 x1.toNatClampNeg 0) 32 0 x1.toNatClampNeg ((ab_su (ab_su S 30 0 x1.toNatClampNeg (vp_nar .boolean 0)) 31 0 x1.toNatClampNeg 0) 23 0 x4.toNatClampNeg)) 24 0 x4.toNatClampNeg)))) ∧ (¬ 1 = 0 → vp_in x4 336 ∧ vp_in x5 336 ∧ vp_in x6 336 ∧ vp_in x6 336 ∧ Sp_X6_choose [(.inl ((ab_su (ab_su (ab_su S 30 0 x1.toNatClampNeg (vp_nar .boolean 0)) 31 0 x1.toNatClampNeg 0) 32 0 x1.toNatClampNeg ((ab_su (ab_su S 30 0 x1.toNatClampNeg (vp_nar .boolean 0)) 31 0 x1.toNatClampNeg 0) 23 0 x4.toNatClampNeg)) 24 0 x4.toNatClampNeg)), (.inl ((ab_su (ab_su (ab_su S 30 0 x1.toNatClampNeg (vp_nar .boolean 0)) 31 0 x1.toNatClampNeg 0) 32 0 x1.toNatClampNeg ((ab_su (ab_su S 30 0 x1.toNatClampNeg (vp_nar .boolean 0)) 31 0 x1.toNatClampNeg 0) 23 0 x4.toNatClampNeg)) 24 0 x5.toNatClampNeg)), (.inl ((ab_su (ab_su (ab_su S 30 0 x1.toNatClampNeg (vp_nar .boolean 0)) 31 0 x1.toNatClampNeg 0) 32 0 x1.toNatClampNeg ((ab_su (ab_su S 30 0 x1.toNatClampNeg (vp_nar .boolean 0)) 31 0 x1.toNatClampNeg 0) 23 0 x4.toNatClampNeg)) 22 0 x6.toNatClampNeg)), (.inl ((ab_su (ab_su (ab_su S 30 0 x1.toNatClampNeg (vp_nar .boolean 0)) 31 0 x1.toNatClampNeg 0) 32 0 x1.toNatClampNeg ((ab_su (ab_su S 30 0 x1.toNatClampNeg (vp_nar .boolean 0)) 31 0 x1.toNatClampNeg 0) 23 0 x4.toNatClampNeg)) 24 0 x6.toNatClampNeg))] (ab_su (ab_su (ab_su S 30 0 x1.toNatClampNeg (vp_nar .boolean 0)) 31 0 x1.toNatClampNeg 0) 32 0 x1.toNatClampNeg ((ab_su (ab_su S 30 0 x1.toNatClampNeg (vp_nar .boolean 0)) 31 0 x1.toNatClampNeg 0) 23 0 x4.toNatClampNeg)) (ab_back Q G 217 [some (.inr (21, 0)), some (.inl x1), some (.inl x2), some (.inl x3), some (.inl x4), some (.inl x5), some (.inl x6), some (.inl xs0), some (.inl x4), some (.inl 1)] [(.inl x1), (.inr (33, 0))] 0))) ∧ (¬ 1 = 0 → vp_in x4 336 ∧ vp_in x5 336 ∧ vp_in x6 336 ∧ vp_in x6 336 ∧ Sp_X6_choose [(.inl ((ab_su (ab_su S 30 0 x1.toNatClampNeg (vp_nar .boolean 0)) 31 0 x1.toNatClampNeg 0) 23 0 x4.toNatClampNeg)), (.inl ((ab_su (ab_su S 30 0 x1.toNatClampNeg (vp_nar .boolean 0)) 31 0 x1.toNatClampNeg 0) 23 0 x5.toNatClampNeg)), (.inl ((ab_su (ab_su S 30 0 x1.toNatClampNeg (vp_nar .boolean 0)) 31 0 x1.toNatClampNeg 0) 22 0 x6.toNatClampNeg)), (.inl ((ab_su (ab_su S 30 0 x1.toNatClampNeg (vp_nar .boolean 0)) 31 0 x1.toNatClampNeg 0) 23 0 x6.toNatClampNeg))] (ab_su (ab_su S 30 0 x1.toNatClampNeg (vp_nar .boolean 0)) 31 0 x1.toNatClampNeg 0) (ab_back Q G 165 [some (.inr (21, 0)), some (.inl x1), some (.inl x2), some (.inl x3), some (.inl x4), some (.inl x5), some (.inl x6), some (.inl xs0), some (.inl x4), some (.inl 1)] [(.inl x1), (.inr (32, 0))] 0)))))))) ∧ (¬ xs0 ≤ 0 → vp_in x1 24 ∧ (xs0 = 2 → vp_in x1 24 ∧ (xs0 = 0 → Q (.inl none) (ab_su (ab_su S 30 0 x1.toNatClampNeg (vp_nar .boolean 1)) 31 0 x1.toNatClampNeg 1)) ∧ (¬ xs0 = 0 → vp_in x4 336 ∧ (((ab_su (ab_su S 30 0 x1.toNatClampNeg (vp_nar .boolean 1)) 31 0 x1.toNatClampNeg 1) 22 0 x4.toNatClampNeg) = 0 → vp_in x4 336 ∧ (((ab_su (ab_su S 30 0 x1.toNatClampNeg (vp_nar .boolean 1)) 31 0 x1.toNatClampNeg 1) 22 0 x4.toNatClampNeg) = 0 → (0 = 0 → vp_in x5 336 ∧ vp_in x1 24 ∧ (0 = 0 → vp_in x5 336 ∧ vp_in x1 24 ∧ vp_in x1 24 ∧ (((ab_su (ab_su (ab_su (ab_su S 30 0 x1.toNatClampNeg (vp_nar .boolean 1)) 31 0 x1.toNatClampNeg 1) 32 0 x1.toNatClampNeg ((ab_su (ab_su S 30 0 x1.toNatClampNeg (vp_nar .boolean 1)) 31 0 x1.toNatClampNeg 1) 23 0 x5.toNatClampNeg)) 33 0 x1.toNatClampNeg ((ab_su (ab_su (ab_su S 30 0 x1.toNatClampNeg (vp_nar .boolean 1)) 31 0 x1.toNatClampNeg 1) 32 0 x1.toNatClampNeg ((ab_su (ab_su S 30 0 x1.toNatClampNeg (vp_nar .boolean 1)) 31 0 x1.toNatClampNeg 1) 23 0 x5.toNatClampNeg)) 24 0 x5.toNatClampNeg)) 31 0 x1.toNatClampNeg) = 0 → vp_in x1 24 ∧ (((ab_su (ab_su (ab_su (ab_su S 30 0 x1.toNatClampNeg (vp_nar .boolean 1)) 31 0 x1.toNatClampNeg 1) 32 0 x1.toNatClampNeg ((ab_su (ab_su S 30 0 x1.toNatClampNeg (vp_nar .boolean 1)) 31 0 x1.toNatClampNeg 1) 23 0 x5.toNatClampNeg)) 33 0 x1.toNatClampNeg ((ab_su (ab_su (ab_su S 30 0 x1.toNatClampNeg (vp_nar .boolean 1)) 31 0 x1.toNatClampNeg 1) 32 0 x1.toNatClampNeg ((ab_su (ab_su S 30 0 x1.toNatClampNeg (vp_nar .boolean 1)) 31 0 x1.toNatClampNeg 1) 23 0 x5.toNatClampNeg)) 24 0 x5.toNatClampNeg)) 32 0 x1.toNatClampNeg) = (-9) → vp_in x1 24 ∧ Q (.inl none) (ab_su (ab_su (ab_su (ab_su (ab_su S 30 0 x1.toNatClampNeg (vp_nar .boolean 1)) 31 0 x1.toNatClampNeg 1) 32 0 x1.toNatClampNeg ((ab_su (ab_su S 30 0 x1.toNatClampNeg (vp_nar .boolean 1)) 31 0 x1.toNatClampNeg 1) 23 0 x5.toNatClampNeg)) 33 0 x1.toNatClampNeg ((ab_su (ab_su (ab_su S 30 0 x1.toNatClampNeg (vp_nar .boolean 1)) 31 0 x1.toNatClampNeg 1) 32 0 x1.toNatClampNeg ((ab_su (ab_su S 30 0 x1.toNatClampNeg (vp_nar .boolean 1)) 31 0 x1.toNatClampNeg 1) 23 0 x5.toNatClampNeg)) 24 0 x5.toNatClampNeg)) 31 0 x1.toNatClampNeg 2)) ∧ (¬ ((ab_su (ab_su (ab_su (ab_su S 30 0 x1.toNatClampNeg (vp_nar .boolean 1)) 31 0 x1.toNatClampNeg 1) 32 0 x1.toNatClampNeg ((ab_su (ab_su S 30 0 x1.toNatClampNeg (vp_nar .boolean 1)) 31 0 x1.toNatClampNeg 1) 23 0 x5.toNatClampNeg)) 33 0 x1.toNatClampNeg ((ab_su (ab_su (ab_su S 30 0 x1.toNatClampNeg (vp_nar .boolean 1)) 31 0 x1.toNatClampNeg 1) 32 0 x1.toNatClampNeg ((ab_su (ab_su S 30 0 x1.toNatClampNeg (vp_nar .boolean 1)) 31 0 x1.toNatClampNeg 1) 23 0 x5.toNatClampNeg)) 24 0 x5.toNatClampNeg)) 32 0 x1.toNatClampNeg) = (-9) → vp_in x1 24 ∧ (((ab_su (ab_su (ab_su (ab_su S 30 0 x1.toNatClampNeg (vp_nar .boolean 1)) 31 0 x1.toNatClampNeg 1) 32 0 x1.toNatClampNeg ((ab_su (ab_su S 30 0 x1.toNatClampNeg (vp_nar .boolean 1)) 31 0 x1.toNatClampNeg 1) 23 0 x5.toNatClampNeg)) 33 0 x1.toNatClampNeg ((ab_su (ab_su (ab_su S 30 0 x1.toNatClampNeg (vp_nar .boolean 1)) 31 0 x1.toNatClampNeg 1) 32 0 x1.toNatClampNeg ((ab_su (ab_su S 30 0 x1.toNatClampNeg (vp_nar .boolean 1)) 31 0 x1.toNatClampNeg 1) 23 0 x5.toNatClampNeg)) 24 0 x5.toNatClampNeg)) 33 0 x1.toNatClampNeg) = (-9) → vp_in x1 24 ∧ Q (.inl none) (ab_su (ab_su (ab_su (ab_su (ab_su S 30 0 x1.toNatClampNeg (vp_nar .boolean 1)) 31 0 x1.toNatClampNeg 1) 32 0 x1.toNatClampNeg ((ab_su (ab_su S 30 0 x1.toNatClampNeg (vp_nar .boolean 1)) 31 0 x1.toNatClampNeg 1) 23 0 x5.toNatClampNeg)) 33 0 x1.toNatClampNeg ((ab_su (ab_su (ab_su S 30 0 x1.toNatClampNeg (vp_nar .boolean 1)) 31 0 x1.toNatClampNeg 1) 32 0 x1.toNatClampNeg ((ab_su (ab_su S 30 0 x1.toNatClampNeg (vp_nar .boolean 1)) 31 0 x1.toNatClampNeg 1) 23 0 x5.toNatClampNeg)) 24 0 x5.toNatClampNeg)) 31 0 x1.toNatClampNeg 3)) ∧ (¬ ((ab_su (ab_su (ab_su (ab_su S 30 0 x1.toNatClampNeg (vp_nar .boolean 1)) 31 0 x1.toNatClampNeg 1) 32 0 x1.toNatClampNeg ((ab_su (ab_su S 30 0 x1.toNatClampNeg (vp_nar .boolean 1)) 31 0 x1.toNatClampNeg 1) 23 0 x5.toNatClampNeg)) 33 0 x1.toNatClampNeg ((ab_su (ab_su (ab_su S 30 0 x1.toNatClampNeg (vp_nar .boolean 1)) 31 0 x1.toNatClampNeg 1) 32 0 x1.toNatClampNeg ((ab_su (ab_su S 30 0 x1.toNatClampNeg (vp_nar .boolean 1)) 31 0 x1.toNatClampNeg 1) 23 0 x5.toNatClampNeg)) 24 0 x5.toNatClampNeg)) 33 0 x1.toNatClampNeg) = (-9) → vp_in x1 24 ∧ Q (.inl none) (ab_su (ab_su (ab_su (ab_su (ab_su S 30 0 x1.toNatClampNeg (vp_nar .boolean 1)) 31 0 x1.toNatClampNeg 1) 32 0 x1.toNatClampNeg ((ab_su (ab_su S 30 0 x1.toNatClampNeg (vp_nar .boolean 1)) 31 0 x1.toNatClampNeg 1) 23 0 x5.toNatClampNeg)) 33 0 x1.toNatClampNeg ((ab_su (ab_su (ab_su S 30 0 x1.toNatClampNeg (vp_nar .boolean 1)) 31 0 x1.toNatClampNeg 1) 32 0 x1.toNatClampNeg ((ab_su (ab_su S 30 0 x1.toNatClampNeg (vp_nar .boolean 1)) 31 0 x1.toNatClampNeg 1) 23 0 x5.toNatClampNeg)) 24 0 x5.toNatClampNeg)) 31 0 x1.toNatClampNeg 0)))) ∧ (¬ ((ab_su (ab_su (ab_su (ab_su S 30 0 x1.toNatClampNeg (vp_nar .boolean 1)) 31 0 x1.toNatClampNeg 1) 32 0 x1.toNatClampNeg ((ab_su (ab_su S 30 0 x1.toNatClampNeg (vp_nar .boolean 1)) 31 0 x1.toNatClampNeg 1) 23 0 x5.toNatClampNeg)) 33 0 x1.toNatClampNeg ((ab_su (ab_su (ab_su S 30 0 x1.toNatClampNeg (vp_nar .boolean 1)) 31 0 x1.toNatClampNeg 1) 32 0 x1.toNatClampNeg ((ab_su (ab_su S 30 0 x1.toNatClampNeg (vp_nar .boolean 1)) 31 0 x1.toNatClampNeg 1) 23 0 x5.toNatClampNeg)) 24 0 x5.toNatClampNeg)) 31 0 x1.toNatClampNeg) = 0 → Q (.inl none) (ab_su (ab_su (ab_su (ab_su S 30 0 x1.toNatClampNeg (vp_nar .boolean 1)) 31 0 x1.toNatClampNeg 1) 32 0 x1.toNatClampNeg ((ab_su (ab_su S 30 0 x1.toNatClampNeg (vp_nar .boolean 1)) 31 0 x1.toNatClampNeg 1) 23 0 x5.toNatClampNeg)) 33 0 x1.toNatClampNeg ((ab_su (ab_su (ab_su S 30 0 x1.toNatClampNeg (vp_nar .boolean 1)) 31 0 x1.toNatClampNeg 1) 32 0 x1.toNatClampNeg ((ab_su (ab_su S 30 0 x1.toNatClampNeg (vp_nar .boolean 1)) 31 0 x1.toNatClampNeg 1) 23 0 x5.toNatClampNeg)) 24 0 x5.toNatClampNeg)))) ∧ (¬ 0 = 0 → vp_in x4 336 ∧ vp_in x5 336 ∧ vp_in x6 336 ∧ vp_in x6 336 ∧ Sp_X6_choose [(.inl ((ab_su (ab_su (ab_su S 30 0 x1.toNatClampNeg (vp_nar .boolean 1)) 31 0 x1.toNatClampNeg 1) 32 0 x1.toNatClampNeg ((ab_su (ab_su S 30 0 x1.toNatClampNeg (vp_nar .boolean 1)) 31 0 x1.toNatClampNeg 1) 23 0 x5.toNatClampNeg)) 24 0 x4.toNatClampNeg)), (.inl ((ab_su (ab_su (ab_su S 30 0 x1.toNatClampNeg (vp_nar .boolean 1)) 31 0 x1.toNatClampNeg 1) 32 0 x1.toNatClampNeg ((ab_su (ab_su S 30 0 x1.toNatClampNeg (vp_nar .boolean 1)) 31 0 x1.toNatClampNeg 1) 23 0 x5.toNatClampNeg)) 24 0 x5.toNatClampNeg)), (.inl ((ab_su (ab_su (ab_su S 30 0 x1.toNatClampNeg (vp_nar .boolean 1)) 31 0 x1.toNatClampNeg 1) 32 0 x1.toNatClampNeg ((ab_su (ab_su S 30 0 x1.toNatClampNeg (vp_nar .boolean 1)) 31 0 x1.toNatClampNeg 1) 23 0 x5.toNatClampNeg)) 22 0 x6.toNatClampNeg)), (.inl ((ab_su (ab_su (ab_su S 30 0 x1.toNatClampNeg (vp_nar .boolean 1)) 31 0 x1.toNatClampNeg 1) 32 0 x1.toNatClampNeg ((ab_su (ab_su S 30 0 x1.toNatClampNeg (vp_nar .boolean 1)) 31 0 x1.toNatClampNeg 1) 23 0 x5.toNatClampNeg)) 24 0 x6.toNatClampNeg))] (ab_su (ab_su (ab_su S 30 0 x1.toNatClampNeg (vp_nar .boolean 1)) 31 0 x1.toNatClampNeg 1) 32 0 x1.toNatClampNeg ((ab_su (ab_su S 30 0 x1.toNatClampNeg (vp_nar .boolean 1)) 31 0 x1.toNatClampNeg 1) 23 0 x5.toNatClampNeg)) (ab_back Q G 217 [some (.inr (21, 0)), some (.inl x1), some (.inl x2), some (.inl x3), some (.inl x4), some (.inl x5), some (.inl x6), some (.inl xs0), some (.inl x5), some (.inl 0)] [(.inl x1), (.inr (33, 0))] 0))) ∧ (¬ 0 = 0 → vp_in x4 336 ∧ vp_in x5 336 ∧ vp_in x6 336 ∧ vp_in x6 336 ∧ Sp_X6_choose [(.inl ((ab_su (ab_su S 30 0 x1.toNatClampNeg (vp_nar .boolean 1)) 31 0 x1.toNatClampNeg 1) 23 0 x4.toNatClampNeg)), (.inl ((ab_su (ab_su S 30 0 x1.toNatClampNeg (vp_nar .boolean 1)) 31 0 x1.toNatClampNeg 1) 23 0 x5.toNatClampNeg)), (.inl ((ab_su (ab_su S 30 0 x1.toNatClampNeg (vp_nar .boolean 1)) 31 0 x1.toNatClampNeg 1) 22 0 x6.toNatClampNeg)), (.inl ((ab_su (ab_su S 30 0 x1.toNatClampNeg (vp_nar .boolean 1)) 31 0 x1.toNatClampNeg 1) 23 0 x6.toNatClampNeg))] (ab_su (ab_su S 30 0 x1.toNatClampNeg (vp_nar .boolean 1)) 31 0 x1.toNatClampNeg 1) (ab_back Q G 165 [some (.inr (21, 0)), some (.inl x1), some (.inl x2), some (.inl x3), some (.inl x4), some (.inl x5), some (.inl x6), some (.inl xs0), some (.inl x5), some (.inl 0)] [(.inl x1), (.inr (32, 0))] 0))) ∧ (¬ ((ab_su (ab_su S 30 0 x1.toNatClampNeg (vp_nar .boolean 1)) 31 0 x1.toNatClampNeg 1) 22 0 x4.toNatClampNeg) = 0 → vp_in x5 336 ∧ (((ab_su (ab_su S 30 0 x1.toNatClampNeg (vp_nar .boolean 1)) 31 0 x1.toNatClampNeg 1) 22 0 x5.toNatClampNeg) = 0 → (0 = 0 → vp_in x5 336 ∧ vp_in x1 24 ∧ (0 = 0 → vp_in x5 336 ∧ vp_in x1 24 ∧ vp_in x1 24 ∧ (((ab_su (ab_su (ab_su (ab_su S 30 0 x1.toNatClampNeg (vp_nar .boolean 1)) 31 0 x1.toNatClampNeg 1) 32 0 x1.toNatClampNeg ((ab_su (ab_su S 30 0 x1.toNatClampNeg (vp_nar .boolean 1)) 31 0 x1.toNatClampNeg 1) 23 0 x5.toNatClampNeg)) 33 0 x1.toNatClampNeg ((ab_su (ab_su (ab_su S 30 0 x1.toNatClampNeg (vp_nar .boolean 1)) 31 0 x1.toNatClampNeg 1) 32 0 x1.toNatClampNeg ((ab_su (ab_su S 30 0 x1.toNatClampNeg (vp_nar .boolean 1)) 31 0 x1.toNatClampNeg 1) 23 0 x5.toNatClampNeg)) 24 0 x5.toNatClampNeg)) 31 0 x1.toNatClampNeg) = 0 → vp_in x1 24 ∧ (((ab_su (ab_su (ab_su (ab_su S 30 0 x1.toNatClampNeg (vp_nar .boolean 1)) 31 0 x1.toNatClampNeg 1) 32 0 x1.toNatClampNeg ((ab_su (ab_su S 30 0 x1.toNatClampNeg (vp_nar .boolean 1)) 31 0 x1.toNatClampNeg 1) 23 0 x5.toNatClampNeg)) 33 0 x1.toNatClampNeg ((ab_su (ab_su (ab_su S 30 0 x1.toNatClampNeg (vp_nar .boolean 1)) 31 0 x1.toNatClampNeg 1) 32 0 x1.toNatClampNeg ((ab_su (ab_su S 30 0 x1.toNatClampNeg (vp_nar .boolean 1)) 31 0 x1.toNatClampNeg 1) 23 0 x5.toNatClampNeg)) 24 0 x5.toNatClampNeg)) 32 0 x1.toNatClampNeg) = (-9) → vp_in x1 24 ∧ Q (.inl none) (ab_su (ab_su (ab_su (ab_su (ab_su S 30 0 x1.toNatClampNeg (vp_nar .boolean 1)) 31 0 x1.toNatClampNeg 1) 32 0 x1.toNatClampNeg ((ab_su (ab_su S 30 0 x1.toNatClampNeg (vp_nar .boolean 1)) 31 0 x1.toNatClampNeg 1) 23 0 x5.toNatClampNeg)) 33 0 x1.toNatClampNeg ((ab_su (ab_su (ab_su S 30 0 x1.toNatClampNeg (vp_nar .boolean 1)) 31 0 x1.toNatClampNeg 1) 32 0 x1.toNatClampNeg ((ab_su (ab_su S 30 0 x1.toNatClampNeg (vp_nar .boolean 1)) 31 0 x1.toNatClampNeg 1) 23 0 x5.toNatClampNeg)) 24 0 x5.toNatClampNeg)) 31 0 x1.toNatClampNeg 2)) ∧ (¬ ((ab_su (ab_su (ab_su (ab_su S 30 0 x1.toNatClampNeg (vp_nar .boolean 1)) 31 0 x1.toNatClampNeg 1) 32 0 x1.toNatClampNeg ((ab_su (ab_su S 30 0 x1.toNatClampNeg (vp_nar .boolean 1)) 31 0 x1.toNatClampNeg 1) 23 0 x5.toNatClampNeg)) 33 0 x1.toNatClampNeg ((ab_su (ab_su (ab_su S 30 0 x1.toNatClampNeg (vp_nar .boolean 1)) 31 0 x1.toNatClampNeg 1) 32 0 x1.toNatClampNeg ((ab_su (ab_su S 30 0 x1.toNatClampNeg (vp_nar .boolean 1)) 31 0 x1.toNatClampNeg 1) 23 0 x5.toNatClampNeg)) 24 0 x5.toNatClampNeg)) 32 0 x1.toNatClampNeg) = (-9) → vp_in x1 24 ∧ (((ab_su (ab_su (ab_su (ab_su S 30 0 x1.toNatClampNeg (vp_nar .boolean 1)) 31 0 x1.toNatClampNeg 1) 32 0 x1.toNatClampNeg ((ab_su (ab_su S 30 0 x1.toNatClampNeg (vp_nar .boolean 1)) 31 0 x1.toNatClampNeg 1) 23 0 x5.toNatClampNeg)) 33 0 x1.toNatClampNeg ((ab_su (ab_su (ab_su S 30 0 x1.toNatClampNeg (vp_nar .boolean 1)) 31 0 x1.toNatClampNeg 1) 32 0 x1.toNatClampNeg ((ab_su (ab_su S 30 0 x1.toNatClampNeg (vp_nar .boolean 1)) 31 0 x1.toNatClampNeg 1) 23 0 x5.toNatClampNeg)) 24 0 x5.toNatClampNeg)) 33 0 x1.toNatClampNeg) = (-9) → vp_in x1 24 ∧ Q (.inl none) (ab_su (ab_su (ab_su (ab_su (ab_su S 30 0 x1.toNatClampNeg (vp_nar .boolean 1)) 31 0 x1.toNatClampNeg 1) 32 0 x1.toNatClampNeg ((ab_su (ab_su S 30 0 x1.toNatClampNeg (vp_nar .boolean 1)) 31 0 x1.toNatClampNeg 1) 23 0 x5.toNatClampNeg)) 33 0 x1.toNatClampNeg ((ab_su (ab_su (ab_su S 30 0 x1.toNatClampNeg (vp_nar .boolean 1)) 31 0 x1.toNatClampNeg 1) 32 0 x1.toNatClampNeg ((ab_su (ab_su S 30 0 x1.toNatClampNeg (vp_nar .boolean 1)) 31 0 x1.toNatClampNeg 1) 23 0 x5.toNatClampNeg)) 24 0 x5.toNatClampNeg)) 31 0 x1.toNatClampNeg 3)) ∧ (¬ ((ab_su (ab_su (ab_su (ab_su S 30 0 x1.toNatClampNeg (vp_nar .boolean 1)) 31 0 x1.toNatClampNeg 1) 32 0 x1.toNatClampNeg ((ab_su (ab_su S 30 0 x1.toNatClampNeg (vp_nar .boolean 1)) 31 0 x1.toNatClampNeg 1) 23 0 x5.toNatClampNeg)) 33 0 x1.toNatClampNeg ((ab_su (ab_su (ab_su S 30 0 x1.toNatClampNeg (vp_nar .boolean 1)) 31 0 x1.toNatClampNeg 1) 32 0 x1.toNatClampNeg ((ab_su (ab_su S 30 0 x1.toNatClampNeg (vp_nar .boolean 1)) 31 0 x1.toNatClampNeg 1) 23 0 x5.toNatClampNeg)) 24 0 x5.toNatClampNeg)) 33 0 x1.toNatClampNeg) = (-9) → vp_in x1 24 ∧ Q (.inl none) (ab_su (ab_su (ab_su (ab_su (ab_su S 30 0 x1.toNatClampNeg (vp_nar .boolean 1)) 31 0 x1.toNatClampNeg 1) 32 0 x1.toNatClampNeg ((ab_su (ab_su S 30 0 x1.toNatClampNeg (vp_nar .boolean 1)) 31 0 x1.toNatClampNeg 1) 23 0 x5.toNatClampNeg)) 33 0 x1.toNatClampNeg ((ab_su (ab_su (ab_su S 30 0 x1.toNatClampNeg (vp_nar .boolean 1)) 31 0 x1.toNatClampNeg 1) 32 0 x1.toNatClampNeg ((ab_su (ab_su S 30 0 x1.toNatClampNeg (vp_nar .boolean 1)) 31 0 x1.toNatClampNeg 1) 23 0 x5.toNatClampNeg)) 24 0 x5.toNatClampNeg)) 31 0 x1.toNatClampNeg 0)))) ∧ (¬ ((ab_su (ab_su (ab_su (ab_su S 30 0 x1.toNatClampNeg (vp_nar .boolean 1)) 31 0 x1.toNatClampNeg 1) 32 0 x1.toNatClampNeg ((ab_su (ab_su S 30 0 x1.toNatClampNeg (vp_nar .boolean 1)) 31 0 x1.toNatClampNeg 1) 23 0 x5.toNatClampNeg)) 33 0 x1.toNatClampNeg ((ab_su (ab_su (ab_su S 30 0 x1.toNatClampNeg (vp_nar .boolean 1)) 31 0 x1.toNatClampNeg 1) 32 0 x1.toNatClampNeg ((ab_su (ab_su S 30 0 x1.toNatClampNeg (vp_nar .boolean 1)) 31 0 x1.toNatClampNeg 1) 23 0 x5.toNatClampNeg)) 24 0 x5.toNatClampNeg)) 31 0 x1.toNatClampNeg) = 0 → Q (.inl none) (ab_su (ab_su (ab_su (ab_su S 30 0 x1.toNatClampNeg (vp_nar .boolean 1)) 31 0 x1.toNatClampNeg 1) 32 0 x1.toNatClampNeg ((ab_su (ab_su S 30 0 x1.toNatClampNeg (vp_nar .boolean 1)) 31 0 x1.toNatClampNeg 1) 23 0 x5.toNatClampNeg)) 33 0 x1.toNatClampNeg ((ab_su (ab_su (ab_su S 30 0 x1.toNatClampNeg (vp_nar .boolean 1)) 31 0 x1.toNatClampNeg 1) 32 0 x1.toNatClampNeg ((ab_su (ab_su S 30 0 x1.toNatClampNeg (vp_nar .boolean 1)) 31 0 x1.toNatClampNeg 1) 23 0 x5.toNatClampNeg)) 24 0 x5.toNatClampNeg)))) ∧ (¬ 0 = 0 → vp_in x4 336 ∧ vp_in x5 336 ∧ vp_in x6 336 ∧ vp_in x6 336 ∧ Sp_X6_choose [(.inl ((ab_su (ab_su (ab_su S 30 0 x1.toNatClampNeg (vp_nar .boolean 1)) 31 0 x1.toNatClampNeg 1) 32 0 x1.toNatClampNeg ((ab_su (ab_su S 30 0 x1.toNatClampNeg (vp_nar .boolean 1)) 31 0 x1.toNatClampNeg 1) 23 0 x5.toNatClampNeg)) 24 0 x4.toNatClampNeg)), (.inl ((ab_su (ab_su (ab_su S 30 0 x1.toNatClampNeg (vp_nar .boolean 1)) 31 0 x1.toNatClampNeg 1) 32 0 x1.toNatClampNeg ((ab_su (ab_su S 30 0 x1.toNatClampNeg (vp_nar .boolean 1)) 31 0 x1.toNatClampNeg 1) 23 0 x5.toNatClampNeg)) 24 0 x5.toNatClampNeg)), (.inl ((ab_su (ab_su (ab_su S 30 0 x1.toNatClampNeg (vp_nar .boolean 1)) 31 0 x1.toNatClampNeg 1) 32 0 x1.toNatClampNeg ((ab_su (ab_su S 30 0 x1.toNatClampNeg (vp_nar .boolean 1)) 31 0 x1.toNatClampNeg 1) 23 0 x5.toNatClampNeg)) 22 0 x6.toNatClampNeg)), (.inl ((ab_su (ab_su (ab_su S 30 0 x1.toNatClampNeg (vp_nar .boolean 1)) 31 0 x1.toNatClampNeg 1) 32 0 x1.toNatClampNeg ((ab_su (ab_su S 30 0 x1.toNatClampNeg (vp_nar .boolean 1)) 31 0 x1.toNatClampNeg 1) 23 0 x5.toNatClampNeg)) 24 0 x6.toNatClampNeg))] (ab_su (ab_su (ab_su S 30 0 x1.toNatClampNeg (vp_nar .boolean 1)) 31 0 x1.toNatClampNeg 1) 32 0 x1.toNatClampNeg ((ab_su (ab_su S 30 0 x1.toNatClampNeg (vp_nar .boolean 1)) 31 0 x1.toNatClampNeg 1) 23 0 x5.toNatClampNeg)) (ab_back Q G 217 [some (.inr (21, 0)), some (.inl x1), some (.inl x2), some (.inl x3), some (.inl x4), some (.inl x5), some (.inl x6), some (.inl xs0), some (.inl x5), some (.inl 0)] [(.inl x1), (.inr (33, 0))] 0))) ∧ (¬ 0 = 0 → vp_in x4 336 ∧ vp_in x5 336 ∧ vp_in x6 336 ∧ vp_in x6 336 ∧ Sp_X6_choose [(.inl ((ab_su (ab_su S 30 0 x1.toNatClampNeg (vp_nar .boolean 1)) 31 0 x1.toNatClampNeg 1) 23 0 x4.toNatClampNeg)), (.inl ((ab_su (ab_su S 30 0 x1.toNatClampNeg (vp_nar .boolean 1)) 31 0 x1.toNatClampNeg 1) 23 0 x5.toNatClampNeg)), (.inl ((ab_su (ab_su S 30 0 x1.toNatClampNeg (vp_nar .boolean 1)) 31 0 x1.toNatClampNeg 1) 22 0 x6.toNatClampNeg)), (.inl ((ab_su (ab_su S 30 0 x1.toNatClampNeg (vp_nar .boolean 1)) 31 0 x1.toNatClampNeg 1) 23 0 x6.toNatClampNeg))] (ab_su (ab_su S 30 0 x1.toNatClampNeg (vp_nar .boolean 1)) 31 0 x1.toNatClampNeg 1) (ab_back Q G 165 [some (.inr (21, 0)), some (.inl x1), some (.inl x2), some (.inl x3), some (.inl x4), some (.inl x5), some (.inl x6), some (.inl xs0), some (.inl x5), some (.inl 0)] [(.inl x1), (.inr (32, 0))] 0))) ∧ (¬ ((ab_su (ab_su S 30 0 x1.toNatClampNeg (vp_nar .boolean 1)) 31 0 x1.toNatClampNeg 1) 22 0 x5.toNatClampNeg) = 0 → (1 = 0 → vp_in x5 336 ∧ vp_in x1 24 ∧ (1 = 0 → vp_in x5 336 ∧ vp_in x1 24 ∧ vp_in x1 24 ∧ (((ab_su (ab_su (ab_su (ab_su S 30 0 x1.toNatClampNeg (vp_nar .boolean 1)) 31 0 x1.toNatClampNeg 1) 32 0 x1.toNatClampNeg ((ab_su (ab_su S 30 0 x1.toNatClampNeg (vp_nar .boolean 1)) 31 0 x1.toNatClampNeg 1) 23 0 x5.toNatClampNeg)) 33 0 x1.toNatClampNeg ((ab_su (ab_su (ab_su S 30 0 x1.toNatClampNeg (vp_nar .boolean 1)) 31 0 x1.toNatClampNeg 1) 32 0 x1.toNatClampNeg ((ab_su (ab_su S 30 0 x1.toNatClampNeg (vp_nar .boolean 1)) 31 0 x1.toNatClampNeg 1) 23 0 x5.toNatClampNeg)) 24 0 x5.toNatClampNeg)) 31 0 x1.toNatClampNeg) = 0 → vp_in x1 24 ∧ (((ab_su (ab_su (ab_su (ab_su S 30 0 x1.toNatClampNeg (vp_nar .boolean 1)) 31 0 x1.toNatClampNeg 1) 32 0 x1.toNatClampNeg ((ab_su (ab_su S 30 0 x1.toNatClampNeg (vp_nar .boolean 1)) 31 0 x1.toNatClampNeg 1) 23 0 x5.toNatClampNeg)) 33 0 x1.toNatClampNeg ((ab_su (ab_su (ab_su S 30 0 x1.toNatClampNeg (vp_nar .boolean 1)) 31 0 x1.toNatClampNeg 1) 32 0 x1.toNatClampNeg ((ab_su (ab_su S 30 0 x1.toNatClampNeg (vp_nar .boolean 1)) 31 0 x1.toNatClampNeg 1) 23 0 x5.toNatClampNeg)) 24 0 x5.toNatClampNeg)) 32 0 x1.toNatClampNeg) = (-9) → vp_in x1 24 ∧ Q (.inl none) (ab_su (ab_su (ab_su (ab_su (ab_su S 30 0 x1.toNatClampNeg (vp_nar .boolean 1)) 31 0 x1.toNatClampNeg 1) 32 0 x1.toNatClampNeg ((ab_su (ab_su S 30 0 x1.toNatClampNeg (vp_nar .boolean 1)) 31 0 x1.toNatClampNeg 1) 23 0 x5.toNatClampNeg)) 33 0 x1.toNatClampNeg ((ab_su (ab_su (ab_su S 30 0 x1.toNatClampNeg (vp_nar .boolean 1)) 31 0 x1.toNatClampNeg 1) 32 0 x1.toNatClampNeg ((ab_su (ab_su S 30 0 x1.toNatClampNeg (vp_nar .boolean 1)) 31 0 x1.toNatClampNeg 1) 23 0 x5.toNatClampNeg)) 24 0 x5.toNatClampNeg)) 31 0 x1.toNatClampNeg 2)) ∧ (¬ ((ab_su (ab_su (ab_su (ab_su S 30 0 x1.toNatClampNeg (vp_nar .boolean 1)) 31 0 x1.toNatClampNeg 1) 32 0 x1.toNatClampNeg ((ab_su (ab_su S 30 0 x1.toNatClampNeg (vp_nar .boolean 1)) 31 0 x1.toNatClampNeg 1) 23 0 x5.toNatClampNeg)) 33 0 x1.toNatClampNeg ((ab_su (ab_su (ab_su S 30 0 x1.toNatClampNeg (vp_nar .boolean 1)) 31 0 x1.toNatClampNeg 1) 32 0 x1.toNatClampNeg ((ab_su (ab_su S 30 0 x1.toNatClampNeg (vp_nar .boolean 1)) 31 0 x1.toNatClampNeg 1) 23 0 x5.toNatClampNeg)) 24 0 x5.toNatClampNeg)) 32 0 x1.toNatClampNeg) = (-9) → vp_in x1 24 ∧ (((ab_su (ab_su (ab_su (ab_su S 30 0 x1.toNatClampNeg (vp_nar .boolean 1)) 31 0 x1.toNatClampNeg 1) 32 0 x1.toNatClampNeg ((ab_su (ab_su S 30 0 x1.toNatClampNeg (vp_nar .boolean 1)) 31 0 x1.toNatClampNeg 1) 23 0 x5.toNatClampNeg)) 33 0 x1.toNatClampNeg ((ab_su (ab_su (ab_su S 30 0 x1.toNatClampNeg (vp_nar .boolean 1)) 31 0 x1.toNatClampNeg 1) 32 0 x1.toNatClampNeg ((ab_su (ab_su S 30 0 x1.toNatClampNeg (vp_nar .boolean 1)) 31 0 x1.toNatClampNeg 1) 23 0 x5.toNatClampNeg)) 24 0 x5.toNatClampNeg)) 33 0 x1.toNatClampNeg) = (-9) → vp_in x1 24 ∧ Q (.inl none) (ab_su (ab_su (ab_su (ab_su (ab_su S 30 0 x1.toNatClampNeg (vp_nar .boolean 1)) 31 0 x1.toNatClampNeg 1) 32 0 x1.toNatClampNeg ((ab_su (ab_su S 30 0 x1.toNatClampNeg (vp_nar .boolean 1)) 31 0 x1.toNatClampNeg 1) 23 0 x5.toNatClampNeg)) 33 0 x1.toNatClampNeg ((ab_su (ab_su (ab_su S 30 0 x1.toNatClampNeg (vp_nar .boolean 1)) 31 0 x1.toNatClampNeg 1) 32 0 x1.toNatClampNeg ((ab_su (ab_su S 30 0 x1.toNatClampNeg (vp_nar .boolean 1)) 31 0 x1.toNatClampNeg 1) 23 0 x5.toNatClampNeg)) 24 0 x5.toNatClampNeg)) 31 0 x1.toNatClampNeg 3)) ∧ (¬ ((ab_su (ab_su (ab_su (ab_su S 30 0 x1.toNatClampNeg (vp_nar .boolean 1)) 31 0 x1.toNatClampNeg 1) 32 0 x1.toNatClampNeg ((ab_su (ab_su S 30 0 x1.toNatClampNeg (vp_nar .boolean 1)) 31 0 x1.toNatClampNeg 1) 23 0 x5.toNatClampNeg)) 33 0 x1.toNatClampNeg ((ab_su (ab_su (ab_su S 30 0 x1.toNatClampNeg (vp_nar .boolean 1)) 31 0 x1.toNatClampNeg 1) 32 0 x1.toNatClampNeg ((ab_su (ab_su S 30 0 x1.toNatClampNeg (vp_nar .boolean 1)) 31 0 x1.toNatClampNeg 1) 23 0 x5.toNatClampNeg)) 24 0 x5.toNatClampNeg)) 33 0 x1.toNatClampNeg) = (-9) → vp_in x1 24 ∧ Q (.inl none) (ab_su (ab_su (ab_su (ab_su (ab_su S 30 0 x1.toNatClampNeg (vp_nar .boolean 1)) 31 0 x1.toNatClampNeg 1) 32 0 x1.toNatClampNeg ((ab_su (ab_su S 30 0 x1.toNatClampNeg (vp_nar .boolean 1)) 31 0 x1.toNatClampNeg 1) 23 0 x5.toNatClampNeg)) 33 0 x1.toNatClampNeg ((ab_su (ab_su (ab_su S 30 0 x1.toNatClampNeg (vp_nar .boolean 1)) 31 0 x1.toNatClampNeg 1) 32 0 x1.toNatClampNeg ((ab_su (ab_su S 30 0 x1.toNatClampNeg (vp_nar .boolean 1)) 31 0 x1.toNatClampNeg 1) 23 0 x5.toNatClampNeg)) 24 0 x5.toNatClampNeg)) 31 0 x1.toNatClampNeg 0)))) ∧ (¬ ((ab_su (ab_su (ab_su (ab_su S 30 0 x1.toNatClampNeg (vp_nar .boolean 1)) 31 0 x1.toNatClampNeg 1) 32 0 x1.toNatClampNeg ((ab_su (ab_su S 30 0 x1.toNatClampNeg (vp_nar .boolean 1)) 31 0 x1.toNatClampNeg 1) 23 0 x5.toNatClampNeg)) 33 0 x1.toNatClampNeg ((ab_su (ab_su (ab_su S 30 0 x1.toNatClampNeg (vp_nar .boolean 1)) 31 0 x1.toNatClampNeg 1) 32 0 x1.toNatClampNeg ((ab_su (ab_su S 30 0 x1.toNatClampNeg (vp_nar .boolean 1)) 31 0 x1.toNatClampNeg 1) 23 0 x5.toNatClampNeg)) 24 0 x5.toNatClampNeg)) 31 0 x1.toNatClampNeg) = 0 → Q (.inl none) (ab_su (ab_su (ab_su (ab_su S 30 0 x1.toNatClampNeg (vp_nar .boolean 1)) 31 0 x1.toNatClampNeg 1) 32 0 x1.toNatClampNeg ((ab_su (ab_su S 30 0 x1.toNatClampNeg (vp_nar .boolean 1)) 31 0 x1.toNatClampNeg 1) 23 0 x5.toNatClampNeg)) 33 0 x1.toNatClampNeg ((ab_su (ab_su (ab_su S 30 0 x1.toNatClampNeg (vp_nar .boolean 1)) 31 0 x1.toNatClampNeg 1) 32 0 x1.toNatClampNeg ((ab_su (ab_su S 30 0 x1.toNatClampNeg (vp_nar .boolean 1)) 31 0 x1.toNatClampNeg 1) 23 0 x5.toNatClampNeg)) 24 0 x5.toNatClampNeg)))) ∧ (¬ 1 = 0 → vp_in x4 336 ∧ vp_in x5 336 ∧ vp_in x6 336 ∧ vp_in x6 336 ∧ Sp_X6_choose [(.inl ((ab_su (ab_su (ab_su S 30 0 x1.toNatClampNeg (vp_nar .boolean 1)) 31 0 x1.toNatClampNeg 1) 32 0 x1.toNatClampNeg ((ab_su (ab_su S 30 0 x1.toNatClampNeg (vp_nar .boolean 1)) 31 0 x1.toNatClampNeg 1) 23 0 x5.toNatClampNeg)) 24 0 x4.toNatClampNeg)), (.inl ((ab_su (ab_su (ab_su S 30 0 x1.toNatClampNeg (vp_nar .boolean 1)) 31 0 x1.toNatClampNeg 1) 32 0 x1.toNatClampNeg ((ab_su (ab_su S 30 0 x1.toNatClampNeg (vp_nar .boolean 1)) 31 0 x1.toNatClampNeg 1) 23 0 x5.toNatClampNeg)) 24 0 x5.toNatClampNeg)), (.inl ((ab_su (ab_su (ab_su S 30 0 x1.toNatClampNeg (vp_nar .boolean 1)) 31 0 x1.toNatClampNeg 1) 32 0 x1.toNatClampNeg ((ab_su (ab_su S 30 0 x1.toNatClampNeg (vp_nar .boolean 1)) 31 0 x1.toNatClampNeg 1) 23 0 x5.toNatClampNeg)) 22 0 x6.toNatClampNeg)), (.inl ((ab_su (ab_su (ab_su S 30 0 x1.toNatClampNeg (vp_nar .boolean 1)) 31 0 x1.toNatClampNeg 1) 32 0 x1.toNatClampNeg ((ab_su (ab_su S 30 0 x1.toNatClampNeg (vp_nar .boolean 1)) 31 0 x1.toNatClampNeg 1) 23 0 x5.toNatClampNeg)) 24 0 x6.toNatClampNeg))] (ab_su (ab_su (ab_su S 30 0 x1.toNatClampNeg (vp_nar .boolean 1)) 31 0 x1.toNatClampNeg 1) 32 0 x1.toNatClampNeg ((ab_su (ab_su S 30 0 x1.toNatClampNeg (vp_nar .boolean 1)) 31 0 x1.toNatClampNeg 1) 23 0 x5.toNatClampNeg)) (ab_back Q G 217 [some (.inr (21, 0)), some (.inl x1), some (.inl x2), some (.inl x3), some (.inl x4), some (.inl x5), some (.inl x6), some (.inl xs0), some (.inl x5), some (.inl 1)] [(.inl x1), (.inr (33, 0))] 0))) ∧ (¬ 1 = 0 → vp_in x4 336 ∧ vp_in x5 336 ∧ vp_in x6 336 ∧ vp_in x6 336 ∧ Sp_X6_choose [(.inl ((ab_su (ab_su S 30 0 x1.toNatClampNeg (vp_nar .boolean 1)) 31 0 x1.toNatClampNeg 1) 23 0 x4.toNatClampNeg)), (.inl ((ab_su (ab_su S 30 0 x1.toNatClampNeg (vp_nar .boolean 1)) 31 0 x1.toNatClampNeg 1) 23 0 x5.toNatClampNeg)), (.inl ((ab_su (ab_su S 30 0 x1.toNatClampNeg (vp_nar .boolean 1)) 31 0 x1.toNatClampNeg 1) 22 0 x6.toNatClampNeg)), (.inl ((ab_su (ab_su S 30 0 x1.toNatClampNeg (vp_nar .boolean 1)) 31 0 x1.toNatClampNeg 1) 23 0 x6.toNatClampNeg))] (ab_su (ab_su S 30 0 x1.toNatClampNeg (vp_nar .boolean 1)) 31 0 x1.toNatClampNeg 1) (ab_back Q G 165 [some (.inr (21, 0)), some (.inl x1), some (.inl x2), some (.inl x3), some (.inl x4), some (.inl x5), some (.inl x6), some (.inl xs0), some (.inl x5), some (.inl 1)] [(.inl x1), (.inr (32, 0))] 0))))) ∧ (¬ ((ab_su (ab_su S 30 0 x1.toNatClampNeg (vp_nar .boolean 1)) 31 0 x1.toNatClampNeg 1) 22 0 x4.toNatClampNeg) = 0 → vp_in x4 336 ∧ (((ab_su (ab_su S 30 0 x1.toNatClampNeg (vp_nar .boolean 1)) 31 0 x1.toNatClampNeg 1) 22 0 x4.toNatClampNeg) = 0 → (0 = 0 → vp_in x4 336 ∧ vp_in x1 24 ∧ (0 = 0 → vp_in x4 336 ∧ vp_in x1 24 ∧ vp_in x1 24 ∧ (((ab_su (ab_su (ab_su (ab_su S 30 0 x1.toNatClampNeg (vp_nar .boolean 1)) 31 0 x1.toNatClampNeg 1) 32 0 x1.toNatClampNeg ((ab_su (ab_su S 30 0 x1.toNatClampNeg (vp_nar .boolean 1)) 31 0 x1.toNatClampNeg 1) 23 0 x4.toNatClampNeg)) 33 0 x1.toNatClampNeg ((ab_su (ab_su (ab_su S 30 0 x1.toNatClampNeg (vp_nar .boolean 1)) 31 0 x1.toNatClampNeg 1) 32 0 x1.toNatClampNeg ((ab_su (ab_su S 30 0 x1.toNatClampNeg (vp_nar .boolean 1)) 31 0 x1.toNatClampNeg 1) 23 0 x4.toNatClampNeg)) 24 0 x4.toNatClampNeg)) 31 0 x1.toNatClampNeg) = 0 → vp_in x1 24 ∧ (((ab_su (ab_su (ab_su (ab_su S 30 0 x1.toNatClampNeg (vp_nar .boolean 1)) 31 0 x1.toNatClampNeg 1) 32 0 x1.toNatClampNeg ((ab_su (ab_su S 30 0 x1.toNatClampNeg (vp_nar .boolean 1)) 31 0 x1.toNatClampNeg 1) 23 0 x4.toNatClampNeg)) 33 0 x1.toNatClampNeg ((ab_su (ab_su (ab_su S 30 0 x1.toNatClampNeg (vp_nar .boolean 1)) 31 0 x1.toNatClampNeg 1) 32 0 x1.toNatClampNeg ((ab_su (ab_su S 30 0 x1.toNatClampNeg (vp_nar .boolean 1)) 31 0 x1.toNatClampNeg 1) 23 0 x4.toNatClampNeg)) 24 0 x4.toNatClampNeg)) 32 0 x1.toNatClampNeg) = (-9) → vp_in x1 24 ∧ Q (.inl none) (ab_su (ab_su (ab_su (ab_su (ab_su S 30 0 x1.toNatClampNeg (vp_nar .boolean 1)) 31 0 x1.toNatClampNeg 1) 32 0 x1.toNatClampNeg ((ab_su (ab_su S 30 0 x1.toNatClampNeg (vp_nar .boolean 1)) 31 0 x1.toNatClampNeg 1) 23 0 x4.toNatClampNeg)) 33 0 x1.toNatClampNeg ((ab_su (ab_su (ab_su S 30 0 x1.toNatClampNeg (vp_nar .boolean 1)) 31 0 x1.toNatClampNeg 1) 32 0 x1.toNatClampNeg ((ab_su (ab_su S 30 0 x1.toNatClampNeg (vp_nar .boolean 1)) 31 0 x1.toNatClampNeg 1) 23 0 x4.toNatClampNeg)) 24 0 x4.toNatClampNeg)) 31 0 x1.toNatClampNeg 2)) ∧ (¬ ((ab_su (ab_su (ab_su (ab_su S 30 0 x1.toNatClampNeg (vp_nar .boolean 1)) 31 0 x1.toNatClampNeg 1) 32 0 x1.toNatClampNeg ((ab_su (ab_su S 30 0 x1.toNatClampNeg (vp_nar .boolean 1)) 31 0 x1.toNatClampNeg 1) 23 0 x4.toNatClampNeg)) 33 0 x1.toNatClampNeg ((ab_su (ab_su (ab_su S 30 0 x1.toNatClampNeg (vp_nar .boolean 1)) 31 0 x1.toNatClampNeg 1) 32 0 x1.toNatClampNeg ((ab_su (ab_su S 30 0 x1.toNatClampNeg (vp_nar .boolean 1)) 31 0 x1.toNatClampNeg 1) 23 0 x4.toNatClampNeg)) 24 0 x4.toNatClampNeg)) 32 0 x1.toNatClampNeg) = (-9) → vp_in x1 24 ∧ (((ab_su (ab_su (ab_su (ab_su S 30 0 x1.toNatClampNeg (vp_nar .boolean 1)) 31 0 x1.toNatClampNeg 1) 32 0 x1.toNatClampNeg ((ab_su (ab_su S 30 0 x1.toNatClampNeg (vp_nar .boolean 1)) 31 0 x1.toNatClampNeg 1) 23 0 x4.toNatClampNeg)) 33 0 x1.toNatClampNeg ((ab_su (ab_su (ab_su S 30 0 x1.toNatClampNeg (vp_nar .boolean 1)) 31 0 x1.toNatClampNeg 1) 32 0 x1.toNatClampNeg ((ab_su (ab_su S 30 0 x1.toNatClampNeg (vp_nar .boolean 1)) 31 0 x1.toNatClampNeg 1) 23 0 x4.toNatClampNeg)) 24 0 x4.toNatClampNeg)) 33 0 x1.toNatClampNeg) = (-9) → vp_in x1 24 ∧ Q (.inl none) (ab_su (ab_su (ab_su (ab_su (ab_su S 30 0 x1.toNatClampNeg (vp_nar .boolean 1)) 31 0 x1.toNatClampNeg 1) 32 0 x1.toNatClampNeg ((ab_su (ab_su S 30 0 x1.toNatClampNeg (vp_nar .boolean 1)) 31 0 x1.toNatClampNeg 1) 23 0 x4.toNatClampNeg)) 33 0 x1.toNatClampNeg ((ab_su (ab_su (ab_su S 30 0 x1.toNatClampNeg (vp_nar .boolean 1)) 31 0 x1.toNatClampNeg 1) 32 0 x1.toNatClampNeg ((ab_su (ab_su S 30 0 x1.toNatClampNeg (vp_nar .boolean 1)) 31 0 x1.toNatClampNeg 1) 23 0 x4.toNatClampNeg)) 24 0 x4.toNatClampNeg)) 31 0 x1.toNatClampNeg 3)) ∧ (¬ ((ab_su (ab_su (ab_su (ab_su S 30 0 x1.toNatClampNeg (vp_nar .boolean 1)) 31 0 x1.toNatClampNeg 1) 32 0 x1.toNatClampNeg ((ab_su (ab_su S 30 0 x1.toNatClampNeg (vp_nar .boolean 1)) 31 0 x1.toNatClampNeg 1) 23 0 x4.toNatClampNeg)) 33 0 x1.toNatClampNeg ((ab_su (ab_su (ab_su S 30 0 x1.toNatClampNeg (vp_nar .boolean 1)) 31 0 x1.toNatClampNeg 1) 32 0 x1.toNatClampNeg ((ab_su (ab_su S 30 0 x1.toNatClampNeg (vp_nar .boolean 1)) 31 0 x1.toNatClampNeg 1) 23 0 x4.toNatClampNeg)) 24 0 x4.toNatClampNeg)) 33 0 x1.toNatClampNeg) = (-9) → vp_in x1 24 ∧ Q (.inl none) (ab_su (ab_su (ab_su (ab_su (ab_su S 30 0 x1.toNatClampNeg (vp_nar .boolean 1)) 31 0 x1.toNatClampNeg 1) 32 0 x1.toNatClampNeg ((ab_su (ab_su S 30 0 x1.toNatClampNeg (vp_nar .boolean 1)) 31 0 x1.toNatClampNeg 1) 23 0 x4.toNatClampNeg)) 33 0 x1.toNatClampNeg ((ab_su (ab_su (ab_su S 30 0 x1.toNatClampNeg (vp_nar .boolean 1)) 31 0 x1.toNatClampNeg 1) 32 0 x1.toNatClampNeg ((ab_su (ab_su S 30 0 x1.toNatClampNeg (vp_nar .boolean 1)) 31 0 x1.toNatClampNeg 1) 23 0 x4.toNatClampNeg)) 24 0 x4.toNatClampNeg)) 31 0 x1.toNatClampNeg 0)))) ∧ (¬ ((ab_su (ab_su (ab_su (ab_su S 30 0 x1.toNatClampNeg (vp_nar .boolean 1)) 31 0 x1.toNatClampNeg 1) 32 0 x1.toNatClampNeg ((ab_su (ab_su S 30 0 x1.toNatClampNeg (vp_nar .boolean 1)) 31 0 x1.toNatClampNeg 1) 23 0 x4.toNatClampNeg)) 33 0 x1.toNatClampNeg ((ab_su (ab_su (ab_su S 30 0 x1.toNatClampNeg (vp_nar .boolean 1)) 31 0 x1.toNatClampNeg 1) 32 0 x1.toNatClampNeg ((ab_su (ab_su S 30 0 x1.toNatClampNeg (vp_nar .boolean 1)) 31 0 x1.toNatClampNeg 1) 23 0 x4.toNatClampNeg)) 24 0 x4.toNatClampNeg)) 31 0 x1.toNatClampNeg) = 0 → Q (.inl none) (ab_su (ab_su (ab_su (ab_su S 30 0 x1.toNatClampNeg (vp_nar .boolean 1)) 31 0 x1.toNatClampNeg 1) 32 0 x1.toNatClampNeg ((ab_su (ab_su S 30 0 x1.toNatClampNeg (vp_nar .boolean 1)) 31 0 x1.toNatClampNeg 1) 23 0 x4.toNatClampNeg)) 33 0 x1.toNatClampNeg ((ab_su (ab_su (ab_su S 30 0 x1.toNatClampNeg (vp_nar .boolean 1)) 31 0 x1.toNatClampNeg 1) 32 0 x1.toNatClampNeg ((ab_su (ab_su S 30 0 x1.toNatClampNeg (vp_nar .boolean 1)) 31 0 x1.toNatClampNeg 1) 23 0 x4.toNatClampNeg)) 24 0 x4.toNatClampNeg)))) ∧ (¬ 0 = 0 → vp_in x4 336 ∧ vp_in x5 336 ∧ vp_in x6 336 ∧ vp_in x6 336 ∧ Sp_X6_choose [(.inl ((ab_su (ab_su (ab_su S 30 0 x1.toNatClampNeg (vp_nar .boolean 1)) 31 0 x1.toNatClampNeg 1) 32 0 x1.toNatClampNeg ((ab_su (ab_su S 30 0 x1.toNatClampNeg (vp_nar .boolean 1)) 31 0 x1.toNatClampNeg 1) 23 0 x4.toNatClampNeg)) 24 0 x4.toNatClampNeg)), (.inl ((ab_su (ab_su (ab_su S 30 0 x1.toNatClampNeg (vp_nar .boolean 1)) 31 0 x1.toNatClampNeg 1) 32 0 x1.toNatClampNeg ((ab_su (ab_su S 30 0 x1.toNatClampNeg (vp_nar .boolean 1)) 31 0 x1.toNatClampNeg 1) 23 0 x4.toNatClampNeg)) 24 0 x5.toNatClampNeg)), (.inl ((ab_su (ab_su (ab_su S 30 0 x1.toNatClampNeg (vp_nar .boolean 1)) 31 0 x1.toNatClampNeg 1) 32 0 x1.toNatClampNeg ((ab_su (ab_su S 30 0 x1.toNatClampNeg (vp_nar .boolean 1)) 31 0 x1.toNatClampNeg 1) 23 0 x4.toNatClampNeg)) 22 0 x6.toNatClampNeg)), (.inl ((ab_su (ab_su (ab_su S 30 0 x1.toNatClampNeg (vp_nar .boolean 1)) 31 0 x1.toNatClampNeg 1) 32 0 x1.toNatClampNeg ((ab_su (ab_su S 30 0 x1.toNatClampNeg (vp_nar .boolean 1)) 31 0 x1.toNatClampNeg 1) 23 0 x4.toNatClampNeg)) 24 0 x6.toNatClampNeg))] (ab_su (ab_su (ab_su S 30 0 x1.toNatClampNeg (vp_nar .boolean 1)) 31 0 x1.toNatClampNeg 1) 32 0 x1.toNatClampNeg ((ab_su (ab_su S 30 0 x1.toNatClampNeg (vp_nar .boolean 1)) 31 0 x1.toNatClampNeg 1) 23 0 x4.toNatClampNeg)) (ab_back Q G 217 [some (.inr (21, 0)), some (.inl x1), some (.inl x2), some (.inl x3), some (.inl x4), some (.inl x5), some (.inl x6), some (.inl xs0), some (.inl x4), some (.inl 0)] [(.inl x1), (.inr (33, 0))] 0))) ∧ (¬ 0 = 0 → vp_in x4 336 ∧ vp_in x5 336 ∧ vp_in x6 336 ∧ vp_in x6 336 ∧ Sp_X6_choose [(.inl ((ab_su (ab_su S 30 0 x1.toNatClampNeg (vp_nar .boolean 1)) 31 0 x1.toNatClampNeg 1) 23 0 x4.toNatClampNeg)), (.inl ((ab_su (ab_su S 30 0 x1.toNatClampNeg (vp_nar .boolean 1)) 31 0 x1.toNatClampNeg 1) 23 0 x5.toNatClampNeg)), (.inl ((ab_su (ab_su S 30 0 x1.toNatClampNeg (vp_nar .boolean 1)) 31 0 x1.toNatClampNeg 1) 22 0 x6.toNatClampNeg)), (.inl ((ab_su (ab_su S 30 0 x1.toNatClampNeg (vp_nar .boolean 1)) 31 0 x1.toNatClampNeg 1) 23 0 x6.toNatClampNeg))] (ab_su (ab_su S 30 0 x1.toNatClampNeg (vp_nar .boolean 1)) 31 0 x1.toNatClampNeg 1) (ab_back Q G 165 [some (.inr (21, 0)), some (.inl x1), some (.inl x2), some (.inl x3), some (.inl x4), some (.inl x5), some (.inl x6), some (.inl xs0), some (.inl x4), some (.inl 0)] [(.inl x1), (.inr (32, 0))] 0))) ∧ (¬ ((ab_su (ab_su S 30 0 x1.toNatClampNeg (vp_nar .boolean 1)) 31 0 x1.toNatClampNeg 1) 22 0 x4.toNatClampNeg) = 0 → vp_in x5 336 ∧ (((ab_su (ab_su S 30 0 x1.toNatClampNeg (vp_nar .boolean 1)) 31 0 x1.toNatClampNeg 1) 22 0 x5.toNatClampNeg) = 0 → (0 = 0 → vp_in x4 336 ∧ vp_in x1 24 ∧ (0 = 0 → vp_in x4 336 ∧ vp_in x1 24 ∧ vp_in x1 24 ∧ (((ab_su (ab_su (ab_su (ab_su S 30 0 x1.toNatClampNeg (vp_nar .boolean 1)) 31 0 x1.toNatClampNeg 1) 32 0 x1.toNatClampNeg ((ab_su (ab_su S 30 0 x1.toNatClampNeg (vp_nar .boolean 1)) 31 0 x1.toNatClampNeg 1) 23 0 x4.toNatClampNeg)) 33 0 x1.toNatClampNeg ((ab_su (ab_su (ab_su S 30 0 x1.toNatClampNeg (vp_nar .boolean 1)) 31 0 x1.toNatClampNeg 1) 32 0 x1.toNatClampNeg ((ab_su (ab_su S 30 0 x1.toNatClampNeg (vp_nar .boolean 1)) 31 0 x1.toNatClampNeg 1) 23 0 x4.toNatClampNeg)) 24 0 x4.toNatClampNeg)) 31 0 x1.toNatClampNeg) = 0 → vp_in x1 24 ∧ (((ab_su (ab_su (ab_su (ab_su S 30 0 x1.toNatClampNeg (vp_nar .boolean 1)) 31 0 x1.toNatClampNeg 1) 32 0 x1.toNatClampNeg ((ab_su (ab_su S 30 0 x1.toNatClampNeg (vp_nar .boolean 1)) 31 0 x1.toNatClampNeg 1) 23 0 x4.toNatClampNeg)) 33 0 x1.toNatClampNeg ((ab_su (ab_su (ab_su S 30 0 x1.toNatClampNeg (vp_nar .boolean 1)) 31 0 x1.toNatClampNeg 1) 32 0 x1.toNatClampNeg ((ab_su (ab_su S 30 0 x1.toNatClampNeg (vp_nar .boolean 1)) 31 0 x1.toNatClampNeg 1) 23 0 x4.toNatClampNeg)) 24 0 x4.toNatClampNeg)) 32 0 x1.toNatClampNeg) = (-9) → vp_in x1 24 ∧ Q (.inl none) (ab_su (ab_su (ab_su (ab_su (ab_su S 30 0 x1.toNatClampNeg (vp_nar .boolean 1)) 31 0 x1.toNatClampNeg 1) 32 0 x1.toNatClampNeg ((ab_su (ab_su S 30 0 x1.toNatClampNeg (vp_nar .boolean 1)) 31 0 x1.toNatClampNeg 1) 23 0 x4.toNatClampNeg)) 33 0 x1.toNatClampNeg ((ab_su (ab_su (ab_su S 30 0 x1.toNatClampNeg (vp_nar .boolean 1)) 31 0 x1.toNatClampNeg 1) 32 0 x1.toNatClampNeg ((ab_su (ab_su S 30 0 x1.toNatClampNeg (vp_nar .boolean 1)) 31 0 x1.toNatClampNeg 1) 23 0 x4.toNatClampNeg)) 24 0 x4.toNatClampNeg)) 31 0 x1.toNatClampNeg 2)) ∧ (¬ ((ab_su (ab_su (ab_su (ab_su S 30 0 x1.toNatClampNeg (vp_nar .boolean 1)) 31 0 x1.toNatClampNeg 1) 32 0 x1.toNatClampNeg ((ab_su (ab_su S 30 0 x1.toNatClampNeg (vp_nar .boolean 1)) 31 0 x1.toNatClampNeg 1) 23 0 x4.toNatClampNeg)) 33 0 x1.toNatClampNeg ((ab_su (ab_su (ab_su S 30 0 x1.toNatClampNeg (vp_nar .boolean 1)) 31 0 x1.toNatClampNeg 1) 32 0 x1.toNatClampNeg ((ab_su (ab_su S 30 0 x1.toNatClampNeg (vp_nar .boolean 1)) 31 0 x1.toNatClampNeg 1) 23 0 x4.toNatClampNeg)) 24 0 x4.toNatClampNeg)) 32 0 x1.toNatClampNeg) = (-9) → vp_in x1 24 ∧ (((ab_su (ab_su (ab_su (ab_su S 30 0 x1.toNatClampNeg (vp_nar .boolean 1)) 31 0 x1.toNatClampNeg 1) 32 0 x1.toNatClampNeg ((ab_su (ab_su S 30 0 x1.toNatClampNeg (vp_nar .boolean 1)) 31 0 x1.toNatClampNeg 1) 23 0 x4.toNatClampNeg)) 33 0 x1.toNatClampNeg ((ab_su (ab_su (ab_su S 30 0 x1.toNatClampNeg (vp_nar .boolean 1)) 31 0 x1.toNatClampNeg 1) 32 0 x1.toNatClampNeg ((ab_su (ab_su S 30 0 x1.toNatClampNeg (vp_nar .boolean 1)) 31 0 x1.toNatClampNeg 1) 23 0 x4.toNatClampNeg)) 24 0 x4.toNatClampNeg)) 33 0 x1.toNatClampNeg) = (-9) → vp_in x1 24 ∧ Q (.inl none) (ab_su (ab_su (ab_su (ab_su (ab_su S 30 0 x1.toNatClampNeg (vp_nar .boolean 1)) 31 0 x1.toNatClampNeg 1) 32 0 x1.toNatClampNeg ((ab_su (ab_su S 30 0 x1.toNatClampNeg (vp_nar .boolean 1)) 31 0 x1.toNatClampNeg 1) 23 0 x4.toNatClampNeg)) 33 0 x1.toNatClampNeg ((ab_su (ab_su (ab_su S 30 0 x1.toNatClampNeg (vp_nar .boolean 1)) 31 0 x1.toNatClampNeg 1) 32 0 x1.toNatClampNeg ((ab_su (ab_su S 30 0 x1.toNatClampNeg (vp_nar .boolean 1)) 31 0 x1.toNatClampNeg 1) 23 0 x4.toNatClampNeg)) 24 0 x4.toNatClampNeg)) 31 0 x1.toNatClampNeg 3)) ∧ (¬ ((ab_su (ab_su (ab_su (ab_su S 30 0 x1.toNatClampNeg (vp_nar .boolean 1)) 31 0 x1.toNatClampNeg 1) 32 0 x1.toNatClampNeg ((ab_su (ab_su S 30 0 x1.toNatClampNeg (vp_nar .boolean 1)) 31 0 x1.toNatClampNeg 1) 23 0 x4.toNatClampNeg)) 33 0 x1.toNatClampNeg ((ab_su (ab_su (ab_su S 30 0 x1.toNatClampNeg (vp_nar .boolean 1)) 31 0 x1.toNatClampNeg 1) 32 0 x1.toNatClampNeg ((ab_su (ab_su S 30 0 x1.toNatClampNeg (vp_nar .boolean 1)) 31 0 x1.toNatClampNeg 1) 23 0 x4.toNatClampNeg)) 24 0 x4.toNatClampNeg)) 33 0 x1.toNatClampNeg) = (-9) → vp_in x1 24 ∧ Q (.inl none) (ab_su (ab_su (ab_su (ab_su (ab_su S 30 0 x1.toNatClampNeg (vp_nar .boolean 1)) 31 0 x1.toNatClampNeg 1) 32 0 x1.toNatClampNeg ((ab_su (ab_su S 30 0 x1.toNatClampNeg (vp_nar .boolean 1)) 31 0 x1.toNatClampNeg 1) 23 0 x4.toNatClampNeg)) 33 0 x1.toNatClampNeg ((ab_su (ab_su (ab_su S 30 0 x1.toNatClampNeg (vp_nar .boolean 1)) 31 0 x1.toNatClampNeg 1) 32 0 x1.toNatClampNeg ((ab_su (ab_su S 30 0 x1.toNatClampNeg (vp_nar .boolean 1)) 31 0 x1.toNatClampNeg 1) 23 0 x4.toNatClampNeg)) 24 0 x4.toNatClampNeg)) 31 0 x1.toNatClampNeg 0)))) ∧ (¬ ((ab_su (ab_su (ab_su (ab_su S 30 0 x1.toNatClampNeg (vp_nar .boolean 1)) 31 0 x1.toNatClampNeg 1) 32 0 x1.toNatClampNeg ((ab_su (ab_su S 30 0 x1.toNatClampNeg (vp_nar .boolean 1)) 31 0 x1.toNatClampNeg 1) 23 0 x4.toNatClampNeg)) 33 0 x1.toNatClampNeg ((ab_su (ab_su (ab_su S 30 0 x1.toNatClampNeg (vp_nar .boolean 1)) 31 0 x1.toNatClampNeg 1) 32 0 x1.toNatClampNeg ((ab_su (ab_su S 30 0 x1.toNatClampNeg (vp_nar .boolean 1)) 31 0 x1.toNatClampNeg 1) 23 0 x4.toNatClampNeg)) 24 0 x4.toNatClampNeg)) 31 0 x1.toNatClampNeg) = 0 → Q (.inl none) (ab_su (ab_su (ab_su (ab_su S 30 0 x1.toNatClampNeg (vp_nar .boolean 1)) 31 0 x1.toNatClampNeg 1) 32 0 x1.toNatClampNeg ((ab_su (ab_su S 30 0 x1.toNatClampNeg (vp_nar .boolean 1)) 31 0 x1.toNatClampNeg 1) 23 0 x4.toNatClampNeg)) 33 0 x1.toNatClampNeg ((ab_su (ab_su (ab_su S 30 0 x1.toNatClampNeg (vp_nar .boolean 1)) 31 0 x1.toNatClampNeg 1) 32 0 x1.toNatClampNeg ((ab_su (ab_su S 30 0 x1.toNatClampNeg (vp_nar .boolean 1)) 31 0 x1.toNatClampNeg 1) 23 0 x4.toNatClampNeg)) 24 0 x4.toNatClampNeg)))) ∧ (¬ 0 = 0 → vp_in x4 336 ∧ vp_in x5 336 ∧ vp_in x6 336 ∧ vp_in x6 336 ∧ Sp_X6_choose [(.inl ((ab_su (ab_su (ab_su S 30 0 x1.toNatClampNeg (vp_nar .boolean 1)) 31 0 x1.toNatClampNeg 1) 32 0 x1.toNatClampNeg ((ab_su (ab_su S 30 0 x1.toNatClampNeg (vp_nar .boolean 1)) 31 0 x1.toNatClampNeg 1) 23 0 x4.toNatClampNeg)) 24 0 x4.toNatClampNeg)), (.inl ((ab_su (ab_su (ab_su S 30 0 x1.toNatClampNeg (vp_nar .boolean 1)) 31 0 x1.toNatClampNeg 1) 32 0 x1.toNatClampNeg ((ab_su (ab_su S 30 0 x1.toNatClampNeg (vp_nar .boolean 1)) 31 0 x1.toNatClampNeg 1) 23 0 x4.toNatClampNeg)) 24 0 x5.toNatClampNeg)), (.inl ((ab_su (ab_su (ab_su S 30 0 x1.toNatClampNeg (vp_nar .boolean 1)) 31 0 x1.toNatClampNeg 1) 32 0 x1.toNatClampNeg ((ab_su (ab_su S 30 0 x1.toNatClampNeg (vp_nar .boolean 1)) 31 0 x1.toNatClampNeg 1) 23 0 x4.toNatClampNeg)) 22 0 x6.toNatClampNeg)), (.inl ((ab_su (ab_su (ab_su S 30 0 x1.toNatClampNeg (vp_nar .boolean 1)) 31 0 x1.toNatClampNeg 1) 32 0 x1.toNatClampNeg ((ab_su (ab_su S 30 0 x1.toNatClampNeg (vp_nar .boolean 1)) 31 0 x1.toNatClampNeg 1) 23 0 x4.toNatClampNeg)) 24 0 x6.toNatClampNeg))] (ab_su (ab_su (ab_su S 30 0 x1.toNatClampNeg (vp_nar .boolean 1)) 31 0 x1.toNatClampNeg 1) 32 0 x1.toNatClampNeg ((ab_su (ab_su S 30 0 x1.toNatClampNeg (vp_nar .boolean 1)) 31 0 x1.toNatClampNeg 1) 23 0 x4.toNatClampNeg)) (ab_back Q G 217 [some (.inr (21, 0)), some (.inl x1), some (.inl x2), some (.inl x3), some (.inl x4), some (.inl x5), some (.inl x6), some (.inl xs0), some (.inl x4), some (.inl 0)] [(.inl x1), (.inr (33, 0))] 0))) ∧ (¬ 0 = 0 → vp_in x4 336 ∧ vp_in x5 336 ∧ vp_in x6 336 ∧ vp_in x6 336 ∧ Sp_X6_choose [(.inl ((ab_su (ab_su S 30 0 x1.toNatClampNeg (vp_nar .boolean 1)) 31 0 x1.toNatClampNeg 1) 23 0 x4.toNatClampNeg)), (.inl ((ab_su (ab_su S 30 0 x1.toNatClampNeg (vp_nar .boolean 1)) 31 0 x1.toNatClampNeg 1) 23 0 x5.toNatClampNeg)), (.inl ((ab_su (ab_su S 30 0 x1.toNatClampNeg (vp_nar .boolean 1)) 31 0 x1.toNatClampNeg 1) 22 0 x6.toNatClampNeg)), (.inl ((ab_su (ab_su S 30 0 x1.toNatClampNeg (vp_nar .boolean 1)) 31 0 x1.toNatClampNeg 1) 23 0 x6.toNatClampNeg))] (ab_su (ab_su S 30 0 x1.toNatClampNeg (vp_nar .boolean 1)) 31 0 x1.toNatClampNeg 1) (ab_back Q G 165 [some (.inr (21, 0)), some (.inl x1), some (.inl x2), some (.inl x3), some (.inl x4), some (.inl x5), some (.inl x6), some (.inl xs0), some (.inl x4), some (.inl 0)] [(.inl x1), (.inr (32, 0))] 0))) ∧ (¬ ((ab_su (ab_su S 30 0 x1.toNatClampNeg (vp_nar .boolean 1)) 31 0 x1.toNatClampNeg 1) 22 0 x5.toNatClampNeg) = 0 → (1 = 0 → vp_in x4 336 ∧ vp_in x1 24 ∧ (1 = 0 → vp_in x4 336 ∧ vp_in x1 24 ∧ vp_in x1 24 ∧ (((ab_su (ab_su (ab_su (ab_su S 30 0 x1.toNatClampNeg (vp_nar .boolean 1)) 31 0 x1.toNatClampNeg 1) 32 0 x1.toNatClampNeg ((ab_su (ab_su S 30 0 x1.toNatClampNeg (vp_nar .boolean 1)) 31 0 x1.toNatClampNeg 1) 23 0 x4.toNatClampNeg)) 33 0 x1.toNatClampNeg ((ab_su (ab_su (ab_su S 30 0 x1.toNatClampNeg (vp_nar .boolean 1)) 31 0 x1.toNatClampNeg 1) 32 0 x1.toNatClampNeg ((ab_su (ab_su S 30 0 x1.toNatClampNeg (vp_nar .boolean 1)) 31 0 x1.toNatClampNeg 1) 23 0 x4.toNatClampNeg)) 24 0 x4.toNatClampNeg)) 31 0 x1.toNatClampNeg) = 0 → vp_in x1 24 ∧ (((ab_su (ab_su (ab_su (ab_su S 30 0 x1.toNatClampNeg (vp_nar .boolean 1)) 31 0 x1.toNatClampNeg 1) 32 0 x1.toNatClampNeg ((ab_su (ab_su S 30 0 x1.toNatClampNeg (vp_nar .boolean 1)) 31 0 x1.toNatClampNeg 1) 23 0 x4.toNatClampNeg)) 33 0 x1.toNatClampNeg ((ab_su (ab_su (ab_su S 30 0 x1.toNatClampNeg (vp_nar .boolean 1)) 31 0 x1.toNatClampNeg 1) 32 0 x1.toNatClampNeg ((ab_su (ab_su S 30 0 x1.toNatClampNeg (vp_nar .boolean 1)) 31 0 x1.toNatClampNeg 1) 23 0 x4.toNatClampNeg)) 24 0 x4.toNatClampNeg)) 32 0 x1.toNatClampNeg) = (-9) → vp_in x1 24 ∧ Q (.inl none) (ab_su (ab_su (ab_su (ab_su (ab_su S 30 0 x1.toNatClampNeg (vp_nar .boolean 1)) 31 0 x1.toNatClampNeg 1) 32 0 x1.toNatClampNeg ((ab_su (ab_su S 30 0 x1.toNatClampNeg (vp_nar .boolean 1)) 31 0 x1.toNatClampNeg 1) 23 0 x4.toNatClampNeg)) 33 0 x1.toNatClampNeg ((ab_su (ab_su (ab_su S 30 0 x1.toNatClampNeg (vp_nar .boolean 1)) 31 0 x1.toNatClampNeg 1) 32 0 x1.toNatClampNeg ((ab_su (ab_su S 30 0 x1.toNatClampNeg (vp_nar .boolean 1)) 31 0 x1.toNatClampNeg 1) 23 0 x4.toNatClampNeg)) 24 0 x4.toNatClampNeg)) 31 0 x1.toNatClampNeg 2)) ∧ (¬ ((ab_su (ab_su (ab_su (ab_su S 30 0 x1.toNatClampNeg (vp_nar .boolean 1)) 31 0 x1.toNatClampNeg 1) 32 0 x1.toNatClampNeg ((ab_su (ab_su S 30 0 x1.toNatClampNeg (vp_nar .boolean 1)) 31 0 x1.toNatClampNeg 1) 23 0 x4.toNatClampNeg)) 33 0 x1.toNatClampNeg ((ab_su (ab_su (ab_su S 30 0 x1.toNatClampNeg (vp_nar .boolean 1)) 31 0 x1.toNatClampNeg 1) 32 0 x1.toNatClampNeg ((ab_su (ab_su S 30 0 x1.toNatClampNeg (vp_nar .boolean 1)) 31 0 x1.toNatClampNeg 1) 23 0 x4.toNatClampNeg)) 24 0 x4.toNatClampNeg)) 32 0 x1.toNatClampNeg) = (-9) → vp_in x1 24 ∧ (((ab_su (ab_su (ab_su (ab_su S 30 0 x1.toNatClampNeg (vp_nar .boolean 1)) 31 0 x1.toNatClampNeg 1) 32 0 x1.toNatClampNeg ((ab_su (ab_su S 30 0 x1.toNatClampNeg (vp_nar .boolean 1)) 31 0 x1.toNatClampNeg 1) 23 0 x4.toNatClampNeg)) 33 0 x1.toNatClampNeg ((ab_su (ab_su (ab_su S 30 0 x1.toNatClampNeg (vp_nar .boolean 1)) 31 0 x1.toNatClampNeg 1) 32 0 x1.toNatClampNeg ((ab_su (ab_su S 30 0 x1.toNatClampNeg (vp_nar .boolean 1)) 31 0 x1.toNatClampNeg 1) 23 0 x4.toNatClampNeg)) 24 0 x4.toNatClampNeg)) 33 0 x1.toNatClampNeg) = (-9) → vp_in x1 24 ∧ Q (.inl none) (ab_su (ab_su (ab_su (ab_su (ab_su S 30 0 x1.toNatClampNeg (vp_nar .boolean 1)) 31 0 x1.toNatClampNeg 1) 32 0 x1.toNatClampNeg ((ab_su (ab_su S 30 0 x1.toNatClampNeg (vp_nar .boolean 1)) 31 0 x1.toNatClampNeg 1) 23 0 x4.toNatClampNeg)) 33 0 x1.toNatClampNeg ((ab_su (ab_su (ab_su S 30 0 x1.toNatClampNeg (vp_nar .boolean 1)) 31 0 x1.toNatClampNeg 1) 32 0 x1.toNatClampNeg ((ab_su (ab_su S 30 0 x1.toNatClampNeg (vp_nar .boolean 1)) 31 0 x1.toNatClampNeg 1) 23 0 x4.toNatClampNeg)) 24 0 x4.toNatClampNeg)) 31 0 x1.toNatClampNeg 3)) ∧ (¬ ((ab_su (ab_su (ab_su (ab_su S 30 0 x1.toNatClampNeg (vp_nar .boolean 1)) 31 0 x1.toNatClampNeg 1) 32 0 x1.toNatClampNeg ((ab_su (ab_su S 30 0 x1.toNatClampNeg (vp_nar .boolean 1)) 31 0 x1.toNatClampNeg 1) 23 0 x4.toNatClampNeg)) 33 0 x1.toNatClampNeg ((ab_su (ab_su (ab_su S 30 0 x1.toNatClampNeg (vp_nar .boolean 1)) 31 0 x1.toNatClampNeg 1) 32 0 x1.toNatClampNeg ((ab_su (ab_su S 30 0 x1.toNatClampNeg (vp_nar .boolean 1)) 31 0 x1.toNatClampNeg 1) 23 0 x4.toNatClampNeg)) 24 0 x4.toNatClampNeg)) 33 0 x1.toNatClampNeg) = (-9) → vp_in x1 24 ∧ Q (.inl none) (ab_su (ab_su (ab_su (ab_su (ab_su S 30 0 x1.toNatClampNeg (vp_nar .boolean 1)) 31 0 x1.toNatClampNeg 1) 32 0 x1.toNatClampNeg ((ab_su (ab_su S 30 0 x1.toNatClampNeg (vp_nar .boolean 1)) 31 0 x1.toNatClampNeg 1) 23 0 x4.toNatClampNeg)) 33 0 x1.toNatClampNeg ((ab_su (ab_su (ab_su S 30 0 x1.toNatClampNeg (vp_nar .boolean 1)) 31 0 x1.toNatClampNeg 1) 32 0 x1.toNatClampNeg ((ab_su (ab_su S 30 0 x1.toNatClampNeg (vp_nar .boolean 1)) 31 0 x1.toNatClampNeg 1) 23 0 x4.toNatClampNeg)) 24 0 x4.toNatClampNeg)) 31 0 x1.toNatClampNeg 0)))) ∧ (¬ ((ab_su (ab_su (ab_su (ab_su S 30 0 x1.toNatClampNeg (vp_nar .boolean 1)) 31 0 x1.toNatClampNeg 1) 32 0 x1.toNatClampNeg ((ab_su (ab_su S 30 0 x1.toNatClampNeg (vp_nar .boolean 1)) 31 0 x1.toNatClampNeg 1) 23 0 x4.toNatClampNeg)) 33 0 x1.toNatClampNeg ((ab_su (ab_su (ab_su S 30 0 x1.toNatClampNeg (vp_nar .boolean 1)) 31 0 x1.toNatClampNeg 1) 32 0 x1.toNatClampNeg ((ab_su (ab_su S 30 0 x1.toNatClampNeg (vp_nar .boolean 1)) 31 0 x1.toNatClampNeg 1) 23 0 x4.toNatClampNeg)) 24 0 x4.toNatClampNeg)) 31 0 x1.toNatClampNeg) = 0 → Q (.inl none) (ab_su (ab_su (ab_su (ab_su S 30 0 x1.toNatClampNeg (vp_nar .boolean 1)) 31 0 x1.toNatClampNeg 1) 32 0 x1.toNatClampNeg ((ab_su (ab_su S 30 0 x1.toNatClampNeg (vp_nar .boolean 1)) 31 0 x1.toNatClampNeg 1) 23 0 x4.toNatClampNeg)) 33 0 x1.toNatClampNeg ((ab_su (ab_su (ab_su S 30 0 x1.toNatClampNeg (vp_nar .boolean 1)) 31 0 x1.toNatClampNeg 1) 32 0 x1.toNatClampNeg ((ab_su (ab_su S 30 0 x1.toNatClampNeg (vp_nar .boolean 1)) 31 0 x1.toNatClampNeg 1) 23 0 x4.toNatClampNeg)) 24 0 x4.toNatClampNeg)))) ∧ (¬ 1 = 0 → vp_in x4 336 ∧ vp_in x5 336 ∧ vp_in x6 336 ∧ vp_in x6 336 ∧ Sp_X6_choose [(.inl ((ab_su (ab_su (ab_su S 30 0 x1.toNatClampNeg (vp_nar .boolean 1)) 31 0 x1.toNatClampNeg 1) 32 0 x1.toNatClampNeg ((ab_su (ab_su S 30 0 x1.toNatClampNeg (vp_nar .boolean 1)) 31 0 x1.toNatClampNeg 1) 23 0 x4.toNatClampNeg)) 24 0 x4.toNatClampNeg)), (.inl ((ab_su (ab_su (ab_su S 30 0 x1.toNatClampNeg (vp_nar .boolean 1)) 31 0 x1.toNatClampNeg 1) 32 0 x1.toNatClampNeg ((ab_su (ab_su S 30 0 x1.toNatClampNeg (vp_nar .boolean 1)) 31 0 x1.toNatClampNeg 1) 23 0 x4.toNatClampNeg)) 24 0 x5.toNatClampNeg)), (.inl ((ab_su (ab_su (ab_su S 30 0 x1.toNatClampNeg (vp_nar .boolean 1)) 31 0 x1.toNatClampNeg 1) 32 0 x1.toNatClampNeg ((ab_su (ab_su S 30 0 x1.toNatClampNeg (vp_nar .boolean 1)) 31 0 x1.toNatClampNeg 1) 23 0 x4.toNatClampNeg)) 22 0 x6.toNatClampNeg)), (.inl ((ab_su (ab_su (ab_su S 30 0 x1.toNatClampNeg (vp_nar .boolean 1)) 31 0 x1.toNatClampNeg 1) 32 0 x1.toNatClampNeg ((ab_su (ab_su S 30 0 x1.toNatClampNeg (vp_nar .boolean 1)) 31 0 x1.toNatClampNeg 1) 23 0 x4.toNatClampNeg)) 24 0 x6.toNatClampNeg))] (ab_su (ab_su (ab_su S 30 0 x1.toNatClampNeg (vp_nar .boolean 1)) 31 0 x1.toNatClampNeg 1) 32 0 x1.toNatClampNeg ((ab_su (ab_su S 30 0 x1.toNatClampNeg (vp_nar .boolean 1)) 31 0 x1.toNatClampNeg 1) 23 0 x4.toNatClampNeg)) (ab_back Q G 217 [some (.inr (21, 0)), some (.inl x1), some (.inl x2), some (.inl x3), some (.inl x4), some (.inl x5), some (.inl x6), some (.inl xs0), some (.inl x4), some (.inl 1)] [(.inl x1), (.inr (33, 0))] 0))) ∧ (¬ 1 = 0 → vp_in x4 336 ∧ vp_in x5 336 ∧ vp_in x6 336 ∧ vp_in x6 336 ∧ Sp_X6_choose [(.inl ((ab_su (ab_su S 30 0 x1.toNatClampNeg (vp_nar .boolean 1)) 31 0 x1.toNatClampNeg 1) 23 0 x4.toNatClampNeg)), (.inl ((ab_su (ab_su S 30 0 x1.toNatClampNeg (vp_nar .boolean 1)) 31 0 x1.toNatClampNeg 1) 23 0 x5.toNatClampNeg)), (.inl ((ab_su (ab_su S 30 0 x1.toNatClampNeg (vp_nar .boolean 1)) 31 0 x1.toNatClampNeg 1) 22 0 x6.toNatClampNeg)), (.inl ((ab_su (ab_su S 30 0 x1.toNatClampNeg (vp_nar .boolean 1)) 31 0 x1.toNatClampNeg 1) 23 0 x6.toNatClampNeg))] (ab_su (ab_su S 30 0 x1.toNatClampNeg (vp_nar .boolean 1)) 31 0 x1.toNatClampNeg 1) (ab_back Q G 165 [some (.inr (21, 0)), some (.inl x1), some (.inl x2), some (.inl x3), some (.inl x4), some (.inl x5), some (.inl x6), some (.inl xs0), some (.inl x4), some (.inl 1)] [(.inl x1), (.inr (32, 0))] 0))))))) ∧ (¬ xs0 = 2 → vp_in x1 24 ∧ (xs0 = 0 → Q (.inl none) (ab_su (ab_su S 30 0 x1.toNatClampNeg (vp_nar .boolean 1)) 31 0 x1.toNatClampNeg 0)) ∧ (¬ xs0 = 0 → vp_in x4 336 ∧ (((ab_su (ab_su S 30 0 x1.toNatClampNeg (vp_nar .boolean 1)) 31 0 x1.toNatClampNeg 0) 22 0 x4.toNatClampNeg) = 0 → vp_in x4 336 ∧ (((ab_su (ab_su S 30 0 x1.toNatClampNeg (vp_nar .boolean 1)) 31 0 x1.toNatClampNeg 0) 22 0 x4.toNatClampNeg) = 0 → (0 = 0 → vp_in x5 336 ∧ vp_in x1 24 ∧ (0 = 0 → vp_in x5 336 ∧ vp_in x1 24 ∧ vp_in x1 24 ∧ (((ab_su (ab_su (ab_su (ab_su S 30 0 x1.toNatClampNeg (vp_nar .boolean 1)) 31 0 x1.toNatClampNeg 0) 32 0 x1.toNatClampNeg ((ab_su (ab_su S 30 0 x1.toNatClampNeg (vp_nar .boolean 1)) 31 0 x1.toNatClampNeg 0) 23 0 x5.toNatClampNeg)) 33 0 x1.toNatClampNeg ((ab_su (ab_su (ab_su S 30 0 x1.toNatClampNeg (vp_nar .boolean 1)) 31 0 x1.toNatClampNeg 0) 32 0 x1.toNatClampNeg ((ab_su (ab_su S 30 0 x1.toNatClampNeg (vp_nar .boolean 1)) 31 0 x1.toNatClampNeg 0) 23 0 x5.toNatClampNeg)) 24 0 x5.toNatClampNeg)) 31 0 x1.toNatClampNeg) = 0 → vp_in x1 24 ∧ (((ab_su (ab_su (ab_su (ab_su S 30 0 x1.toNatClampNeg (vp_nar .boolean 1)) 31 0 x1.toNatClampNeg 0) 32 0 x1.toNatClampNeg ((ab_su (ab_su S 30 0 x1.toNatClampNeg (vp_nar .boolean 1)) 31 0 x1.toNatClampNeg 0) 23 0 x5.toNatClampNeg)) 33 0 x1.toNatClampNeg ((ab_su (ab_su (ab_su S 30 0 x1.toNatClampNeg (vp_nar .boolean 1)) 31 0 x1.toNatClampNeg 0) 32 0 x1.toNatClampNeg ((ab_su (ab_su S 30 0 x1.toNatClampNeg (vp_nar .boolean 1)) 31 0 x1.toNatClampNeg 0) 23 0 x5.toNatClampNeg)) 24 0 x5.toNatClampNeg)) 32 0 x1.toNatClampNeg) = (-9) → vp_in x1 24 ∧ Q (.inl none) (ab_su (ab_su (ab_su (ab_su (ab_su S 30 0 x1.toNatClampNeg (vp_nar .boolean 1)) 31 0 x1.toNatClampNeg 0) 32 0 x1.toNatClampNeg ((ab_su (ab_su S 30 0 x1.toNatClampNeg (vp_nar .boolean 1)) 31 0 x1.toNatClampNeg 0) 23 0 x5.toNatClampNeg)) 33 0 x1.toNatClampNeg ((ab_su (ab_su (ab_su S 30 0 x1.toNatClampNeg (vp_nar .boolean 1)) 31 0 x1.toNatClampNeg 0) 32 0 x1.toNatClampNeg ((ab_su (ab_su S 30 0 x1.toNatClampNeg (vp_nar .boolean 1)) 31 0 x1.toNatClampNeg 0) 23 0 x5.toNatClampNeg)) 24 0 x5.toNatClampNeg)) 31 0 x1.toNatClampNeg 2)) ∧ (¬ ((ab_su (ab_su (ab_su (ab_su S 30 0 x1.toNatClampNeg (vp_nar .boolean 1)) 31 0 x1.toNatClampNeg 0) 32 0 x1.toNatClampNeg ((ab_su (ab_su S 30 0 x1.toNatClampNeg (vp_nar .boolean 1)) 31 0 x1.toNatClampNeg 0) 23 0 x5.toNatClampNeg)) 33 0 x1.toNatClampNeg ((ab_su (ab_su (ab_su S 30 0 x1.toNatClampNeg (vp_nar .boolean 1)) 31 0 x1.toNatClampNeg 0) 32 0 x1.toNatClampNeg ((ab_su (ab_su S 30 0 x1.toNatClampNeg (vp_nar .boolean 1)) 31 0 x1.toNatClampNeg 0) 23 0 x5.toNatClampNeg)) 24 0 x5.toNatClampNeg)) 32 0 x1.toNatClampNeg) = (-9) → vp_in x1 24 ∧ (((ab_su (ab_su (ab_su (ab_su S 30 0 x1.toNatClampNeg (vp_nar .boolean 1)) 31 0 x1.toNatClampNeg 0) 32 0 x1.toNatClampNeg ((ab_su (ab_su S 30 0 x1.toNatClampNeg (vp_nar .boolean 1)) 31 0 x1.toNatClampNeg 0) 23 0 x5.toNatClampNeg)) 33 0 x1.toNatClampNeg ((ab_su (ab_su (ab_su S 30 0 x1.toNatClampNeg (vp_nar .boolean 1)) 31 0 x1.toNatClampNeg 0) 32 0 x1.toNatClampNeg ((ab_su (ab_su S 30 0 x1.toNatClampNeg (vp_nar .boolean 1)) 31 0 x1.toNatClampNeg 0) 23 0 x5.toNatClampNeg)) 24 0 x5.toNatClampNeg)) 33 0 x1.toNatClampNeg) = (-9) → vp_in x1 24 ∧ Q (.inl none) (ab_su (ab_su (ab_su (ab_su (ab_su S 30 0 x1.toNatClampNeg (vp_nar .boolean 1)) 31 0 x1.toNatClampNeg 0) 32 0 x1.toNatClampNeg ((ab_su (ab_su S 30 0 x1.toNatClampNeg (vp_nar .boolean 1)) 31 0 x1.toNatClampNeg 0) 23 0 x5.toNatClampNeg)) 33 0 x1.toNatClampNeg ((ab_su (ab_su (ab_su S 30 0 x1.toNatClampNeg (vp_nar .boolean 1)) 31 0 x1.toNatClampNeg 0) 32 0 x1.toNatClampNeg ((ab_su (ab_su S 30 0 x1.toNatClampNeg (vp_nar .boolean 1)) 31 0 x1.toNatClampNeg 0) 23 0 x5.toNatClampNeg)) 24 0 x5.toNatClampNeg)) 31 0 x1.toNatClampNeg 3)) ∧ (¬ ((ab_su (ab_su (ab_su (ab_su S 30 0 x1.toNatClampNeg (vp_nar .boolean 1)) 31 0 x1.toNatClampNeg 0) 32 0 x1.toNatClampNeg ((ab_su (ab_su S 30 0 x1.toNatClampNeg (vp_nar .boolean 1)) 31 0 x1.toNatClampNeg 0) 23 0 x5.toNatClampNeg)) 33 0 x1.toNatClampNeg ((ab_su (ab_su (ab_su S 30 0 x1.toNatClampNeg (vp_nar .boolean 1)) 31 0 x1.toNatClampNeg 0) 32 0 x1.toNatClampNeg ((ab_su (ab_su S 30 0 x1.toNatClampNeg (vp_nar .boolean 1)) 31 0 x1.toNatClampNeg 0) 23 0 x5.toNatClampNeg)) 24 0 x5.toNatClampNeg)) 33 0 x1.toNatClampNeg) = (-9) → vp_in x1 24 ∧ Q (.inl none) (ab_su (ab_su (ab_su (ab_su (ab_su S 30 0 x1.toNatClampNeg (vp_nar .boolean 1)) 31 0 x1.toNatClampNeg 0) 32 0 x1.toNatClampNeg ((ab_su (ab_su S 30 0 x1.toNatClampNeg (vp_nar .boolean 1)) 31 0 x1.toNatClampNeg 0) 23 0 x5.toNatClampNeg)) 33 0 x1.toNatClampNeg ((ab_su (ab_su (ab_su S 30 0 x1.toNatClampNeg (vp_nar .boolean 1)) 31 0 x1.toNatClampNeg 0) 32 0 x1.toNatClampNeg ((ab_su (ab_su S 30 0 x1.toNatClampNeg (vp_nar .boolean 1)) 31 0 x1.toNatClampNeg 0) 23 0 x5.toNatClampNeg)) 24 0 x5.toNatClampNeg)) 31 0 x1.toNatClampNeg 0)))) ∧ (¬ ((ab_su (ab_su (ab_su (ab_su S 30 0 x1.toNatClampNeg (vp_nar .boolean 1)) 31 0 x1.toNatClampNeg 0) 32 0 x1.toNatClampNeg ((ab_su (ab_su S 30 0 x1.toNatClampNeg (vp_nar .boolean 1)) 31 0 x1.toNatClampNeg 0) 23 0 x5.toNatClampNeg)) 33 0 x1.toNatClampNeg ((ab_su (ab_su (ab_su S 30 0 x1.toNatClampNeg (vp_nar .boolean 1)) 31 0 x1.toNatClampNeg 0) 32 0 x1.toNatClampNeg ((ab_su (ab_su S 30 0 x1.toNatClampNeg (vp_nar .boolean 1)) 31 0 x1.toNatClampNeg 0) 23 0 x5.toNatClampNeg)) 24 0 x5.toNatClampNeg)) 31 0 x1.toNatClampNeg) = 0 → Q (.inl none) (ab_su (ab_su (ab_su (ab_su S 30 0 x1.toNatClampNeg (vp_nar .boolean 1)) 31 0 x1.toNatClampNeg 0) 32 0 x1.toNatClampNeg ((ab_su (ab_su S 30 0 x1.toNatClampNeg (vp_nar .boolean 1)) 31 0 x1.toNatClampNeg 0) 23 0 x5.toNatClampNeg)) 33 0 x1.toNatClampNeg ((ab_su (ab_su (ab_su S 30 0 x1.toNatClampNeg (vp_nar .boolean 1)) 31 0 x1.toNatClampNeg 0) 32 0 x1.toNatClampNeg ((ab_su (ab_su S 30 0 x1.toNatClampNeg (vp_nar .boolean 1)) 31 0 x1.toNatClampNeg 0) 23 0 x5.toNatClampNeg)) 24 0 x5.toNatClampNeg)))) ∧ (¬ 0 = 0 → vp_in x4 336 ∧ vp_in x5 336 ∧ vp_in x6 336 ∧ vp_in x6 336 ∧ Sp_X6_choose [(.inl ((ab_su (ab_su (ab_su S 30 0 x1.toNatClampNeg (vp_nar .boolean 1)) 31 0 x1.toNatClampNeg 0) 32 0 x1.toNatClampNeg ((ab_su (ab_su S 30 0 x1.toNatClampNeg (vp_nar .boolean 1)) 31 0 x1.toNatClampNeg 0) 23 0 x5.toNatClampNeg)) 24 0 x4.toNatClampNeg)), (.inl ((ab_su (ab_su (ab_su S 30 0 x1.toNatClampNeg (vp_nar .boolean 1)) 31 0 x1.toNatClampNeg 0) 32 0 x1.toNatClampNeg ((ab_su (ab_su S 30 0 x1.toNatClampNeg (vp_nar .boolean 1)) 31 0 x1.toNatClampNeg 0) 23 0 x5.toNatClampNeg)) 24 0 x5.toNatClampNeg)), (.inl ((ab_su (ab_su (ab_su S 30 0 x1.toNatClampNeg (vp_nar .boolean 1)) 31 0 x1.toNatClampNeg 0) 32 0 x1.toNatClampNeg ((ab_su (ab_su S 30 0 x1.toNatClampNeg (vp_nar .boolean 1)) 31 0 x1.toNatClampNeg 0) 23 0 x5.toNatClampNeg)) 22 0 x6.toNatClampNeg)), (.inl ((ab_su (ab_su (ab_su S 30 0 x1.toNatClampNeg (vp_nar .boolean 1)) 31 0 x1.toNatClampNeg 0) 32 0 x1.toNatClampNeg ((ab_su (ab_su S 30 0 x1.toNatClampNeg (vp_nar .boolean 1)) 31 0 x1.toNatClampNeg 0) 23 0 x5.toNatClampNeg)) 24 0 x6.toNatClampNeg))] (ab_su (ab_su (ab_su S 30 0 x1.toNatClampNeg (vp_nar .boolean 1)) 31 0 x1.toNatClampNeg 0) 32 0 x1.toNatClampNeg ((ab_su (ab_su S 30 0 x1.toNatClampNeg (vp_nar .boolean 1)) 31 0 x1.toNatClampNeg 0) 23 0 x5.toNatClampNeg)) (ab_back Q G 217 [some (.inr (21, 0)), some (.inl x1), some (.inl x2), some (.inl x3), some (.inl x4), some (.inl x5), some (.inl x6), some (.inl xs0), some (.inl x5), some (.inl 0)] [(.inl x1), (.inr (33, 0))] 0))) ∧ (¬ 0 = 0 → vp_in x4 336 ∧ vp_in x5 336 ∧ vp_in x6 336 ∧ vp_in x6 336 ∧ Sp_X6_choose [(.inl ((ab_su (ab_su S 30 0 x1.toNatClampNeg (vp_nar .boolean 1)) 31 0 x1.toNatClampNeg 0) 23 0 x4.toNatClampNeg)), (.inl ((ab_su (ab_su S 30 0 x1.toNatClampNeg (vp_nar .boolean 1)) 31 0 x1.toNatClampNeg 0) 23 0 x5.toNatClampNeg)), (.inl ((ab_su (ab_su S 30 0 x1.toNatClampNeg (vp_nar .boolean 1)) 31 0 x1.toNatClampNeg 0) 22 0 x6.toNatClampNeg)), (.inl ((ab_su (ab_su S 30 0 x1.toNatClampNeg (vp_nar .boolean 1)) 31 0 x1.toNatClampNeg 0) 23 0 x6.toNatClampNeg))] (ab_su (ab_su S 30 0 x1.toNatClampNeg (vp_nar .boolean 1)) 31 0 x1.toNatClampNeg 0) (ab_back Q G 165 [some (.inr (21, 0)), some (.inl x1), some (.inl x2), some (.inl x3), some (.inl x4), some (.inl x5), some (.inl x6), some (.inl xs0), some (.inl x5), some (.inl 0)] [(.inl x1), (.inr (32, 0))] 0))) ∧ (¬ ((ab_su (ab_su S 30 0 x1.toNatClampNeg (vp_nar .boolean 1)) 31 0 x1.toNatClampNeg 0) 22 0 x4.toNatClampNeg) = 0 → vp_in x5 336 ∧ (((ab_su (ab_su S 30 0 x1.toNatClampNeg (vp_nar .boolean 1)) 31 0 x1.toNatClampNeg 0) 22 0 x5.toNatClampNeg) = 0 → (0 = 0 → vp_in x5 336 ∧ vp_in x1 24 ∧ (0 = 0 → vp_in x5 336 ∧ vp_in x1 24 ∧ vp_in x1 24 ∧ (((ab_su (ab_su (ab_su (ab_su S 30 0 x1.toNatClampNeg (vp_nar .boolean 1)) 31 0 x1.toNatClampNeg 0) 32 0 x1.toNatClampNeg ((ab_su (ab_su S 30 0 x1.toNatClampNeg (vp_nar .boolean 1)) 31 0 x1.toNatClampNeg 0) 23 0 x5.toNatClampNeg)) 33 0 x1.toNatClampNeg ((ab_su (ab_su (ab_su S 30 0 x1.toNatClampNeg (vp_nar .boolean 1)) 31 0 x1.toNatClampNeg 0) 32 0 x1.toNatClampNeg ((ab_su (ab_su S 30 0 x1.toNatClampNeg (vp_nar .boolean 1)) 31 0 x1.toNatClampNeg 0) 23 0 x5.toNatClampNeg)) 24 0 x5.toNatClampNeg)) 31 0 x1.toNatClampNeg) = 0 → vp_in x1 24 ∧ (((ab_su (ab_su (ab_su (ab_su S 30 0 x1.toNatClampNeg (vp_nar .boolean 1)) 31 0 x1.toNatClampNeg 0) 32 0 x1.toNatClampNeg ((ab_su (ab_su S 30 0 x1.toNatClampNeg (vp_nar .boolean 1)) 31 0 x1.toNatClampNeg 0) 23 0 x5.toNatClampNeg)) 33 0 x1.toNatClampNeg ((ab_su (ab_su (ab_su S 30 0 x1.toNatClampNeg (vp_nar .boolean 1)) 31 0 x1.toNatClampNeg 0) 32 0 x1.toNatClampNeg ((ab_su (ab_su S 30 0 x1.toNatClampNeg (vp_nar .boolean 1)) 31 0 x1.toNatClampNeg 0) 23 0 x5.toNatClampNeg)) 24 0 x5.toNatClampNeg)) 32 0 x1.toNatClampNeg) = (-9) → vp_in x1 24 ∧ Q (.inl none) (ab_su (ab_su (ab_su (ab_su (ab_su S 30 0 x1.toNatClampNeg (vp_nar .boolean 1)) 31 0 x1.toNatClampNeg 0) 32 0 x1.toNatClampNeg ((ab_su (ab_su S 30 0 x1.toNatClampNeg (vp_nar .boolean 1)) 31 0 x1.toNatClampNeg 0) 23 0 x5.toNatClampNeg)) 33 0 x1.toNatClampNeg ((ab_su (ab_su (ab_su S 30 0 x1.toNatClampNeg (vp_nar .boolean 1)) 31 0 x1.toNatClampNeg 0) 32 0 x1.toNatClampNeg ((ab_su (ab_su S 30 0 x1.toNatClampNeg (vp_nar .boolean 1)) 31 0 x1.toNatClampNeg 0) 23 0 x5.toNatClampNeg)) 24 0 x5.toNatClampNeg)) 31 0 x1.toNatClampNeg 2)) ∧ (¬ ((ab_su (ab_su (ab_su (ab_su S 30 0 x1.toNatClampNeg (vp_nar .boolean 1)) 31 0 x1.toNatClampNeg 0) 32 0 x1.toNatClampNeg ((ab_su (ab_su S 30 0 x1.toNatClampNeg (vp_nar .boolean 1)) 31 0 x1.toNatClampNeg 0) 23 0 x5.toNatClampNeg)) 33 0 x1.toNatClampNeg ((ab_su (ab_su (ab_su S 30 0 x1.toNatClampNeg (vp_nar .boolean 1)) 31 0 x1.toNatClampNeg 0) 32 0 x1.toNatClampNeg ((ab_su (ab_su S 30 0 x1.toNatClampNeg (vp_nar .boolean 1)) 31 0 x1.toNatClampNeg 0) 23 0 x5.toNatClampNeg)) 24 0 x5.toNatClampNeg)) 32 0 x1.toNatClampNeg) = (-9) → vp_in x1 24 ∧ (((ab_su (ab_su (ab_su (ab_su S 30 0 x1.toNatClampNeg (vp_nar .boolean 1)) 31 0 x1.toNatClampNeg 0) 32 0 x1.toNatClampNeg ((ab_su (ab_su S 30 0 x1.toNatClampNeg (vp_nar .boolean 1)) 31 0 x1.toNatClampNeg 0) 23 0 x5.toNatClampNeg)) 33 0 x1.toNatClampNeg ((ab_su (ab_su (ab_su S 30 0 x1.toNatClampNeg (vp_nar .boolean 1)) 31 0 x1.toNatClampNeg 0) 32 0 x1.toNatClampNeg ((ab_su (ab_su S 30 0 x1.toNatClampNeg (vp_nar .boolean 1)) 31 0 x1.toNatClampNeg 0) 23 0 x5.toNatClampNeg)) 24 0 x5.toNatClampNeg)) 33 0 x1.toNatClampNeg) = (-9) → vp_in x1 24 ∧ Q (.inl none) (ab_su (ab_su (ab_su (ab_su (ab_su S 30 0 x1.toNatClampNeg (vp_nar .boolean 1)) 31 0 x1.toNatClampNeg 0) 32 0 x1.toNatClampNeg ((ab_su (ab_su S 30 0 x1.toNatClampNeg (vp_nar .boolean 1)) 31 0 x1.toNatClampNeg 0) 23 0 x5.toNatClampNeg)) 33 0 x1.toNatClampNeg ((ab_su (ab_su (ab_su S 30 0 x1.toNatClampNeg (vp_nar .boolean 1)) 31 0 x1.toNatClampNeg 0) 32 0 x1.toNatClampNeg ((ab_su (ab_su S 30 0 x1.toNatClampNeg (vp_nar .boolean 1)) 31 0 x1.toNatClampNeg 0) 23 0 x5.toNatClampNeg)) 24 0 x5.toNatClampNeg)) 31 0 x1.toNatClampNeg 3)) ∧ (¬ ((ab_su (ab_su (ab_su (ab_su S 30 0 x1.toNatClampNeg (vp_nar .boolean 1)) 31 0 x1.toNatClampNeg 0) 32 0 x1.toNatClampNeg ((ab_su (ab_su S 30 0 x1.toNatClampNeg (vp_nar .boolean 1)) 31 0 x1.toNatClampNeg 0) 23 0 x5.toNatClampNeg)) 33 0 x1.toNatClampNeg ((ab_su (ab_su (ab_su S 30 0 x1.toNatClampNeg (vp_nar .boolean 1)) 31 0 x1.toNatClampNeg 0) 32 0 x1.toNatClampNeg ((ab_su (ab_su S 30 0 x1.toNatClampNeg (vp_nar .boolean 1)) 31 0 x1.toNatClampNeg 0) 23 0 x5.toNatClampNeg)) 24 0 x5.toNatClampNeg)) 33 0 x1.toNatClampNeg) = (-9) → vp_in x1 24 ∧ Q (.inl none) (ab_su (ab_su (ab_su (ab_su (ab_su S 30 0 x1.toNatClampNeg (vp_nar .boolean 1)) 31 0 x1.toNatClampNeg 0) 32 0 x1.toNatClampNeg ((ab_su (ab_su S 30 0 x1.toNatClampNeg (vp_nar .boolean 1)) 31 0 x1.toNatClampNeg 0) 23 0 x5.toNatClampNeg)) 33 0 x1.toNatClampNeg ((ab_su (ab_su (ab_su S 30 0 x1.toNatClampNeg (vp_nar .boolean 1)) 31 0 x1.toNatClampNeg 0) 32 0 x1.toNatClampNeg ((ab_su (ab_su S 30 0 x1.toNatClampNeg (vp_nar .boolean 1)) 31 0 x1.toNatClampNeg 0) 23 0 x5.toNatClampNeg)) 24 0 x5.toNatClampNeg)) 31 0 x1.toNatClampNeg 0)))) ∧ (¬ ((ab_su (ab_su (ab_su (ab_su S 30 0 x1.toNatClampNeg (vp_nar .boolean 1)) 31 0 x1.toNatClampNeg 0) 32 0 x1.toNatClampNeg ((ab_su (ab_su S 30 0 x1.toNatClampNeg (vp_nar .boolean 1)) 31 0 x1.toNatClampNeg 0) 23 0 x5.toNatClampNeg)) 33 0 x1.toNatClampNeg ((ab_su (ab_su (ab_su S 30 0 x1.toNatClampNeg (vp_nar .boolean 1)) 31 0 x1.toNatClampNeg 0) 32 0 x1.toNatClampNeg ((ab_su (ab_su S 30 0 x1.toNatClampNeg (vp_nar .boolean 1)) 31 0 x1.toNatClampNeg 0) 23 0 x5.toNatClampNeg)) 24 0 x5.toNatClampNeg)) 31 0 x1.toNatClampNeg) = 0 → Q (.inl none) (ab_su (ab_su (ab_su (ab_su S 30 0 x1.toNatClampNeg (vp_nar .boolean 1)) 31 0 x1.toNatClampNeg 0) 32 0 x1.toNatClampNeg ((ab_su (ab_su S 30 0 x1.toNatClampNeg (vp_nar .boolean 1)) 31 0 x1.toNatClampNeg 0) 23 0 x5.toNatClampNeg)) 33 0 x1.toNatClampNeg ((ab_su (ab_su (ab_su S 30 0 x1.toNatClampNeg (vp_nar .boolean 1)) 31 0 x1.toNatClampNeg 0) 32 0 x1.toNatClampNeg ((ab_su (ab_su S 30 0 x1.toNatClampNeg (vp_nar .boolean 1)) 31 0 x1.toNatClampNeg 0) 23 0 x5.toNatClampNeg)) 24 0 x5.toNatClampNeg)))) ∧ (¬ 0 = 0 → vp_in x4 336 ∧ vp_in x5 336 ∧ vp_in x6 336 ∧ vp_in x6 336 ∧ Sp_X6_choose [(.inl ((ab_su (ab_su (ab_su S 30 0 x1.toNatClampNeg (vp_nar .boolean 1)) 31 0 x1.toNatClampNeg 0) 32 0 x1.toNatClampNeg ((ab_su (ab_su S 30 0 x1.toNatClampNeg (vp_nar .boolean 1)) 31 0 x1.toNatClampNeg 0) 23 0 x5.toNatClampNeg)) 24 0 x4.toNatClampNeg)), (.inl ((ab_su (ab_su (ab_su S 30 0 x1.toNatClampNeg (vp_nar .boolean 1)) 31 0 x1.toNatClampNeg 0) 32 0 x1.toNatClampNeg ((ab_su (ab_su S 30 0 x1.toNatClampNeg (vp_nar .boolean 1)) 31 0 x1.toNatClampNeg 0) 23 0 x5.toNatClampNeg)) 24 0 x5.toNatClampNeg)), (.inl ((ab_su (ab_su (ab_su S 30 0 x1.toNatClampNeg (vp_nar .boolean 1)) 31 0 x1.toNatClampNeg 0) 32 0 x1.toNatClampNeg ((ab_su (ab_su S 30 0 x1.toNatClampNeg (vp_nar .boolean 1)) 31 0 x1.toNatClampNeg 0) 23 0 x5.toNatClampNeg)) 22 0 x6.toNatClampNeg)), (.inl ((ab_su (ab_su (ab_su S 30 0 x1.toNatClampNeg (vp_nar .boolean 1)) 31 0 x1.toNatClampNeg 0) 32 0 x1.toNatClampNeg ((ab_su (ab_su S 30 0 x1.toNatClampNeg (vp_nar .boolean 1)) 31 0 x1.toNatClampNeg 0) 23 0 x5.toNatClampNeg)) 24 0 x6.toNatClampNeg))] (ab_su (ab_su (ab_su S 30 0 x1.toNatClampNeg (vp_nar .boolean 1)) 31 0 x1.toNatClampNeg 0) 32 0 x1.toNatClampNeg ((ab_su (ab_su S 30 0 x1.toNatClampNeg (vp_nar .boolean 1)) 31 0 x1.toNatClampNeg 0) 23 0 x5.toNatClampNeg)) (ab_back Q G 217 [some (.inr (21, 0)), some (.inl x1), some (.inl x2), some (.inl x3), some (.inl x4), some (.inl x5), some (.inl x6), some (.inl xs0), some (.inl x5), some (.inl 0)] [(.inl x1), (.inr (33, 0))] 0))) ∧ (¬ 0 = 0 → vp_in x4 336 ∧ vp_in x5 336 ∧ vp_in x6 336 ∧ vp_in x6 336 ∧ Sp_X6_choose [(.inl ((ab_su (ab_su S 30 0 x1.toNatClampNeg (vp_nar .boolean 1)) 31 0 x1.toNatClampNeg 0) 23 0 x4.toNatClampNeg)), (.inl ((ab_su (ab_su S 30 0 x1.toNatClampNeg (vp_nar .boolean 1)) 31 0 x1.toNatClampNeg 0) 23 0 x5.toNatClampNeg)), (.inl ((ab_su (ab_su S 30 0 x1.toNatClampNeg (vp_nar .boolean 1)) 31 0 x1.toNatClampNeg 0) 22 0 x6.toNatClampNeg)), (.inl ((ab_su (ab_su S 30 0 x1.toNatClampNeg (vp_nar .boolean 1)) 31 0 x1.toNatClampNeg 0) 23 0 x6.toNatClampNeg))] (ab_su (ab_su S 30 0 x1.toNatClampNeg (vp_nar .boolean 1)) 31 0 x1.toNatClampNeg 0) (ab_back Q G 165 [some (.inr (21, 0)), some (.inl x1), some (.inl x2), some (.inl x3), some (.inl x4), some (.inl x5), some (.inl x6), some (.inl xs0), some (.inl x5), some (.inl 0)] [(.inl x1), (.inr (32, 0))] 0))) ∧ (¬ ((ab_su (ab_su S 30 0 x1.toNatClampNeg (vp_nar .boolean 1)) 31 0 x1.toNatClampNeg 0) 22 0 x5.toNatClampNeg) = 0 → (1 = 0 → vp_in x5 336 ∧ vp_in x1 24 ∧ (1 = 0 → vp_in x5 336 ∧ vp_in x1 24 ∧ vp_in x1 24 ∧ (((ab_su (ab_su (ab_su (ab_su S 30 0 x1.toNatClampNeg (vp_nar .boolean 1)) 31 0 x1.toNatClampNeg 0) 32 0 x1.toNatClampNeg ((ab_su (ab_su S 30 0 x1.toNatClampNeg (vp_nar .boolean 1)) 31 0 x1.toNatClampNeg 0) 23 0 x5.toNatClampNeg)) 33 0 x1.toNatClampNeg ((ab_su (ab_su (ab_su S 30 0 x1.toNatClampNeg (vp_nar .boolean 1)) 31 0 x1.toNatClampNeg 0) 32 0 x1.toNatClampNeg ((ab_su (ab_su S 30 0 x1.toNatClampNeg (vp_nar .boolean 1)) 31 0 x1.toNatClampNeg 0) 23 0 x5.toNatClampNeg)) 24 0 x5.toNatClampNeg)) 31 0 x1.toNatClampNeg) = 0 → vp_in x1 24 ∧ (((ab_su (ab_su (ab_su (ab_su S 30 0 x1.toNatClampNeg (vp_nar .boolean 1)) 31 0 x1.toNatClampNeg 0) 32 0 x1.toNatClampNeg ((ab_su (ab_su S 30 0 x1.toNatClampNeg (vp_nar .boolean 1)) 31 0 x1.toNatClampNeg 0) 23 0 x5.toNatClampNeg)) 33 0 x1.toNatClampNeg ((ab_su (ab_su (ab_su S 30 0 x1.toNatClampNeg (vp_nar .boolean 1)) 31 0 x1.toNatClampNeg 0) 32 0 x1.toNatClampNeg ((ab_su (ab_su S 30 0 x1.toNatClampNeg (vp_nar .boolean 1)) 31 0 x1.toNatClampNeg 0) 23 0 x5.toNatClampNeg)) 24 0 x5.toNatClampNeg)) 32 0 x1.toNatClampNeg) = (-9) → vp_in x1 24 ∧ Q (.inl none) (ab_su (ab_su (ab_su (ab_su (ab_su S 30 0 x1.toNatClampNeg (vp_nar .boolean 1)) 31 0 x1.toNatClampNeg 0) 32 0 x1.toNatClampNeg ((ab_su (ab_su S 30 0 x1.toNatClampNeg (vp_nar .boolean 1)) 31 0 x1.toNatClampNeg 0) 23 0 x5.toNatClampNeg)) 33 0 x1.toNatClampNeg ((ab_su (ab_su (ab_su S 30 0 x1.toNatClampNeg (vp_nar .boolean 1)) 31 0 x1.toNatClampNeg 0) 32 0 x1.toNatClampNeg ((ab_su (ab_su S 30 0 x1.toNatClampNeg (vp_nar .boolean 1)) 31 0 x1.toNatClampNeg 0) 23 0 x5.toNatClampNeg)) 24 0 x5.toNatClampNeg)) 31 0 x1.toNatClampNeg 2)) ∧ (¬ ((ab_su (ab_su (ab_su (ab_su S 30 0 x1.toNatClampNeg (vp_nar .boolean 1)) 31 0 x1.toNatClampNeg 0) 32 0 x1.toNatClampNeg ((ab_su (ab_su S 30 0 x1.toNatClampNeg (vp_nar .boolean 1)) 31 0 x1.toNatClampNeg 0) 23 0 x5.toNatClampNeg)) 33 0 x1.toNatClampNeg ((ab_su (ab_su (ab_su S 30 0 x1.toNatClampNeg (vp_nar .boolean 1)) 31 0 x1.toNatClampNeg 0) 32 0 x1.toNatClampNeg ((ab_su (ab_su S 30 0 x1.toNatClampNeg (vp_nar .boolean 1)) 31 0 x1.toNatClampNeg 0) 23 0 x5.toNatClampNeg)) 24 0 x5.toNatClampNeg)) 32 0 x1.toNatClampNeg) = (-9) → vp_in x1 24 ∧ (((ab_su (ab_su (ab_su (ab_su S 30 0 x1.toNatClampNeg (vp_nar .boolean 1)) 31 0 x1.toNatClampNeg 0) 32 0 x1.toNatClampNeg ((ab_su (ab_su S 30 0 x1.toNatClampNeg (vp_nar .boolean 1)) 31 0 x1.toNatClampNeg 0) 23 0 x5.toNatClampNeg)) 33 0 x1.toNatClampNeg ((ab_su (ab_su (ab_su S 30 0 x1.toNatClampNeg (vp_nar .boolean 1)) 31 0 x1.toNatClampNeg 0) 32 0 x1.toNatClampNeg ((ab_su (ab_su S 30 0 x1.toNatClampNeg (vp_nar .boolean 1)) 31 0 x1.toNatClampNeg 0) 23 0 x5.toNatClampNeg)) 24 0 x5.toNatClampNeg)) 33 0 x1.toNatClampNeg) = (-9) → vp_in x1 24 ∧ Q (.inl none) (ab_su (ab_su (ab_su (ab_su (ab_su S 30 0 x1.toNatClampNeg (vp_nar .boolean 1)) 31 0 x1.toNatClampNeg 0) 32 0 x1.toNatClampNeg ((ab_su (ab_su S 30 0 x1.toNatClampNeg (vp_nar .boolean 1)) 31 0 x1.toNatClampNeg 0) 23 0 x5.toNatClampNeg)) 33 0 x1.toNatClampNeg ((ab_su (ab_su (ab_su S 30 0 x1.toNatClampNeg (vp_nar .boolean 1)) 31 0 x1.toNatClampNeg 0) 32 0 x1.toNatClampNeg ((ab_su (ab_su S 30 0 x1.toNatClampNeg (vp_nar .boolean 1)) 31 0 x1.toNatClampNeg 0) 23 0 x5.toNatClampNeg)) 24 0 x5.toNatClampNeg)) 31 0 x1.toNatClampNeg 3)) ∧ (¬ ((ab_su (ab_su (ab_su (ab_su S 30 0 x1.toNatClampNeg (vp_nar .boolean 1)) 31 0 x1.toNatClampNeg 0) 32 0 x1.toNatClampNeg ((ab_su (ab_su S 30 0 x1.toNatClampNeg (vp_nar .boolean 1)) 31 0 x1.toNatClampNeg 0) 23 0 x5.toNatClampNeg)) 33 0 x1.toNatClampNeg ((ab_su (ab_su (ab_su S 30 0 x1.toNatClampNeg (vp_nar .boolean 1)) 31 0 x1.toNatClampNeg 0) 32 0 x1.toNatClampNeg ((ab_su (ab_su S 30 0 x1.toNatClampNeg (vp_nar .boolean 1)) 31 0 x1.toNatClampNeg 0) 23 0 x5.toNatClampNeg)) 24 0 x5.toNatClampNeg)) 33 0 x1.toNatClampNeg) = (-9) → vp_in x1 24 ∧ Q (.inl none) (ab_su (ab_su (ab_su (ab_su (ab_su S 30 0 x1.toNatClampNeg (vp_nar .boolean 1)) 31 0 x1.toNatClampNeg 0) 32 0 x1.toNatClampNeg ((ab_su (ab_su S 30 0 x1.toNatClampNeg (vp_nar .boolean 1)) 31 0 x1.toNatClampNeg 0) 23 0 x5.toNatClampNeg)) 33 0 x1.toNatClampNeg ((ab_su (ab_su (ab_su S 30 0 x1.toNatClampNeg (vp_nar .boolean 1)) 31 0 x1.toNatClampNeg 0) 32 0 x1.toNatClampNeg ((ab_su (ab_su S 30 0 x1.toNatClampNeg (vp_nar .boolean 1)) 31 0 x1.toNatClampNeg 0) 23 0 x5.toNatClampNeg)) 24 0 x5.toNatClampNeg)) 31 0 x1.toNatClampNeg 0)))) ∧ (¬ ((ab_su (ab_su (ab_su (ab_su S 30 0 x1.toNatClampNeg (vp_nar .boolean 1)) 31 0 x1.toNatClampNeg 0) 32 0 x1.toNatClampNeg ((ab_su (ab_su S 30 0 x1.toNatClampNeg (vp_nar .boolean 1)) 31 0 x1.toNatClampNeg 0) 23 0 x5.toNatClampNeg)) 33 0 x1.toNatClampNeg ((ab_su (ab_su (ab_su S 30 0 x1.toNatClampNeg (vp_nar .boolean 1)) 31 0 x1.toNatClampNeg 0) 32 0 x1.toNatClampNeg ((ab_su (ab_su S 30 0 x1.toNatClampNeg (vp_nar .boolean 1)) 31 0 x1.toNatClampNeg 0) 23 0 x5.toNatClampNeg)) 24 0 x5.toNatClampNeg)) 31 0 x1.toNatClampNeg) = 0 → Q (.inl none) (ab_su (ab_su (ab_su (ab_su S 30 0 x1.toNatClampNeg (vp_nar .boolean 1)) 31 0 x1.toNatClampNeg 0) 32 0 x1.toNatClampNeg ((ab_su (ab_su S 30 0 x1.toNatClampNeg (vp_nar .boolean 1)) 31 0 x1.toNatClampNeg 0) 23 0 x5.toNatClampNeg)) 33 0 x1.toNatClampNeg ((ab_su (ab_su (ab_su S 30 0 x1.toNatClampNeg (vp_nar .boolean 1)) 31 0 x1.toNatClampNeg 0) 32 0 x1.toNatClampNeg ((ab_su (ab_su S 30 0 x1.toNatClampNeg (vp_nar .boolean 1)) 31 0 x1.toNatClampNeg 0) 23 0 x5.toNatClampNeg)) 24 0 x5.toNatClampNeg)))) ∧ (¬ 1 = 0 → vp_in x4 336 ∧ vp_in x5 336 ∧ vp_in x6 336 ∧ vp_in x6 336 ∧ Sp_X6_choose [(.inl ((ab_su (ab_su (ab_su S 30 0 x1.toNatClampNeg (vp_nar .boolean 1)) 31 0 x1.toNatClampNeg 0) 32 0 x1.toNatClampNeg ((ab_su (ab_su S 30 0 x1.toNatClampNeg (vp_nar .boolean 1)) 31 0 x1.toNatClampNeg 0) 23 0 x5.toNatClampNeg)) 24 0 x4.toNatClampNeg)), (.inl ((ab_su (ab_su (ab_su S 30 0 x1.toNatClampNeg (vp_nar .boolean 1)) 31 0 x1.toNatClampNeg 0) 32 0 x1.toNatClampNeg ((ab_su (ab_su S 30 0 x1.toNatClampNeg (vp_nar .boolean 1)) 31 0 x1.toNatClampNeg 0) 23 0 x5.toNatClampNeg)) 24 0 x5.toNatClampNeg)), (.inl ((ab_su (ab_su (ab_su S 30 0 x1.toNatClampNeg (vp_nar .boolean 1)) 31 0 x1.toNatClampNeg 0) 32 0 x1.toNatClampNeg ((ab_su (ab_su S 30 0 x1.toNatClampNeg (vp_nar .boolean 1)) 31 0 x1.toNatClampNeg 0) 23 0 x5.toNatClampNeg)) 22 0 x6.toNatClampNeg)), (.inl ((ab_su (ab_su (ab_su S 30 0 x1.toNatClampNeg (vp_nar .boolean 1)) 31 0 x1.toNatClampNeg 0) 32 0 x1.toNatClampNeg ((ab_su (ab_su S 30 0 x1.toNatClampNeg (vp_nar .boolean 1)) 31 0 x1.toNatClampNeg 0) 23 0 x5.toNatClampNeg)) 24 0 x6.toNatClampNeg))] (ab_su (ab_su (ab_su S 30 0 x1.toNatClampNeg (vp_nar .boolean 1)) 31 0 x1.toNatClampNeg 0) 32 0 x1.toNatClampNeg ((ab_su (ab_su S 30 0 x1.toNatClampNeg (vp_nar .boolean 1)) 31 0 x1.toNatClampNeg 0) 23 0 x5.toNatClampNeg)) (ab_back Q G 217 [some (.inr (21, 0)), some (.inl x1), some (.inl x2), some (.inl x3), some (.inl x4), some (.inl x5), some (.inl x6), some (.inl xs0), some (.inl x5), some (.inl 1)] [(.inl x1), (.inr (33, 0))] 0))) ∧ (¬ 1 = 0 → vp_in x4 336 ∧ vp_in x5 336 ∧ vp_in x6 336 ∧ vp_in x6 336 ∧ Sp_X6_choose [(.inl ((ab_su (ab_su S 30 0 x1.toNatClampNeg (vp_nar .boolean 1)) 31 0 x1.toNatClampNeg 0) 23 0 x4.toNatClampNeg)), (.inl ((ab_su (ab_su S 30 0 x1.toNatClampNeg (vp_nar .boolean 1)) 31 0 x1.toNatClampNeg 0) 23 0 x5.toNatClampNeg)), (.inl ((ab_su (ab_su S 30 0 x1.toNatClampNeg (vp_nar .boolean 1)) 31 0 x1.toNatClampNeg 0) 22 0 x6.toNatClampNeg)), (.inl ((ab_su (ab_su S 30 0 x1.toNatClampNeg (vp_nar .boolean 1)) 31 0 x1.toNatClampNeg 0) 23 0 x6.toNatClampNeg))] (ab_su (ab_su S 30 0 x1.toNatClampNeg (vp_nar .boolean 1)) 31 0 x1.toNatClampNeg 0) (ab_back Q G 165 [some (.inr (21, 0)), some (.inl x1), some (.inl x2), some (.inl x3), some (.inl x4), some (.inl x5), some (.inl x6), some (.inl xs0), some (.inl x5), some (.inl 1)] [(.inl x1), (.inr (32, 0))] 0))))) ∧ (¬ ((ab_su (ab_su S 30 0 x1.toNatClampNeg (vp_nar .boolean 1)) 31 0 x1.toNatClampNeg 0) 22 0 x4.toNatClampNeg) = 0 → vp_in x4 336 ∧ (((ab_su (ab_su S 30 0 x1.toNatClampNeg (vp_nar .boolean 1)) 31 0 x1.toNatClampNeg 0) 22 0 x4.toNatClampNeg) = 0 → (0 = 0 → vp_in x4 336 ∧ vp_in x1 24 ∧ (0 = 0 → vp_in x4 336 ∧ vp_in x1 24 ∧ vp_in x1 24 ∧ (((ab_su (ab_su (ab_su (ab_su S 30 0 x1.toNatClampNeg (vp_nar .boolean 1)) 31 0 x1.toNatClampNeg 0) 32 0 x1.toNatClampNeg ((ab_su (ab_su S 30 0 x1.toNatClampNeg (vp_nar .boolean 1)) 31 0 x1.toNatClampNeg 0) 23 0 x4.toNatClampNeg)) 33 0 x1.toNatClampNeg ((ab_su (ab_su (ab_su S 30 0 x1.toNatClampNeg (vp_nar .boolean 1)) 31 0 x1.toNatClampNeg 0) 32 0 x1.toNatClampNeg ((ab_su (ab_su S 30 0 x1.toNatClampNeg (vp_nar .boolean 1)) 31 0 x1.toNatClampNeg 0) 23 0 x4.toNatClampNeg)) 24 0 x4.toNatClampNeg)) 31 0 x1.toNatClampNeg) = 0 → vp_in x1 24 ∧ (((ab_su (ab_su (ab_su (ab_su S 30 0 x1.toNatClampNeg (vp_nar .boolean 1)) 31 0 x1.toNatClampNeg 0) 32 0 x1.toNatClampNeg ((ab_su (ab_su S 30 0 x1.toNatClampNeg (vp_nar .boolean 1)) 31 0 x1.toNatClampNeg 0) 23 0 x4.toNatClampNeg)) 33 0 x1.toNatClampNeg ((ab_su (ab_su (ab_su S 30 0 x1.toNatClampNeg (vp_nar .boolean 1)) 31 0 x1.toNatClampNeg 0) 32 0 x1.toNatClampNeg ((ab_su (ab_su S 30 0 x1.toNatClampNeg (vp_nar .boolean 1)) 31 0 x1.toNatClampNeg 0) 23 0 x4.toNatClampNeg)) 24 0 x4.toNatClampNeg)) 32 0 x1.toNatClampNeg) = (-9) → vp_in x1 24 ∧ Q (.inl none) (ab_su (ab_su (ab_su (ab_su (ab_su S 30 0 x1.toNatClampNeg (vp_nar .boolean 1)) 31 0 x1.toNatClampNeg 0) 32 0 x1.toNatClampNeg ((ab_su (ab_su S 30 0 x1.toNatClampNeg (vp_nar .boolean 1)) 31 0 x1.toNatClampNeg 0) 23 0 x4.toNatClampNeg)) 33 0 x1.toNatClampNeg ((ab_su (ab_su (ab_su S 30 0 x1.toNatClampNeg (vp_nar .boolean 1)) 31 0 x1.toNatClampNeg 0) 32 0 x1.toNatClampNeg ((ab_su (ab_su S 30 0 x1.toNatClampNeg (vp_nar .boolean 1)) 31 0 x1.toNatClampNeg 0) 23 0 x4.toNatClampNeg)) 24 0 x4.toNatClampNeg)) 31 0 x1.toNatClampNeg 2)) ∧ (¬ ((ab_su (ab_su (ab_su (ab_su S 30 0 x1.toNatClampNeg (vp_nar .boolean 1)) 31 0 x1.toNatClampNeg 0) 32 0 x1.toNatClampNeg ((ab_su (ab_su S 30 0 x1.toNatClampNeg (vp_nar .boolean 1)) 31 0 x1.toNatClampNeg 0) 23 0 x4.toNatClampNeg)) 33 0 x1.toNatClampNeg ((ab_su (ab_su (ab_su S 30 0 x1.toNatClampNeg (vp_nar .boolean 1)) 31 0 x1.toNatClampNeg 0) 32 0 x1.toNatClampNeg ((ab_su (ab_su S 30 0 x1.toNatClampNeg (vp_nar .boolean 1)) 31 0 x1.toNatClampNeg 0) 23 0 x4.toNatClampNeg)) 24 0 x4.toNatClampNeg)) 32 0 x1.toNatClampNeg) = (-9) → vp_in x1 24 ∧ (((ab_su (ab_su (ab_su (ab_su S 30 0 x1.toNatClampNeg (vp_nar .boolean 1)) 31 0 x1.toNatClampNeg 0) 32 0 x1.toNatClampNeg ((ab_su (ab_su S 30 0 x1.toNatClampNeg (vp_nar .boolean 1)) 31 0 x1.toNatClampNeg 0) 23 0 x4.toNatClampNeg)) 33 0 x1.toNatClampNeg ((ab_su (ab_su (ab_su S 30 0 x1.toNatClampNeg (vp_nar .boolean 1)) 31 0 x1.toNatClampNeg 0) 32 0 x1.toNatClampNeg ((ab_su (ab_su S 30 0 x1.toNatClampNeg (vp_nar .boolean 1)) 31 0 x1.toNatClampNeg 0) 23 0 x4.toNatClampNeg)) 24 0 x4.toNatClampNeg)) 33 0 x1.toNatClampNeg) = (-9) → vp_in x1 24 ∧ Q (.inl none) (ab_su (ab_su (ab_su (ab_su (ab_su S 30 0 x1.toNatClampNeg (vp_nar .boolean 1)) 31 0 x1.toNatClampNeg 0) 32 0 x1.toNatClampNeg ((ab_su (ab_su S 30 0 x1.toNatClampNeg (vp_nar .boolean 1)) 31 0 x1.toNatClampNeg 0) 23 0 x4.toNatClampNeg)) 33 0 x1.toNatClampNeg ((ab_su (ab_su (ab_su S 30 0 x1.toNatClampNeg (vp_nar .boolean 1)) 31 0 x1.toNatClampNeg 0) 32 0 x1.toNatClampNeg ((ab_su (ab_su S 30 0 x1.toNatClampNeg (vp_nar .boolean 1)) 31 0 x1.toNatClampNeg 0) 23 0 x4.toNatClampNeg)) 24 0 x4.toNatClampNeg)) 31 0 x1.toNatClampNeg 3)) ∧ (¬ ((ab_su (ab_su (ab_su (ab_su S 30 0 x1.toNatClampNeg (vp_nar .boolean 1)) 31 0 x1.toNatClampNeg 0) 32 0 x1.toNatClampNeg ((ab_su (ab_su S 30 0 x1.toNatClampNeg (vp_nar .boolean 1)) 31 0 x1.toNatClampNeg 0) 23 0 x4.toNatClampNeg)) 33 0 x1.toNatClampNeg ((ab_su (ab_su (ab_su S 30 0 x1.toNatClampNeg (vp_nar .boolean 1)) 31 0 x1.toNatClampNeg 0) 32 0 x1.toNatClampNeg ((ab_su (ab_su S 30 0 x1.toNatClampNeg (vp_nar .boolean 1)) 31 0 x1.toNatClampNeg 0) 23 0 x4.toNatClampNeg)) 24 0 x4.toNatClampNeg)) 33 0 x1.toNatClampNeg) = (-9) → vp_in x1 24 ∧ Q (.inl none) (ab_su (ab_su (ab_su (ab_su (ab_su S 30 0 x1.toNatClampNeg (vp_nar .boolean 1)) 31 0 x1.toNatClampNeg 0) 32 0 x1.toNatClampNeg ((ab_su (ab_su S 30 0 x1.toNatClampNeg (vp_nar .boolean 1)) 31 0 x1.toNatClampNeg 0) 23 0 x4.toNatClampNeg)) 33 0 x1.toNatClampNeg ((ab_su (ab_su (ab_su S 30 0 x1.toNatClampNeg (vp_nar .boolean 1)) 31 0 x1.toNatClampNeg 0) 32 0 x1.toNatClampNeg ((ab_su (ab_su S 30 0 x1.toNatClampNeg (vp_nar .boolean 1)) 31 0 x1.toNatClampNeg 0) 23 0 x4.toNatClampNeg)) 24 0 x4.toNatClampNeg)) 31 0 x1.toNatClampNeg 0)))) ∧ (¬ ((ab_su (ab_su (ab_su (ab_su S 30 0 x1.toNatClampNeg (vp_nar .boolean 1)) 31 0 x1.toNatClampNeg 0) 32 0 x1.toNatClampNeg ((ab_su (ab_su S 30 0 x1.toNatClampNeg (vp_nar .boolean 1)) 31 0 x1.toNatClampNeg 0) 23 0 x4.toNatClampNeg)) 33 0 x1.toNatClampNeg ((ab_su (ab_su (ab_su S 30 0 x1.toNatClampNeg (vp_nar .boolean 1)) 31 0 x1.toNatClampNeg 0) 32 0 x1.toNatClampNeg ((ab_su (ab_su S 30 0 x1.toNatClampNeg (vp_nar .boolean 1)) 31 0 x1.toNatClampNeg 0) 23 0 x4.toNatClampNeg)) 24 0 x4.toNatClampNeg)) 31 0 x1.toNatClampNeg) = 0 → Q (.inl none) (ab_su (ab_su (ab_su (ab_su S 30 0 x1.toNatClampNeg (vp_nar .boolean 1)) 31 0 x1.toNatClampNeg 0) 32 0 x1.toNatClampNeg ((ab_su (ab_su S 30 0 x1.toNatClampNeg (vp_nar .boolean 1)) 31 0 x1.toNatClampNeg 0) 23 0 x4.toNatClampNeg)) 33 0 x1.toNatClampNeg ((ab_su (ab_su (ab_su S 30 0 x1.toNatClampNeg (vp_nar .boolean 1)) 31 0 x1.toNatClampNeg 0) 32 0 x1.toNatClampNeg ((ab_su (ab_su S 30 0 x1.toNatClampNeg (vp_nar .boolean 1)) 31 0 x1.toNatClampNeg 0) 23 0 x4.toNatClampNeg)) 24 0 x4.toNatClampNeg)))) ∧ (¬ 0 = 0 → vp_in x4 336 ∧ vp_in x5 336 ∧ vp_in x6 336 ∧ vp_in x6 336 ∧ Sp_X6_choose [(.inl ((ab_su (ab_su (ab_su S 30 0 x1.toNatClampNeg (vp_nar .boolean 1)) 31 0 x1.toNatClampNeg 0) 32 0 x1.toNatClampNeg ((ab_su (ab_su S 30 0 x1.toNatClampNeg (vp_nar .boolean 1)) 31 0 x1.toNatClampNeg 0) 23 0 x4.toNatClampNeg)) 24 0 x4.toNatClampNeg)), (.inl ((ab_su (ab_su (ab_su S 30 0 x1.toNatClampNeg (vp_nar .boolean 1)) 31 0 x1.toNatClampNeg 0) 32 0 x1.toNatClampNeg ((ab_su (ab_su S 30 0 x1.toNatClampNeg (vp_nar .boolean 1)) 31 0 x1.toNatClampNeg 0) 23 0 x4.toNatClampNeg)) 24 0 x5.toNatClampNeg)), (.inl ((ab_su (ab_su (ab_su S 30 0 x1.toNatClampNeg (vp_nar .boolean 1)) 31 0 x1.toNatClampNeg 0) 32 0 x1.toNatClampNeg ((ab_su (ab_su S 30 0 x1.toNatClampNeg (vp_nar .boolean 1)) 31 0 x1.toNatClampNeg 0) 23 0 x4.toNatClampNeg)) 22 0 x6.toNatClampNeg)), (.inl ((ab_su (ab_su (ab_su S 30 0 x1.toNatClampNeg (vp_nar .boolean 1)) 31 0 x1.toNatClampNeg 0) 32 0 x1.toNatClampNeg ((ab_su (ab_su S 30 0 x1.toNatClampNeg (vp_nar .boolean 1)) 31 0 x1.toNatClampNeg 0) 23 0 x4.toNatClampNeg)) 24 0 x6.toNatClampNeg))] (ab_su (ab_su (ab_su S 30 0 x1.toNatClampNeg (vp_nar .boolean 1)) 31 0 x1.toNatClampNeg 0) 32 0 x1.toNatClampNeg ((ab_su (ab_su S 30 0 x1.toNatClampNeg (vp_nar .boolean 1)) 31 0 x1.toNatClampNeg 0) 23 0 x4.toNatClampNeg)) (ab_back Q G 217 [some (.inr (21, 0)), some (.inl x1), some (.inl x2), some (.inl x3), some (.inl x4), some (.inl x5), some (.inl x6), some (.inl xs0), some (.inl x4), some (.inl 0)] [(.inl x1), (.inr (33, 0))] 0))) ∧ (¬ 0 = 0 → vp_in x4 336 ∧ vp_in x5 336 ∧ vp_in x6 336 ∧ vp_in x6 336 ∧ Sp_X6_choose [(.inl ((ab_su (ab_su S 30 0 x1.toNatClampNeg (vp_nar .boolean 1)) 31 0 x1.toNatClampNeg 0) 23 0 x4.toNatClampNeg)), (.inl ((ab_su (ab_su S 30 0 x1.toNatClampNeg (vp_nar .boolean 1)) 31 0 x1.toNatClampNeg 0) 23 0 x5.toNatClampNeg)), (.inl ((ab_su (ab_su S 30 0 x1.toNatClampNeg (vp_nar .boolean 1)) 31 0 x1.toNatClampNeg 0) 22 0 x6.toNatClampNeg)), (.inl ((ab_su (ab_su S 30 0 x1.toNatClampNeg (vp_nar .boolean 1)) 31 0 x1.toNatClampNeg 0) 23 0 x6.toNatClampNeg))] (ab_su (ab_su S 30 0 x1.toNatClampNeg (vp_nar .boolean 1)) 31 0 x1.toNatClampNeg 0) (ab_back Q G 165 [some (.inr (21, 0)), some (.inl x1), some (.inl x2), some (.inl x3), some (.inl x4), some (.inl x5), some (.inl x6), some (.inl xs0), some (.inl x4), some (.inl 0)] [(.inl x1), (.inr (32, 0))] 0))) ∧ (¬ ((ab_su (ab_su S 30 0 x1.toNatClampNeg (vp_nar .boolean 1)) 31 0 x1.toNatClampNeg 0) 22 0 x4.toNatClampNeg) = 0 → vp_in x5 336 ∧ (((ab_su (ab_su S 30 0 x1.toNatClampNeg (vp_nar .boolean 1)) 31 0 x1.toNatClampNeg 0) 22 0 x5.toNatClampNeg) = 0 → (0 = 0 → vp_in x4 336 ∧ vp_in x1 24 ∧ (0 = 0 → vp_in x4 336 ∧ vp_in x1 24 ∧ vp_in x1 24 ∧ (((ab_su (ab_su (ab_su (ab_su S 30 0 x1.toNatClampNeg (vp_nar .boolean 1)) 31 0 x1.toNatClampNeg 0) 32 0 x1.toNatClampNeg ((ab_su (ab_su S 30 0 x1.toNatClampNeg (vp_nar .boolean 1)) 31 0 x1.toNatClampNeg 0) 23 0 x4.toNatClampNeg)) 33 0 x1.toNatClampNeg ((ab_su (ab_su (ab_su S 30 0 x1.toNatClampNeg (vp_nar .boolean 1)) 31 0 x1.toNatClampNeg 0) 32 0 x1.toNatClampNeg ((ab_su (ab_su S 30 0 x1.toNatClampNeg (vp_nar .boolean 1)) 31 0 x1.toNatClampNeg 0) 23 0 x4.toNatClampNeg)) 24 0 x4.toNatClampNeg)) 31 0 x1.toNatClampNeg) = 0 → vp_in x1 24 ∧ (((ab_su (ab_su (ab_su (ab_su S 30 0 x1.toNatClampNeg (vp_nar .boolean 1)) 31 0 x1.toNatClampNeg 0) 32 0 x1.toNatClampNeg ((ab_su (ab_su S 30 0 x1.toNatClampNeg (vp_nar .boolean 1)) 31 0 x1.toNatClampNeg 0) 23 0 x4.toNatClampNeg)) 33 0 x1.toNatClampNeg ((ab_su (ab_su (ab_su S 30 0 x1.toNatClampNeg (vp_nar .boolean 1)) 31 0 x1.toNatClampNeg 0) 32 0 x1.toNatClampNeg ((ab_su (ab_su S 30 0 x1.toNatClampNeg (vp_nar .boolean 1)) 31 0 x1.toNatClampNeg 0) 23 0 x4.toNatClampNeg)) 24 0 x4.toNatClampNeg)) 32 0 x1.toNatClampNeg) = (-9) → vp_in x1 24 ∧ Q (.inl none) (ab_su (ab_su (ab_su (ab_su (ab_su S 30 0 x1.toNatClampNeg (vp_nar .boolean 1)) 31 0 x1.toNatClampNeg 0) 32 0 x1.toNatClampNeg ((ab_su (ab_su S 30 0 x1.toNatClampNeg (vp_nar .boolean 1)) 31 0 x1.toNatClampNeg 0) 23 0 x4.toNatClampNeg)) 33 0 x1.toNatClampNeg ((ab_su (ab_su (ab_su S 30 0 x1.toNatClampNeg (vp_nar .boolean 1)) 31 0 x1.toNatClampNeg 0) 32 0 x1.toNatClampNeg ((ab_su (ab_su S 30 0 x1.toNatClampNeg (vp_nar .boolean 1)) 31 0 x1.toNatClampNeg 0) 23 0 x4.toNatClampNeg)) 24 0 x4.toNatClampNeg)) 31 0 x1.toNatClampNeg 2)) ∧ (¬ ((ab_su (ab_su (ab_su (ab_su S 30 0 x1.toNatClampNeg (vp_nar .boolean 1)) 31 0 x1.toNatClampNeg 0) 32 0 x1.toNatClampNeg ((ab_su (ab_su S 30 0 x1.toNatClampNeg (vp_nar .boolean 1)) 31 0 x1.toNatClampNeg 0) 23 0 x4.toNatClampNeg)) 33 0 x1.toNatClampNeg ((ab_su (ab_su (ab_su S 30 0 x1.toNatClampNeg (vp_nar .boolean 1)) 31 0 x1.toNatClampNeg 0) 32 0 x1.toNatClampNeg ((ab_su (ab_su S 30 0 x1.toNatClampNeg (vp_nar .boolean 1)) 31 0 x1.toNatClampNeg 0) 23 0 x4.toNatClampNeg)) 24 0 x4.toNatClampNeg)) 32 0 x1.toNatClampNeg) = (-9) → vp_in x1 24 ∧ (((ab_su (ab_su (ab_su (ab_su S 30 0 x1.toNatClampNeg (vp_nar .boolean 1)) 31 0 x1.toNatClampNeg 0) 32 0 x1.toNatClampNeg ((ab_su (ab_su S 30 0 x1.toNatClampNeg (vp_nar .boolean 1)) 31 0 x1.toNatClampNeg 0) 23 0 x4.toNatClampNeg)) 33 0 x1.toNatClampNeg ((ab_su (ab_su (ab_su S 30 0 x1.toNatClampNeg (vp_nar .boolean 1)) 31 0 x1.toNatClampNeg 0) 32 0 x1.toNatClampNeg ((ab_su (ab_su S 30 0 x1.toNatClampNeg (vp_nar .boolean 1)) 31 0 x1.toNatClampNeg 0) 23 0 x4.toNatClampNeg)) 24 0 x4.toNatClampNeg)) 33 0 x1.toNatClampNeg) = (-9) → vp_in x1 24 ∧ Q (.inl none) (ab_su (ab_su (ab_su (ab_su (ab_su S 30 0 x1.toNatClampNeg (vp_nar .boolean 1)) 31 0 x1.toNatClampNeg 0) 32 0 x1.toNatClampNeg ((ab_su (ab_su S 30 0 x1.toNatClampNeg (vp_nar .boolean 1)) 31 0 x1.toNatClampNeg 0) 23 0 x4.toNatClampNeg)) 33 0 x1.toNatClampNeg ((ab_su (ab_su (ab_su S 30 0 x1.toNatClampNeg (vp_nar .boolean 1)) 31 0 x1.toNatClampNeg 0) 32 0 x1.toNatClampNeg ((ab_su (ab_su S 30 0 x1.toNatClampNeg (vp_nar .boolean 1)) 31 0 x1.toNatClampNeg 0) 23 0 x4.toNatClampNeg)) 24 0 x4.toNatClampNeg)) 31 0 x1.toNatClampNeg 3)) ∧ (¬ ((ab_su (ab_su (ab_su (ab_su S 30 0 x1.toNatClampNeg (vp_nar .boolean 1)) 31 0 x1.toNatClampNeg 0) 32 0 x1.toNatClampNeg ((ab_su (ab_su S 30 0 x1.toNatClampNeg (vp_nar .boolean 1)) 31 0 x1.toNatClampNeg 0) 23 0 x4.toNatClampNeg)) 33 0 x1.toNatClampNeg ((ab_su (ab_su (ab_su S 30 0 x1.toNatClampNeg (vp_nar .boolean 1)) 31 0 x1.toNatClampNeg 0) 32 0 x1.toNatClampNeg ((ab_su (ab_su S 30 0 x1.toNatClampNeg (vp_nar .boolean 1)) 31 0 x1.toNatClampNeg 0) 23 0 x4.toNatClampNeg)) 24 0 x4.toNatClampNeg)) 33 0 x1.toNatClampNeg) = (-9) → vp_in x1 24 ∧ Q (.inl none) (ab_su (ab_su (ab_su (ab_su (ab_su S 30 0 x1.toNatClampNeg (vp_nar .boolean 1)) 31 0 x1.toNatClampNeg 0) 32 0 x1.toNatClampNeg ((ab_su (ab_su S 30 0 x1.toNatClampNeg (vp_nar .boolean 1)) 31 0 x1.toNatClampNeg 0) 23 0 x4.toNatClampNeg)) 33 0 x1.toNatClampNeg ((ab_su (ab_su (ab_su S 30 0 x1.toNatClampNeg (vp_nar .boolean 1)) 31 0 x1.toNatClampNeg 0) 32 0 x1.toNatClampNeg ((ab_su (ab_su S 30 0 x1.toNatClampNeg (vp_nar .boolean 1)) 31 0 x1.toNatClampNeg 0) 23 0 x4.toNatClampNeg)) 24 0 x4.toNatClampNeg)) 31 0 x1.toNatClampNeg 0)))) ∧ (¬ ((ab_su (ab_su (ab_su (ab_su S 30 0 x1.toNatClampNeg (vp_nar .boolean 1)) 31 0 x1.toNatClampNeg 0) 32 0 x1.toNatClampNeg ((ab_su (ab_su S 30 0 x1.toNatClampNeg (vp_nar .boolean 1)) 31 0 x1.toNatClampNeg 0) 23 0 x4.toNatClampNeg)) 33 0 x1.toNatClampNeg ((ab_su (ab_su (ab_su S 30 0 x1.toNatClampNeg (vp_nar .boolean 1)) 31 0 x1.toNatClampNeg 0) 32 0 x1.toNatClampNeg ((ab_su (ab_su S 30 0 x1.toNatClampNeg (vp_nar .boolean 1)) 31 0 x1.toNatClampNeg 0) 23 0 x4.toNatClampNeg)) 24 0 x4.toNatClampNeg)) 31 0 x1.toNatClampNeg) = 0 → Q (.inl none) (ab_su (ab_su (ab_su (ab_su S 30 0 x1.toNatClampNeg (vp_nar .boolean 1)) 31 0 x1.toNatClampNeg 0) 32 0 x1.toNatClampNeg ((ab_su (ab_su S 30 0 x1.toNatClampNeg (vp_nar .boolean 1)) 31 0 x1.toNatClampNeg 0) 23 0 x4.toNatClampNeg)) 33 0 x1.toNatClampNeg ((ab_su (ab_su (ab_su S 30 0 x1.toNatClampNeg (vp_nar .boolean 1)) 31 0 x1.toNatClampNeg 0) 32 0 x1.toNatClampNeg ((ab_su (ab_su S 30 0 x1.toNatClampNeg (vp_nar .boolean 1)) 31 0 x1.toNatClampNeg 0) 23 0 x4.toNatClampNeg)) 24 0 x4.toNatClampNeg)))) ∧ (¬ 0 = 0 → vp_in x4 336 ∧ vp_in x5 336 ∧ vp_in x6 336 ∧ vp_in x6 336 ∧ Sp_X6_choose [(.inl ((ab_su (ab_su (ab_su S 30 0 x1.toNatClampNeg (vp_nar .boolean 1)) 31 0 x1.toNatClampNeg 0) 32 0 x1.toNatClampNeg ((ab_su (ab_su S 30 0 x1.toNatClampNeg (vp_nar .boolean 1)) 31 0 x1.toNatClampNeg 0) 23 0 x4.toNatClampNeg)) 24 0 x4.toNatClampNeg)), (.inl ((ab_su (ab_su (ab_su S 30 0 x1.toNatClampNeg (vp_nar .boolean 1)) 31 0 x1.toNatClampNeg 0) 32 0 x1.toNatClampNeg ((ab_su (ab_su S 30 0 x1.toNatClampNeg (vp_nar .boolean 1)) 31 0 x1.toNatClampNeg 0) 23 0 x4.toNatClampNeg)) 24 0 x5.toNatClampNeg)), (.inl ((ab_su (ab_su (ab_su S 30 0 x1.toNatClampNeg (vp_nar .boolean 1)) 31 0 x1.toNatClampNeg 0) 32 0 x1.toNatClampNeg ((ab_su (ab_su S 30 0 x1.toNatClampNeg (vp_nar .boolean 1)) 31 0 x1.toNatClampNeg 0) 23 0 x4.toNatClampNeg)) 22 0 x6.toNatClampNeg)), (.inl ((ab_su (ab_su (ab_su S 30 0 x1.toNatClampNeg (vp_nar .boolean 1)) 31 0 x1.toNatClampNeg 0) 32 0 x1.toNatClampNeg ((ab_su (ab_su S 30 0 x1.toNatClampNeg (vp_nar .boolean 1)) 31 0 x1.toNatClampNeg 0) 23 0 x4.toNatClampNeg)) 24 0 x6.toNatClampNeg))] (ab_su (ab_su (ab_su S 30 0 x1.toNatClampNeg (vp_nar .boolean 1)) 31 0 x1.toNatClampNeg 0) 32 0 x1.toNatClampNeg ((ab_su (ab_su S 30 0 x1.toNatClampNeg (vp_nar .boolean 1)) 31 0 x1.toNatClampNeg 0) 23 0 x4.toNatClampNeg)) (ab_back Q G 217 [some (.inr (21, 0)), some (.inl x1), some (.inl x2), some (.inl x3), some (.inl x4), some (.inl x5), some (.inl x6), some (.inl xs0), some (.inl x4), some (.inl 0)] [(.inl x1), (.inr (33, 0))] 0))) ∧ (¬ 0 = 0 → vp_in x4 336 ∧ vp_in x5 336 ∧ vp_in x6 336 ∧ vp_in x6 336 ∧ Sp_X6_choose [(.inl ((ab_su (ab_su S 30 0 x1.toNatClampNeg (vp_nar .boolean 1)) 31 0 x1.toNatClampNeg 0) 23 0 x4.toNatClampNeg)), (.inl ((ab_su (ab_su S 30 0 x1.toNatClampNeg (vp_nar .boolean 1)) 31 0 x1.toNatClampNeg 0) 23 0 x5.toNatClampNeg)), (.inl ((ab_su (ab_su S 30 0 x1.toNatClampNeg (vp_nar .boolean 1)) 31 0 x1.toNatClampNeg 0) 22 0 x6.toNatClampNeg)), (.inl ((ab_su (ab_su S 30 0 x1.toNatClampNeg (vp_nar .boolean 1)) 31 0 x1.toNatClampNeg 0) 23 0 x6.toNatClampNeg))] (ab_su (ab_su S 30 0 x1.toNatClampNeg (vp_nar .boolean 1)) 31 0 x1.toNatClampNeg 0) (ab_back Q G 165 [some (.inr (21, 0)), some (.inl x1), some (.inl x2), some (.inl x3), some (.inl x4), some (.inl x5), some (.inl x6), some (.inl xs0), some (.inl x4), some (.inl 0)] [(.inl x1), (.inr (32, 0))] 0))) ∧ (¬ ((ab_su (ab_su S 30 0 x1.toNatClampNeg (vp_nar .boolean 1)) 31 0 x1.toNatClampNeg 0) 22 0 x5.toNatClampNeg) = 0 → (1 = 0 → vp_in x4 336 ∧ vp_in x1 24 ∧ (1 = 0 → vp_in x4 336 ∧ vp_in x1 24 ∧ vp_in x1 24 ∧ (((ab_su (ab_su (ab_su (ab_su S 30 0 x1.toNatClampNeg (vp_nar .boolean 1)) 31 0 x1.toNatClampNeg 0) 32 0 x1.toNatClampNeg ((ab_su (ab_su S 30 0 x1.toNatClampNeg (vp_nar .boolean 1)) 31 0 x1.toNatClampNeg 0) 23 0 x4.toNatClampNeg)) 33 0 x1.toNatClampNeg ((ab_su (ab_su (ab_su S 30 0 x1.toNatClampNeg (vp_nar .boolean 1)) 31 0 x1.toNatClampNeg 0) 32 0 x1.toNatClampNeg ((ab_su (ab_su S 30 0 x1.toNatClampNeg (vp_nar .boolean 1)) 31 0 x1.toNatClampNeg 0) 23 0 x4.toNatClampNeg)) 24 0 x4.toNatClampNeg)) 31 0 x1.toNatClampNeg) = 0 → vp_in x1 24 ∧ (((ab_su (ab_su (ab_su (ab_su S 30 0 x1.toNatClampNeg (vp_nar .boolean 1)) 31 0 x1.toNatClampNeg 0) 32 0 x1.toNatClampNeg ((ab_su (ab_su S 30 0 x1.toNatClampNeg (vp_nar .boolean 1)) 31 0 x1.toNatClampNeg 0) 23 0 x4.toNatClampNeg)) 33 0 x1.toNatClampNeg ((ab_su (ab_su (ab_su S 30 0 x1.toNatClampNeg (vp_nar .boolean 1)) 31 0 x1.toNatClampNeg 0) 32 0 x1.toNatClampNeg ((ab_su (ab_su S 30 0 x1.toNatClampNeg (vp_nar .boolean 1)) 31 0 x1.toNatClampNeg 0) 23 0 x4.toNatClampNeg)) 24 0 x4.toNatClampNeg)) 32 0 x1.toNatClampNeg) = (-9) → vp_in x1 24 ∧ Q (.inl none) (ab_su (ab_su (ab_su (ab_su (ab_su S 30 0 x1.toNatClampNeg (vp_nar .boolean 1)) 31 0 x1.toNatClampNeg 0) 32 0 x1.toNatClampNeg ((ab_su (ab_su S 30 0 x1.toNatClampNeg (vp_nar .boolean 1)) 31 0 x1.toNatClampNeg 0) 23 0 x4.toNatClampNeg)) 33 0 x1.toNatClampNeg ((ab_su (ab_su (ab_su S 30 0 x1.toNatClampNeg (vp_nar .boolean 1)) 31 0 x1.toNatClampNeg 0) 32 0 x1.toNatClampNeg ((ab_su (ab_su S 30 0 x1.toNatClampNeg (vp_nar .boolean 1)) 31 0 x1.toNatClampNeg 0) 23 0 x4.toNatClampNeg)) 24 0 x4.toNatClampNeg)) 31 0 x1.toNatClampNeg 2)) ∧ (¬ ((ab_su (ab_su (ab_su (ab_su S 30 0 x1.toNatClampNeg (vp_nar .boolean 1)) 31 0 x1.toNatClampNeg 0) 32 0 x1.toNatClampNeg ((ab_su (ab_su S 30 0 x1.toNatClampNeg (vp_nar .boolean 1)) 31 0 x1.toNatClampNeg 0) 23 0 x4.toNatClampNeg)) 33 0 x1.toNatClampNeg ((ab_su (ab_su (ab_su S 30 0 x1.toNatClampNeg (vp_nar .boolean 1)) 31 0 x1.toNatClampNeg 0) 32 0 x1.toNatClampNeg ((ab_su (ab_su S 30 0 x1.toNatClampNeg (vp_nar .boolean 1)) 31 0 x1.toNatClampNeg 0) 23 0 x4.toNatClampNeg)) 24 0 x4.toNatClampNeg)) 32 0 x1.toNatClampNeg) = (-9) → vp_in x1 24 ∧ (((ab_su (ab_su (ab_su (ab_su S 30 0 x1.toNatClampNeg (vp_nar .boolean 1)) 31 0 x1.toNatClampNeg 0) 32 0 x1.toNatClampNeg ((ab_su (ab_su S 30 0 x1.toNatClampNeg (vp_nar .boolean 1)) 31 0 x1.toNatClampNeg 0) 23 0 x4.toNatClampNeg)) 33 0 x1.toNatClampNeg ((ab_su (ab_su (ab_su S 30 0 x1.toNatClampNeg (vp_nar .boolean 1)) 31 0 x1.toNatClampNeg 0) 32 0 x1.toNatClampNeg ((ab_su (ab_su S 30 0 x1.toNatClampNeg (vp_nar .boolean 1)) 31 0 x1.toNatClampNeg 0) 23 0 x4.toNatClampNeg)) 24 0 x4.toNatClampNeg)) 33 0 x1.toNatClampNeg) = (-9) → vp_in x1 24 ∧ Q (.inl none) (ab_su (ab_su (ab_su (ab_su (ab_su S 30 0 x1.toNatClampNeg (vp_nar .boolean 1)) 31 0 x1.toNatClampNeg 0) 32 0 x1.toNatClampNeg ((ab_su (ab_su S 30 0 x1.toNatClampNeg (vp_nar .boolean 1)) 31 0 x1.toNatClampNeg 0) 23 0 x4.toNatClampNeg)) 33 0 x1.toNatClampNeg ((ab_su (ab_su (ab_su S 30 0 x1.toNatClampNeg (vp_nar .boolean 1)) 31 0 x1.toNatClampNeg 0) 32 0 x1.toNatClampNeg ((ab_su (ab_su S 30 0 x1.toNatClampNeg (vp_nar .boolean 1)) 31 0 x1.toNatClampNeg 0) 23 0 x4.toNatClampNeg)) 24 0 x4.toNatClampNeg)) 31 0 x1.toNatClampNeg 3)) ∧ (¬ ((ab_su (ab_su (ab_su (ab_su S 30 0 x1.toNatClampNeg (vp_nar .boolean 1)) 31 0 x1.toNatClampNeg 0) 32 0 x1.toNatClampNeg ((ab_su (ab_su S 30 0 x1.toNatClampNeg (vp_nar .boolean 1)) 31 0 x1.toNatClampNeg 0) 23 0 x4.toNatClampNeg)) 33 0 x1.toNatClampNeg ((ab_su (ab_su (ab_su S 30 0 x1.toNatClampNeg (vp_nar .boolean 1)) 31 0 x1.toNatClampNeg 0) 32 0 x1.toNatClampNeg ((ab_su (ab_su S 30 0 x1.toNatClampNeg (vp_nar .boolean 1)) 31 0 x1.toNatClampNeg 0) 23 0 x4.toNatClampNeg)) 24 0 x4.toNatClampNeg)) 33 0 x1.toNatClampNeg) = (-9) → vp_in x1 24 ∧ Q (.inl none) (ab_su (ab_su (ab_su (ab_su (ab_su S 30 0 x1.toNatClampNeg (vp_nar .boolean 1)) 31 0 x1.toNatClampNeg 0) 32 0 x1.toNatClampNeg ((ab_su (ab_su S 30 0 x1.toNatClampNeg (vp_nar .boolean 1)) 31 0 x1.toNatClampNeg 0) 23 0 x4.toNatClampNeg)) 33 0 x1.toNatClampNeg ((ab_su (ab_su (ab_su S 30 0 x1.toNatClampNeg (vp_nar .boolean 1)) 31 0 x1.toNatClampNeg 0) 32 0 x1.toNatClampNeg ((ab_su (ab_su S 30 0 x1.toNatClampNeg (vp_nar .boolean 1)) 31 0 x1.toNatClampNeg 0) 23 0 x4.toNatClampNeg)) 24 0 x4.toNatClampNeg)) 31 0 x1.toNatClampNeg 0)))) ∧ (¬ ((ab_su (ab_su (ab_su (ab_su S 30 0 x1.toNatClampNeg (vp_nar .boolean 1)) 31 0 x1.toNatClampNeg 0) 32 0 x1.toNatClampNeg ((ab_su (ab_su S 30 0 x1.toNatClampNeg (vp_nar .boolean 1)) 31 0 x1.toNatClampNeg 0) 23 0 x4.toNatClampNeg)) 33 0 x1.toNatClampNeg ((ab_su (ab_su (ab_su S 30 0 x1.toNatClampNeg (vp_nar .boolean 1)) 31 0 x1.toNatClampNeg 0) 32 0 x1.toNatClampNeg ((ab_su (ab_su S 30 0 x1.toNatClampNeg (vp_nar .boolean 1)) 31 0 x1.toNatClampNeg 0) 23 0 x4.toNatClampNeg)) 24 0 x4.toNatClampNeg)) 31 0 x1.toNatClampNeg) = 0 → Q (.inl none) (ab_su (ab_su (ab_su (ab_su S 30 0 x1.toNatClampNeg (vp_nar .boolean 1)) 31 0 x1.toNatClampNeg 0) 32 0 x1.toNatClampNeg ((ab_su (ab_su S 30 0 x1.toNatClampNeg (vp_nar .boolean 1)) 31 0 x1.toNatClampNeg 0) 23 0 x4.toNatClampNeg)) 33 0 x1.toNatClampNeg ((ab_su (ab_su (ab_su S 30 0 x1.toNatClampNeg (vp_nar .boolean 1)) 31 0 x1.toNatClampNeg 0) 32 0 x1.toNatClampNeg ((ab_su (ab_su S 30 0 x1.toNatClampNeg (vp_nar .boolean 1)) 31 0 x1.toNatClampNeg 0) 23 0 x4.toNatClampNeg)) 24 0 x4.toNatClampNeg)))) ∧ (¬ 1 = 0 → vp_in x4 336 ∧ vp_in x5 336 ∧ vp_in x6 336 ∧ vp_in x6 336 ∧ Sp_X6_choose [(.inl ((ab_su (ab_su (ab_su S 30 0 x1.toNatClampNeg (vp_nar .boolean 1)) 31 0 x1.toNatClampNeg 0) 32 0 x1.toNatClampNeg ((ab_su (ab_su S 30 0 x1.toNatClampNeg (vp_nar .boolean 1)) 31 0 x1.toNatClampNeg 0) 23 0 x4.toNatClampNeg)) 24 0 x4.toNatClampNeg)), (.inl ((ab_su (ab_su (ab_su S 30 0 x1.toNatClampNeg (vp_nar .boolean 1)) 31 0 x1.toNatClampNeg 0) 32 0 x1.toNatClampNeg ((ab_su (ab_su S 30 0 x1.toNatClampNeg (vp_nar .boolean 1)) 31 0 x1.toNatClampNeg 0) 23 0 x4.toNatClampNeg)) 24 0 x5.toNatClampNeg)), (.inl ((ab_su (ab_su (ab_su S 30 0 x1.toNatClampNeg (vp_nar .boolean 1)) 31 0 x1.toNatClampNeg 0) 32 0 x1.toNatClampNeg ((ab_su (ab_su S 30 0 x1.toNatClampNeg (vp_nar .boolean 1)) 31 0 x1.toNatClampNeg 0) 23 0 x4.toNatClampNeg)) 22 0 x6.toNatClampNeg)), (.inl ((ab_su (ab_su (ab_su S 30 0 x1.toNatClampNeg (vp_nar .boolean 1)) 31 0 x1.toNatClampNeg 0) 32 0 x1.toNatClampNeg ((ab_su (ab_su S 30 0 x1.toNatClampNeg (vp_nar .boolean 1)) 31 0 x1.toNatClampNeg 0) 23 0 x4.toNatClampNeg)) 24 0 x6.toNatClampNeg))] (ab_su (ab_su (ab_su S 30 0 x1.toNatClampNeg (vp_nar .boolean 1)) 31 0 x1.toNatClampNeg 0) 32 0 x1.toNatClampNeg ((ab_su (ab_su S 30 0 x1.toNatClampNeg (vp_nar .boolean 1)) 31 0 x1.toNatClampNeg 0) 23 0 x4.toNatClampNeg)) (ab_back Q G 217 [some (.inr (21, 0)), some (.inl x1), some (.inl x2), some (.inl x3), some (.inl x4), some (.inl x5), some (.inl x6), some (.inl xs0), some (.inl x4), some (.inl 1)] [(.inl x1), (.inr (33, 0))] 0))) ∧ (¬ 1 = 0 → vp_in x4 336 ∧ vp_in x5 336 ∧ vp_in x6 336 ∧ vp_in x6 336 ∧ Sp_X6_choose [(.inl ((ab_su (ab_su S 30 0 x1.toNatClampNeg (vp_nar .boolean 1)) 31 0 x1.toNatClampNeg 0) 23 0 x4.toNatClampNeg)), (.inl ((ab_su (ab_su S 30 0 x1.toNatClampNeg (vp_nar .boolean 1)) 31 0 x1.toNatClampNeg 0) 23 0 x5.toNatClampNeg)), (.inl ((ab_su (ab_su S 30 0 x1.toNatClampNeg (vp_nar .boolean 1)) 31 0 x1.toNatClampNeg 0) 22 0 x6.toNatClampNeg)), (.inl ((ab_su (ab_su S 30 0 x1.toNatClampNeg (vp_nar .boolean 1)) 31 0 x1.toNatClampNeg 0) 23 0 x6.toNatClampNeg))] (ab_su (ab_su S 30 0 x1.toNatClampNeg (vp_nar .boolean 1)) 31 0 x1.toNatClampNeg 0) (ab_back Q G 165 [some (.inr (21, 0)), some (.inl x1), some (.inl x2), some (.inl x3), some (.inl x4), some (.inl x5), some (.inl x6), some (.inl xs0), some (.inl x4), some (.inl 1)] [(.inl x1), (.inr (32, 0))] 0))))))))) : G 37 [some (.inr (21, 0)), some (.inl x1), some (.inl x2), some (.inl x3), some (.inl x4), some (.inl x5), some (.inl x6), none, none, none] [(.inl xs0)] S 0 := by
  refine ab_istore' hG 37 _ _ _ _ 7 _ dX6_meet_37 (by decide) ?_
  refine ab_aload_n' hG 39 _ _ _ _ 0 _ dX6_meet_39 rfl ?_
  refine ab_gR hG 40 _ _ _ _ 45 21 14 0 (30, 0) dX6_meet_40 (List.Mem.tail _ (List.Mem.head _)) rfl ?_
  refine ab_iload_n' hG 43 _ _ _ _ 1 _ dX6_meet_43 rfl ?_
  refine ab_iload' hG 44 _ _ _ _ 7 _ dX6_meet_44 rfl ?_
  refine ab_if_le' hG 46 _ _ _ _ (7) 53 _ dX6_meet_46 (by decide) (fun hc => ?_) (fun hc => ?_)
  · have h := h.1 hc
    refine ab_iconst' hG 53 _ _ _ _ 0 0 dX6_meet_53 (by decide) ?_
    refine ab_bastore' hG 54 _ _ _ _ 30 0 24 _ _ dX6_meet_54 rfl h.1 ?_
    have h := h.2
    refine ab_aload_n' hG 55 _ _ _ _ 0 _ dX6_meet_55 rfl ?_
    refine ab_gR hG 56 _ _ _ _ 48 21 15 0 (31, 0) dX6_meet_56 (List.Mem.tail _ (List.Mem.tail _ (List.Mem.head _))) rfl ?_
    refine ab_iload_n' hG 59 _ _ _ _ 1 _ dX6_meet_59 rfl ?_
    refine ab_iload' hG 60 _ _ _ _ 7 _ dX6_meet_60 rfl ?_
    refine ab_iconst' hG 62 _ _ _ _ 2 2 dX6_meet_62 (by decide) ?_
    refine ab_icmp_ne' hG 63 _ _ _ _ (7) 70 _ _ dX6_meet_63 (by decide) (fun hc => ?_) (fun hc => ?_)
    · have h := h.2 hc
      refine ab_iconst' hG 70 _ _ _ _ 0 0 dX6_meet_70 (by decide) ?_
      refine ab_iastore' hG 71 _ _ _ _ 31 0 24 _ _ dX6_meet_71 rfl h.1 ?_
      have h := h.2
      refine ab_iload' hG 72 _ _ _ _ 7 _ dX6_meet_72 rfl ?_
      refine ab_if_ne' hG 74 _ _ _ _ (4) 78 _ dX6_meet_74 (by decide) (fun hc => ?_) (fun hc => ?_)
      · have h := h.2 hc
        refine ab_aload_n' hG 78 _ _ _ _ 0 _ dX6_meet_78 rfl ?_
        refine ab_gR hG 79 _ _ _ _ 7 21 1 0 (22, 0) dX6_meet_79 (List.Mem.tail _ (List.Mem.tail _ (List.Mem.tail _ (List.Mem.head _)))) rfl ?_
        refine ab_iload' hG 82 _ _ _ _ 4 _ dX6_meet_82 rfl ?_
        refine ab_baload' hG 84 _ _ _ _ 22 0 336 _ dX6_meet_84 rfl h.1 ?_
        have h := h.2
        refine ab_if_eq' hG 85 _ _ _ _ (8) 93 _ dX6_meet_85 (by decide) (fun hc => ?_) (fun hc => ?_)
        · have h := h.1 hc
          refine ab_iload' hG 93 _ _ _ _ 5 _ dX6_meet_93 rfl ?_
          refine ab_istore' hG 95 _ _ _ _ 8 _ dX6_meet_95 (by decide) ?_
          refine ab_aload_n' hG 97 _ _ _ _ 0 _ dX6_meet_97 rfl ?_
          refine ab_gR hG 98 _ _ _ _ 7 21 1 0 (22, 0) dX6_meet_98 (List.Mem.tail _ (List.Mem.tail _ (List.Mem.tail _ (List.Mem.head _)))) rfl ?_
          refine ab_iload' hG 101 _ _ _ _ 4 _ dX6_meet_101 rfl ?_
          refine ab_baload' hG 103 _ _ _ _ 22 0 336 _ dX6_meet_103 rfl h.1 ?_
          have h := h.2
          refine ab_if_eq' hG 104 _ _ _ _ (17) 121 _ dX6_meet_104 (by decide) (fun hc => ?_) (fun hc => ?_)
          · have h := h.1 hc
            refine ab_iconst' hG 121 _ _ _ _ 0 0 dX6_meet_121 (by decide) ?_
            refine ab_istore' hG 122 _ _ _ _ 9 _ dX6_meet_122 (by decide) ?_
            refine ab_aload_n' hG 124 _ _ _ _ 0 _ dX6_meet_124 rfl ?_
            refine ab_gR hG 125 _ _ _ _ 51 21 16 0 (32, 0) dX6_meet_125 (List.Mem.tail _ (List.Mem.tail _ (List.Mem.tail _ (List.Mem.tail _ (List.Mem.head _))))) rfl ?_
            refine ab_iload_n' hG 128 _ _ _ _ 1 _ dX6_meet_128 rfl ?_
            refine ab_iload' hG 129 _ _ _ _ 9 _ dX6_meet_129 rfl ?_
            refine ab_if_eq' hG 131 _ _ _ _ (37) 168 _ dX6_meet_131 (by decide) (fun hc => ?_) (fun hc => ?_)
            · have h := h.1 hc
              refine ab_aload_n' hG 168 _ _ _ _ 0 _ dX6_meet_168 rfl ?_
              refine ab_gR hG 169 _ _ _ _ 13 21 2 0 (23, 0) dX6_meet_169 (List.Mem.tail _ (List.Mem.tail _ (List.Mem.tail _ (List.Mem.tail _ (List.Mem.tail _ (List.Mem.head _)))))) rfl ?_
              refine ab_iload' hG 172 _ _ _ _ 8 _ dX6_meet_172 rfl ?_
              refine ab_iaload' hG 174 _ _ _ _ 23 0 336 _ dX6_meet_174 rfl h.1 ?_
              have h := h.2
              refine ab_iastore' hG 175 _ _ _ _ 32 0 24 _ _ dX6_meet_175 rfl h.1 ?_
              have h := h.2
              refine ab_aload_n' hG 176 _ _ _ _ 0 _ dX6_meet_176 rfl ?_
              refine ab_gR hG 177 _ _ _ _ 54 21 17 0 (33, 0) dX6_meet_177 (List.Mem.tail _ (List.Mem.tail _ (List.Mem.tail _ (List.Mem.tail _ (List.Mem.tail _ (List.Mem.tail _ (List.Mem.head _))))))) rfl ?_
              refine ab_iload_n' hG 180 _ _ _ _ 1 _ dX6_meet_180 rfl ?_
              refine ab_iload' hG 181 _ _ _ _ 9 _ dX6_meet_181 rfl ?_
              refine ab_if_eq' hG 183 _ _ _ _ (37) 220 _ dX6_meet_183 (by decide) (fun hc => ?_) (fun hc => ?_)
              · have h := h.1 hc
                refine ab_aload_n' hG 220 _ _ _ _ 0 _ dX6_meet_220 rfl ?_
                refine ab_gR hG 221 _ _ _ _ 17 21 3 0 (24, 0) dX6_meet_221 (List.Mem.tail _ (List.Mem.tail _ (List.Mem.tail _ (List.Mem.tail _ (List.Mem.tail _ (List.Mem.tail _ (List.Mem.tail _ (List.Mem.head _)))))))) rfl ?_
                refine ab_iload' hG 224 _ _ _ _ 8 _ dX6_meet_224 rfl ?_
                refine ab_iaload' hG 226 _ _ _ _ 24 0 336 _ dX6_meet_226 rfl h.1 ?_
                have h := h.2
                refine ab_iastore' hG 227 _ _ _ _ 33 0 24 _ _ dX6_meet_227 rfl h.1 ?_
                have h := h.2
                refine ab_aload_n' hG 228 _ _ _ _ 0 _ dX6_meet_228 rfl ?_
                refine ab_gR hG 229 _ _ _ _ 48 21 15 0 (31, 0) dX6_meet_229 (List.Mem.tail _ (List.Mem.tail _ (List.Mem.head _))) rfl ?_
                refine ab_iload_n' hG 232 _ _ _ _ 1 _ dX6_meet_232 rfl ?_
                refine ab_iaload' hG 233 _ _ _ _ 31 0 24 _ dX6_meet_233 rfl h.1 ?_
                have h := h.2
                refine ab_if_ne' hG 234 _ _ _ _ (40) 274 _ dX6_meet_234 (by decide) (fun hc => ?_) (fun hc => ?_)
                · have h := h.2 hc
                  exact ab_return_' hG 274 _ _ _ dX6_meet_274 rfl (by decide) h
                · have h := h.1 hc
                  refine ab_aload_n' hG 237 _ _ _ _ 0 _ dX6_meet_237 rfl ?_
                  refine ab_gR hG 238 _ _ _ _ 48 21 15 0 (31, 0) dX6_meet_238 (List.Mem.tail _ (List.Mem.tail _ (List.Mem.head _))) rfl ?_
                  refine ab_iload_n' hG 241 _ _ _ _ 1 _ dX6_meet_241 rfl ?_
                  refine ab_aload_n' hG 242 _ _ _ _ 0 _ dX6_meet_242 rfl ?_
                  refine ab_gR hG 243 _ _ _ _ 51 21 16 0 (32, 0) dX6_meet_243 (List.Mem.tail _ (List.Mem.tail _ (List.Mem.tail _ (List.Mem.tail _ (List.Mem.head _))))) rfl ?_
                  refine ab_iload_n' hG 246 _ _ _ _ 1 _ dX6_meet_246 rfl ?_
                  refine ab_iaload' hG 247 _ _ _ _ 32 0 24 _ dX6_meet_247 rfl h.1 ?_
                  have h := h.2
                  refine ab_bipush' hG 248 _ _ _ _ (-9) (-9) dX6_meet_248 (by decide) ?_
                  refine ab_icmp_ne' hG 250 _ _ _ _ (7) 257 _ _ dX6_meet_250 (by decide) (fun hc => ?_) (fun hc => ?_)
                  · have h := h.2 hc
                    refine ab_aload_n' hG 257 _ _ _ _ 0 _ dX6_meet_257 rfl ?_
                    refine ab_gR hG 258 _ _ _ _ 54 21 17 0 (33, 0) dX6_meet_258 (List.Mem.tail _ (List.Mem.tail _ (List.Mem.tail _ (List.Mem.tail _ (List.Mem.tail _ (List.Mem.tail _ (List.Mem.head _))))))) rfl ?_
                    refine ab_iload_n' hG 261 _ _ _ _ 1 _ dX6_meet_261 rfl ?_
                    refine ab_iaload' hG 262 _ _ _ _ 33 0 24 _ dX6_meet_262 rfl h.1 ?_
                    have h := h.2
                    refine ab_bipush' hG 263 _ _ _ _ (-9) (-9) dX6_meet_263 (by decide) ?_
                    refine ab_icmp_ne' hG 265 _ _ _ _ (7) 272 _ _ dX6_meet_265 (by decide) (fun hc => ?_) (fun hc => ?_)
                    · have h := h.2 hc
                      refine ab_iconst' hG 272 _ _ _ _ 0 0 dX6_meet_272 (by decide) ?_
                      refine ab_iastore' hG 273 _ _ _ _ 31 0 24 _ _ dX6_meet_273 rfl h.1 ?_
                      have h := h.2
                      exact ab_return_' hG 274 _ _ _ dX6_meet_274 rfl (by decide) h
                    · have h := h.1 hc
                      refine ab_iconst' hG 268 _ _ _ _ 3 3 dX6_meet_268 (by decide) ?_
                      refine ab_goto' hG 269 _ _ _ _ (4) 273 dX6_meet_269 (by decide) ?_
                      refine ab_iastore' hG 273 _ _ _ _ 31 0 24 _ _ dX6_meet_273 rfl h.1 ?_
                      have h := h.2
                      exact ab_return_' hG 274 _ _ _ dX6_meet_274 rfl (by decide) h
                  · have h := h.1 hc
                    refine ab_iconst' hG 253 _ _ _ _ 2 2 dX6_meet_253 (by decide) ?_
                    refine ab_goto' hG 254 _ _ _ _ (19) 273 dX6_meet_254 (by decide) ?_
                    refine ab_iastore' hG 273 _ _ _ _ 31 0 24 _ _ dX6_meet_273 rfl h.1 ?_
                    have h := h.2
                    exact ab_return_' hG 274 _ _ _ dX6_meet_274 rfl (by decide) h
              · have h := h.2 hc
                refine ab_aload_n' hG 186 _ _ _ _ 0 _ dX6_meet_186 rfl ?_
                refine ab_gR hG 187 _ _ _ _ 17 21 3 0 (24, 0) dX6_meet_187 (List.Mem.tail _ (List.Mem.tail _ (List.Mem.tail _ (List.Mem.tail _ (List.Mem.tail _ (List.Mem.tail _ (List.Mem.tail _ (List.Mem.head _)))))))) rfl ?_
                refine ab_iload' hG 190 _ _ _ _ 4 _ dX6_meet_190 rfl ?_
                refine ab_iaload' hG 192 _ _ _ _ 24 0 336 _ dX6_meet_192 rfl h.1 ?_
                have h := h.2
                refine ab_aload_n' hG 193 _ _ _ _ 0 _ dX6_meet_193 rfl ?_
                refine ab_gR hG 194 _ _ _ _ 17 21 3 0 (24, 0) dX6_meet_194 (List.Mem.tail _ (List.Mem.tail _ (List.Mem.tail _ (List.Mem.tail _ (List.Mem.tail _ (List.Mem.tail _ (List.Mem.tail _ (List.Mem.head _)))))))) rfl ?_
                refine ab_iload' hG 197 _ _ _ _ 5 _ dX6_meet_197 rfl ?_
                refine ab_iaload' hG 199 _ _ _ _ 24 0 336 _ dX6_meet_199 rfl h.1 ?_
                have h := h.2
                refine ab_aload_n' hG 200 _ _ _ _ 0 _ dX6_meet_200 rfl ?_
                refine ab_gR hG 201 _ _ _ _ 7 21 1 0 (22, 0) dX6_meet_201 (List.Mem.tail _ (List.Mem.tail _ (List.Mem.tail _ (List.Mem.head _)))) rfl ?_
                refine ab_iload' hG 204 _ _ _ _ 6 _ dX6_meet_204 rfl ?_
                refine ab_baload' hG 206 _ _ _ _ 22 0 336 _ dX6_meet_206 rfl h.1 ?_
                have h := h.2
                refine ab_aload_n' hG 207 _ _ _ _ 0 _ dX6_meet_207 rfl ?_
                refine ab_gR hG 208 _ _ _ _ 17 21 3 0 (24, 0) dX6_meet_208 (List.Mem.tail _ (List.Mem.tail _ (List.Mem.tail _ (List.Mem.tail _ (List.Mem.tail _ (List.Mem.tail _ (List.Mem.tail _ (List.Mem.head _)))))))) rfl ?_
                refine ab_iload' hG 211 _ _ _ _ 6 _ dX6_meet_211 rfl ?_
                refine ab_iaload' hG 213 _ _ _ _ 24 0 336 _ dX6_meet_213 rfl h.1 ?_
                have h := h.2
                exact ab_invs' hG 214 [some (.inr (21, 0)), some (.inl x1), some (.inl x2), some (.inl x3), some (.inl x4), some (.inl x5), some (.inl x6), some (.inl xs0), some (.inl x5), some (.inl 0)] [(.inl ((ab_su (ab_su (ab_su S 30 0 x1.toNatClampNeg (vp_nar .boolean 0)) 31 0 x1.toNatClampNeg 0) 32 0 x1.toNatClampNeg ((ab_su (ab_su S 30 0 x1.toNatClampNeg (vp_nar .boolean 0)) 31 0 x1.toNatClampNeg 0) 23 0 x5.toNatClampNeg)) 24 0 x4.toNatClampNeg)), (.inl ((ab_su (ab_su (ab_su S 30 0 x1.toNatClampNeg (vp_nar .boolean 0)) 31 0 x1.toNatClampNeg 0) 32 0 x1.toNatClampNeg ((ab_su (ab_su S 30 0 x1.toNatClampNeg (vp_nar .boolean 0)) 31 0 x1.toNatClampNeg 0) 23 0 x5.toNatClampNeg)) 24 0 x5.toNatClampNeg)), (.inl ((ab_su (ab_su (ab_su S 30 0 x1.toNatClampNeg (vp_nar .boolean 0)) 31 0 x1.toNatClampNeg 0) 32 0 x1.toNatClampNeg ((ab_su (ab_su S 30 0 x1.toNatClampNeg (vp_nar .boolean 0)) 31 0 x1.toNatClampNeg 0) 23 0 x5.toNatClampNeg)) 22 0 x6.toNatClampNeg)), (.inl ((ab_su (ab_su (ab_su S 30 0 x1.toNatClampNeg (vp_nar .boolean 0)) 31 0 x1.toNatClampNeg 0) 32 0 x1.toNatClampNeg ((ab_su (ab_su S 30 0 x1.toNatClampNeg (vp_nar .boolean 0)) 31 0 x1.toNatClampNeg 0) 23 0 x5.toNatClampNeg)) 24 0 x6.toNatClampNeg))] [(.inl x1), (.inr (33, 0))] (ab_su (ab_su (ab_su S 30 0 x1.toNatClampNeg (vp_nar .boolean 0)) 31 0 x1.toNatClampNeg 0) 32 0 x1.toNatClampNeg ((ab_su (ab_su S 30 0 x1.toNatClampNeg (vp_nar .boolean 0)) 31 0 x1.toNatClampNeg 0) 23 0 x5.toNatClampNeg)) 0 137 _ 4 1 0 _ dX6_meet_214 rfl rfl (by decide) (by decide) h
            · have h := h.2 hc
              refine ab_aload_n' hG 134 _ _ _ _ 0 _ dX6_meet_134 rfl ?_
              refine ab_gR hG 135 _ _ _ _ 13 21 2 0 (23, 0) dX6_meet_135 (List.Mem.tail _ (List.Mem.tail _ (List.Mem.tail _ (List.Mem.tail _ (List.Mem.tail _ (List.Mem.head _)))))) rfl ?_
              refine ab_iload' hG 138 _ _ _ _ 4 _ dX6_meet_138 rfl ?_
              refine ab_iaload' hG 140 _ _ _ _ 23 0 336 _ dX6_meet_140 rfl h.1 ?_
              have h := h.2
              refine ab_aload_n' hG 141 _ _ _ _ 0 _ dX6_meet_141 rfl ?_
              refine ab_gR hG 142 _ _ _ _ 13 21 2 0 (23, 0) dX6_meet_142 (List.Mem.tail _ (List.Mem.tail _ (List.Mem.tail _ (List.Mem.tail _ (List.Mem.tail _ (List.Mem.head _)))))) rfl ?_
              refine ab_iload' hG 145 _ _ _ _ 5 _ dX6_meet_145 rfl ?_
              refine ab_iaload' hG 147 _ _ _ _ 23 0 336 _ dX6_meet_147 rfl h.1 ?_
              have h := h.2
              refine ab_aload_n' hG 148 _ _ _ _ 0 _ dX6_meet_148 rfl ?_
              refine ab_gR hG 149 _ _ _ _ 7 21 1 0 (22, 0) dX6_meet_149 (List.Mem.tail _ (List.Mem.tail _ (List.Mem.tail _ (List.Mem.head _)))) rfl ?_
              refine ab_iload' hG 152 _ _ _ _ 6 _ dX6_meet_152 rfl ?_
              refine ab_baload' hG 154 _ _ _ _ 22 0 336 _ dX6_meet_154 rfl h.1 ?_
              have h := h.2
              refine ab_aload_n' hG 155 _ _ _ _ 0 _ dX6_meet_155 rfl ?_
              refine ab_gR hG 156 _ _ _ _ 13 21 2 0 (23, 0) dX6_meet_156 (List.Mem.tail _ (List.Mem.tail _ (List.Mem.tail _ (List.Mem.tail _ (List.Mem.tail _ (List.Mem.head _)))))) rfl ?_
              refine ab_iload' hG 159 _ _ _ _ 6 _ dX6_meet_159 rfl ?_
              refine ab_iaload' hG 161 _ _ _ _ 23 0 336 _ dX6_meet_161 rfl h.1 ?_
              have h := h.2
              exact ab_invs' hG 162 [some (.inr (21, 0)), some (.inl x1), some (.inl x2), some (.inl x3), some (.inl x4), some (.inl x5), some (.inl x6), some (.inl xs0), some (.inl x5), some (.inl 0)] [(.inl ((ab_su (ab_su S 30 0 x1.toNatClampNeg (vp_nar .boolean 0)) 31 0 x1.toNatClampNeg 0) 23 0 x4.toNatClampNeg)), (.inl ((ab_su (ab_su S 30 0 x1.toNatClampNeg (vp_nar .boolean 0)) 31 0 x1.toNatClampNeg 0) 23 0 x5.toNatClampNeg)), (.inl ((ab_su (ab_su S 30 0 x1.toNatClampNeg (vp_nar .boolean 0)) 31 0 x1.toNatClampNeg 0) 22 0 x6.toNatClampNeg)), (.inl ((ab_su (ab_su S 30 0 x1.toNatClampNeg (vp_nar .boolean 0)) 31 0 x1.toNatClampNeg 0) 23 0 x6.toNatClampNeg))] [(.inl x1), (.inr (32, 0))] (ab_su (ab_su S 30 0 x1.toNatClampNeg (vp_nar .boolean 0)) 31 0 x1.toNatClampNeg 0) 0 137 _ 4 1 0 _ dX6_meet_162 rfl rfl (by decide) (by decide) h
          · have h := h.2 hc
            refine ab_aload_n' hG 107 _ _ _ _ 0 _ dX6_meet_107 rfl ?_
            refine ab_gR hG 108 _ _ _ _ 7 21 1 0 (22, 0) dX6_meet_108 (List.Mem.tail _ (List.Mem.tail _ (List.Mem.tail _ (List.Mem.head _)))) rfl ?_
            refine ab_iload' hG 111 _ _ _ _ 5 _ dX6_meet_111 rfl ?_
            refine ab_baload' hG 113 _ _ _ _ 22 0 336 _ dX6_meet_113 rfl h.1 ?_
            have h := h.2
            refine ab_if_eq' hG 114 _ _ _ _ (7) 121 _ dX6_meet_114 (by decide) (fun hc => ?_) (fun hc => ?_)
            · have h := h.1 hc
              refine ab_iconst' hG 121 _ _ _ _ 0 0 dX6_meet_121 (by decide) ?_
              refine ab_istore' hG 122 _ _ _ _ 9 _ dX6_meet_122 (by decide) ?_
              refine ab_aload_n' hG 124 _ _ _ _ 0 _ dX6_meet_124 rfl ?_
              refine ab_gR hG 125 _ _ _ _ 51 21 16 0 (32, 0) dX6_meet_125 (List.Mem.tail _ (List.Mem.tail _ (List.Mem.tail _ (List.Mem.tail _ (List.Mem.head _))))) rfl ?_
              refine ab_iload_n' hG 128 _ _ _ _ 1 _ dX6_meet_128 rfl ?_
              refine ab_iload' hG 129 _ _ _ _ 9 _ dX6_meet_129 rfl ?_
              refine ab_if_eq' hG 131 _ _ _ _ (37) 168 _ dX6_meet_131 (by decide) (fun hc => ?_) (fun hc => ?_)
              · have h := h.1 hc
                refine ab_aload_n' hG 168 _ _ _ _ 0 _ dX6_meet_168 rfl ?_
                refine ab_gR hG 169 _ _ _ _ 13 21 2 0 (23, 0) dX6_meet_169 (List.Mem.tail _ (List.Mem.tail _ (List.Mem.tail _ (List.Mem.tail _ (List.Mem.tail _ (List.Mem.head _)))))) rfl ?_
                refine ab_iload' hG 172 _ _ _ _ 8 _ dX6_meet_172 rfl ?_
                refine ab_iaload' hG 174 _ _ _ _ 23 0 336 _ dX6_meet_174 rfl h.1 ?_
                have h := h.2
                refine ab_iastore' hG 175 _ _ _ _ 32 0 24 _ _ dX6_meet_175 rfl h.1 ?_
                have h := h.2
                refine ab_aload_n' hG 176 _ _ _ _ 0 _ dX6_meet_176 rfl ?_
                refine ab_gR hG 177 _ _ _ _ 54 21 17 0 (33, 0) dX6_meet_177 (List.Mem.tail _ (List.Mem.tail _ (List.Mem.tail _ (List.Mem.tail _ (List.Mem.tail _ (List.Mem.tail _ (List.Mem.head _))))))) rfl ?_
                refine ab_iload_n' hG 180 _ _ _ _ 1 _ dX6_meet_180 rfl ?_
                refine ab_iload' hG 181 _ _ _ _ 9 _ dX6_meet_181 rfl ?_
                refine ab_if_eq' hG 183 _ _ _ _ (37) 220 _ dX6_meet_183 (by decide) (fun hc => ?_) (fun hc => ?_)
                · have h := h.1 hc
                  refine ab_aload_n' hG 220 _ _ _ _ 0 _ dX6_meet_220 rfl ?_
                  refine ab_gR hG 221 _ _ _ _ 17 21 3 0 (24, 0) dX6_meet_221 (List.Mem.tail _ (List.Mem.tail _ (List.Mem.tail _ (List.Mem.tail _ (List.Mem.tail _ (List.Mem.tail _ (List.Mem.tail _ (List.Mem.head _)))))))) rfl ?_
                  refine ab_iload' hG 224 _ _ _ _ 8 _ dX6_meet_224 rfl ?_
                  refine ab_iaload' hG 226 _ _ _ _ 24 0 336 _ dX6_meet_226 rfl h.1 ?_
                  have h := h.2
                  refine ab_iastore' hG 227 _ _ _ _ 33 0 24 _ _ dX6_meet_227 rfl h.1 ?_
                  have h := h.2
                  refine ab_aload_n' hG 228 _ _ _ _ 0 _ dX6_meet_228 rfl ?_
                  refine ab_gR hG 229 _ _ _ _ 48 21 15 0 (31, 0) dX6_meet_229 (List.Mem.tail _ (List.Mem.tail _ (List.Mem.head _))) rfl ?_
                  refine ab_iload_n' hG 232 _ _ _ _ 1 _ dX6_meet_232 rfl ?_
                  refine ab_iaload' hG 233 _ _ _ _ 31 0 24 _ dX6_meet_233 rfl h.1 ?_
                  have h := h.2
                  refine ab_if_ne' hG 234 _ _ _ _ (40) 274 _ dX6_meet_234 (by decide) (fun hc => ?_) (fun hc => ?_)
                  · have h := h.2 hc
                    exact ab_return_' hG 274 _ _ _ dX6_meet_274 rfl (by decide) h
                  · have h := h.1 hc
                    refine ab_aload_n' hG 237 _ _ _ _ 0 _ dX6_meet_237 rfl ?_
                    refine ab_gR hG 238 _ _ _ _ 48 21 15 0 (31, 0) dX6_meet_238 (List.Mem.tail _ (List.Mem.tail _ (List.Mem.head _))) rfl ?_
                    refine ab_iload_n' hG 241 _ _ _ _ 1 _ dX6_meet_241 rfl ?_
                    refine ab_aload_n' hG 242 _ _ _ _ 0 _ dX6_meet_242 rfl ?_
                    refine ab_gR hG 243 _ _ _ _ 51 21 16 0 (32, 0) dX6_meet_243 (List.Mem.tail _ (List.Mem.tail _ (List.Mem.tail _ (List.Mem.tail _ (List.Mem.head _))))) rfl ?_
                    refine ab_iload_n' hG 246 _ _ _ _ 1 _ dX6_meet_246 rfl ?_
                    refine ab_iaload' hG 247 _ _ _ _ 32 0 24 _ dX6_meet_247 rfl h.1 ?_
                    have h := h.2
                    refine ab_bipush' hG 248 _ _ _ _ (-9) (-9) dX6_meet_248 (by decide) ?_
                    refine ab_icmp_ne' hG 250 _ _ _ _ (7) 257 _ _ dX6_meet_250 (by decide) (fun hc => ?_) (fun hc => ?_)
                    · have h := h.2 hc
                      refine ab_aload_n' hG 257 _ _ _ _ 0 _ dX6_meet_257 rfl ?_
                      refine ab_gR hG 258 _ _ _ _ 54 21 17 0 (33, 0) dX6_meet_258 (List.Mem.tail _ (List.Mem.tail _ (List.Mem.tail _ (List.Mem.tail _ (List.Mem.tail _ (List.Mem.tail _ (List.Mem.head _))))))) rfl ?_
                      refine ab_iload_n' hG 261 _ _ _ _ 1 _ dX6_meet_261 rfl ?_
                      refine ab_iaload' hG 262 _ _ _ _ 33 0 24 _ dX6_meet_262 rfl h.1 ?_
                      have h := h.2
                      refine ab_bipush' hG 263 _ _ _ _ (-9) (-9) dX6_meet_263 (by decide) ?_
                      refine ab_icmp_ne' hG 265 _ _ _ _ (7) 272 _ _ dX6_meet_265 (by decide) (fun hc => ?_) (fun hc => ?_)
                      · have h := h.2 hc
                        refine ab_iconst' hG 272 _ _ _ _ 0 0 dX6_meet_272 (by decide) ?_
                        refine ab_iastore' hG 273 _ _ _ _ 31 0 24 _ _ dX6_meet_273 rfl h.1 ?_
                        have h := h.2
                        exact ab_return_' hG 274 _ _ _ dX6_meet_274 rfl (by decide) h
                      · have h := h.1 hc
                        refine ab_iconst' hG 268 _ _ _ _ 3 3 dX6_meet_268 (by decide) ?_
                        refine ab_goto' hG 269 _ _ _ _ (4) 273 dX6_meet_269 (by decide) ?_
                        refine ab_iastore' hG 273 _ _ _ _ 31 0 24 _ _ dX6_meet_273 rfl h.1 ?_
                        have h := h.2
                        exact ab_return_' hG 274 _ _ _ dX6_meet_274 rfl (by decide) h
                    · have h := h.1 hc
                      refine ab_iconst' hG 253 _ _ _ _ 2 2 dX6_meet_253 (by decide) ?_
                      refine ab_goto' hG 254 _ _ _ _ (19) 273 dX6_meet_254 (by decide) ?_
                      refine ab_iastore' hG 273 _ _ _ _ 31 0 24 _ _ dX6_meet_273 rfl h.1 ?_
                      have h := h.2
                      exact ab_return_' hG 274 _ _ _ dX6_meet_274 rfl (by decide) h
                · have h := h.2 hc
                  refine ab_aload_n' hG 186 _ _ _ _ 0 _ dX6_meet_186 rfl ?_
                  refine ab_gR hG 187 _ _ _ _ 17 21 3 0 (24, 0) dX6_meet_187 (List.Mem.tail _ (List.Mem.tail _ (List.Mem.tail _ (List.Mem.tail _ (List.Mem.tail _ (List.Mem.tail _ (List.Mem.tail _ (List.Mem.head _)))))))) rfl ?_
                  refine ab_iload' hG 190 _ _ _ _ 4 _ dX6_meet_190 rfl ?_
                  refine ab_iaload' hG 192 _ _ _ _ 24 0 336 _ dX6_meet_192 rfl h.1 ?_
                  have h := h.2
                  refine ab_aload_n' hG 193 _ _ _ _ 0 _ dX6_meet_193 rfl ?_
                  refine ab_gR hG 194 _ _ _ _ 17 21 3 0 (24, 0) dX6_meet_194 (List.Mem.tail _ (List.Mem.tail _ (List.Mem.tail _ (List.Mem.tail _ (List.Mem.tail _ (List.Mem.tail _ (List.Mem.tail _ (List.Mem.head _)))))))) rfl ?_
                  refine ab_iload' hG 197 _ _ _ _ 5 _ dX6_meet_197 rfl ?_
                  refine ab_iaload' hG 199 _ _ _ _ 24 0 336 _ dX6_meet_199 rfl h.1 ?_
                  have h := h.2
                  refine ab_aload_n' hG 200 _ _ _ _ 0 _ dX6_meet_200 rfl ?_
                  refine ab_gR hG 201 _ _ _ _ 7 21 1 0 (22, 0) dX6_meet_201 (List.Mem.tail _ (List.Mem.tail _ (List.Mem.tail _ (List.Mem.head _)))) rfl ?_
                  refine ab_iload' hG 204 _ _ _ _ 6 _ dX6_meet_204 rfl ?_
                  refine ab_baload' hG 206 _ _ _ _ 22 0 336 _ dX6_meet_206 rfl h.1 ?_
                  have h := h.2
                  refine ab_aload_n' hG 207 _ _ _ _ 0 _ dX6_meet_207 rfl ?_
                  refine ab_gR hG 208 _ _ _ _ 17 21 3 0 (24, 0) dX6_meet_208 (List.Mem.tail _ (List.Mem.tail _ (List.Mem.tail _ (List.Mem.tail _ (List.Mem.tail _ (List.Mem.tail _ (List.Mem.tail _ (List.Mem.head _)))))))) rfl ?_
                  refine ab_iload' hG 211 _ _ _ _ 6 _ dX6_meet_211 rfl ?_
                  refine ab_iaload' hG 213 _ _ _ _ 24 0 336 _ dX6_meet_213 rfl h.1 ?_
                  have h := h.2
                  exact ab_invs' hG 214 [some (.inr (21, 0)), some (.inl x1), some (.inl x2), some (.inl x3), some (.inl x4), some (.inl x5), some (.inl x6), some (.inl xs0), some (.inl x5), some (.inl 0)] [(.inl ((ab_su (ab_su (ab_su S 30 0 x1.toNatClampNeg (vp_nar .boolean 0)) 31 0 x1.toNatClampNeg 0) 32 0 x1.toNatClampNeg ((ab_su (ab_su S 30 0 x1.toNatClampNeg (vp_nar .boolean 0)) 31 0 x1.toNatClampNeg 0) 23 0 x5.toNatClampNeg)) 24 0 x4.toNatClampNeg)), (.inl ((ab_su (ab_su (ab_su S 30 0 x1.toNatClampNeg (vp_nar .boolean 0)) 31 0 x1.toNatClampNeg 0) 32 0 x1.toNatClampNeg ((ab_su (ab_su S 30 0 x1.toNatClampNeg (vp_nar .boolean 0)) 31 0 x1.toNatClampNeg 0) 23 0 x5.toNatClampNeg)) 24 0 x5.toNatClampNeg)), (.inl ((ab_su (ab_su (ab_su S 30 0 x1.toNatClampNeg (vp_nar .boolean 0)) 31 0 x1.toNatClampNeg 0) 32 0 x1.toNatClampNeg ((ab_su (ab_su S 30 0 x1.toNatClampNeg (vp_nar .boolean 0)) 31 0 x1.toNatClampNeg 0) 23 0 x5.toNatClampNeg)) 22 0 x6.toNatClampNeg)), (.inl ((ab_su (ab_su (ab_su S 30 0 x1.toNatClampNeg (vp_nar .boolean 0)) 31 0 x1.toNatClampNeg 0) 32 0 x1.toNatClampNeg ((ab_su (ab_su S 30 0 x1.toNatClampNeg (vp_nar .boolean 0)) 31 0 x1.toNatClampNeg 0) 23 0 x5.toNatClampNeg)) 24 0 x6.toNatClampNeg))] [(.inl x1), (.inr (33, 0))] (ab_su (ab_su (ab_su S 30 0 x1.toNatClampNeg (vp_nar .boolean 0)) 31 0 x1.toNatClampNeg 0) 32 0 x1.toNatClampNeg ((ab_su (ab_su S 30 0 x1.toNatClampNeg (vp_nar .boolean 0)) 31 0 x1.toNatClampNeg 0) 23 0 x5.toNatClampNeg)) 0 137 _ 4 1 0 _ dX6_meet_214 rfl rfl (by decide) (by decide) h
              · have h := h.2 hc
                refine ab_aload_n' hG 134 _ _ _ _ 0 _ dX6_meet_134 rfl ?_
                refine ab_gR hG 135 _ _ _ _ 13 21 2 0 (23, 0) dX6_meet_135 (List.Mem.tail _ (List.Mem.tail _ (List.Mem.tail _ (List.Mem.tail _ (List.Mem.tail _ (List.Mem.head _)))))) rfl ?_
                refine ab_iload' hG 138 _ _ _ _ 4 _ dX6_meet_138 rfl ?_
                refine ab_iaload' hG 140 _ _ _ _ 23 0 336 _ dX6_meet_140 rfl h.1 ?_
                have h := h.2
                refine ab_aload_n' hG 141 _ _ _ _ 0 _ dX6_meet_141 rfl ?_
                refine ab_gR hG 142 _ _ _ _ 13 21 2 0 (23, 0) dX6_meet_142 (List.Mem.tail _ (List.Mem.tail _ (List.Mem.tail _ (List.Mem.tail _ (List.Mem.tail _ (List.Mem.head _)))))) rfl ?_
                refine ab_iload' hG 145 _ _ _ _ 5 _ dX6_meet_145 rfl ?_
                refine ab_iaload' hG 147 _ _ _ _ 23 0 336 _ dX6_meet_147 rfl h.1 ?_
                have h := h.2
                refine ab_aload_n' hG 148 _ _ _ _ 0 _ dX6_meet_148 rfl ?_
                refine ab_gR hG 149 _ _ _ _ 7 21 1 0 (22, 0) dX6_meet_149 (List.Mem.tail _ (List.Mem.tail _ (List.Mem.tail _ (List.Mem.head _)))) rfl ?_
                refine ab_iload' hG 152 _ _ _ _ 6 _ dX6_meet_152 rfl ?_
                refine ab_baload' hG 154 _ _ _ _ 22 0 336 _ dX6_meet_154 rfl h.1 ?_
                have h := h.2
                refine ab_aload_n' hG 155 _ _ _ _ 0 _ dX6_meet_155 rfl ?_
                refine ab_gR hG 156 _ _ _ _ 13 21 2 0 (23, 0) dX6_meet_156 (List.Mem.tail _ (List.Mem.tail _ (List.Mem.tail _ (List.Mem.tail _ (List.Mem.tail _ (List.Mem.head _)))))) rfl ?_
                refine ab_iload' hG 159 _ _ _ _ 6 _ dX6_meet_159 rfl ?_
                refine ab_iaload' hG 161 _ _ _ _ 23 0 336 _ dX6_meet_161 rfl h.1 ?_
                have h := h.2
                exact ab_invs' hG 162 [some (.inr (21, 0)), some (.inl x1), some (.inl x2), some (.inl x3), some (.inl x4), some (.inl x5), some (.inl x6), some (.inl xs0), some (.inl x5), some (.inl 0)] [(.inl ((ab_su (ab_su S 30 0 x1.toNatClampNeg (vp_nar .boolean 0)) 31 0 x1.toNatClampNeg 0) 23 0 x4.toNatClampNeg)), (.inl ((ab_su (ab_su S 30 0 x1.toNatClampNeg (vp_nar .boolean 0)) 31 0 x1.toNatClampNeg 0) 23 0 x5.toNatClampNeg)), (.inl ((ab_su (ab_su S 30 0 x1.toNatClampNeg (vp_nar .boolean 0)) 31 0 x1.toNatClampNeg 0) 22 0 x6.toNatClampNeg)), (.inl ((ab_su (ab_su S 30 0 x1.toNatClampNeg (vp_nar .boolean 0)) 31 0 x1.toNatClampNeg 0) 23 0 x6.toNatClampNeg))] [(.inl x1), (.inr (32, 0))] (ab_su (ab_su S 30 0 x1.toNatClampNeg (vp_nar .boolean 0)) 31 0 x1.toNatClampNeg 0) 0 137 _ 4 1 0 _ dX6_meet_162 rfl rfl (by decide) (by decide) h
            · have h := h.2 hc
              refine ab_iconst' hG 117 _ _ _ _ 1 1 dX6_meet_117 (by decide) ?_
              refine ab_goto' hG 118 _ _ _ _ (4) 122 dX6_meet_118 (by decide) ?_
              refine ab_istore' hG 122 _ _ _ _ 9 _ dX6_meet_122 (by decide) ?_
              refine ab_aload_n' hG 124 _ _ _ _ 0 _ dX6_meet_124 rfl ?_
              refine ab_gR hG 125 _ _ _ _ 51 21 16 0 (32, 0) dX6_meet_125 (List.Mem.tail _ (List.Mem.tail _ (List.Mem.tail _ (List.Mem.tail _ (List.Mem.head _))))) rfl ?_
              refine ab_iload_n' hG 128 _ _ _ _ 1 _ dX6_meet_128 rfl ?_
              refine ab_iload' hG 129 _ _ _ _ 9 _ dX6_meet_129 rfl ?_
              refine ab_if_eq' hG 131 _ _ _ _ (37) 168 _ dX6_meet_131 (by decide) (fun hc => ?_) (fun hc => ?_)
              · have h := h.1 hc
                refine ab_aload_n' hG 168 _ _ _ _ 0 _ dX6_meet_168 rfl ?_
                refine ab_gR hG 169 _ _ _ _ 13 21 2 0 (23, 0) dX6_meet_169 (List.Mem.tail _ (List.Mem.tail _ (List.Mem.tail _ (List.Mem.tail _ (List.Mem.tail _ (List.Mem.head _)))))) rfl ?_
                refine ab_iload' hG 172 _ _ _ _ 8 _ dX6_meet_172 rfl ?_
                refine ab_iaload' hG 174 _ _ _ _ 23 0 336 _ dX6_meet_174 rfl h.1 ?_
                have h := h.2
                refine ab_iastore' hG 175 _ _ _ _ 32 0 24 _ _ dX6_meet_175 rfl h.1 ?_
                have h := h.2
                refine ab_aload_n' hG 176 _ _ _ _ 0 _ dX6_meet_176 rfl ?_
                refine ab_gR hG 177 _ _ _ _ 54 21 17 0 (33, 0) dX6_meet_177 (List.Mem.tail _ (List.Mem.tail _ (List.Mem.tail _ (List.Mem.tail _ (List.Mem.tail _ (List.Mem.tail _ (List.Mem.head _))))))) rfl ?_
                refine ab_iload_n' hG 180 _ _ _ _ 1 _ dX6_meet_180 rfl ?_
                refine ab_iload' hG 181 _ _ _ _ 9 _ dX6_meet_181 rfl ?_
                refine ab_if_eq' hG 183 _ _ _ _ (37) 220 _ dX6_meet_183 (by decide) (fun hc => ?_) (fun hc => ?_)
                · have h := h.1 hc
                  refine ab_aload_n' hG 220 _ _ _ _ 0 _ dX6_meet_220 rfl ?_
                  refine ab_gR hG 221 _ _ _ _ 17 21 3 0 (24, 0) dX6_meet_221 (List.Mem.tail _ (List.Mem.tail _ (List.Mem.tail _ (List.Mem.tail _ (List.Mem.tail _ (List.Mem.tail _ (List.Mem.tail _ (List.Mem.head _)))))))) rfl ?_
                  refine ab_iload' hG 224 _ _ _ _ 8 _ dX6_meet_224 rfl ?_
                  refine ab_iaload' hG 226 _ _ _ _ 24 0 336 _ dX6_meet_226 rfl h.1 ?_
                  have h := h.2
                  refine ab_iastore' hG 227 _ _ _ _ 33 0 24 _ _ dX6_meet_227 rfl h.1 ?_
                  have h := h.2
                  refine ab_aload_n' hG 228 _ _ _ _ 0 _ dX6_meet_228 rfl ?_
                  refine ab_gR hG 229 _ _ _ _ 48 21 15 0 (31, 0) dX6_meet_229 (List.Mem.tail _ (List.Mem.tail _ (List.Mem.head _))) rfl ?_
                  refine ab_iload_n' hG 232 _ _ _ _ 1 _ dX6_meet_232 rfl ?_
                  refine ab_iaload' hG 233 _ _ _ _ 31 0 24 _ dX6_meet_233 rfl h.1 ?_
                  have h := h.2
                  refine ab_if_ne' hG 234 _ _ _ _ (40) 274 _ dX6_meet_234 (by decide) (fun hc => ?_) (fun hc => ?_)
                  · have h := h.2 hc
                    exact ab_return_' hG 274 _ _ _ dX6_meet_274 rfl (by decide) h
                  · have h := h.1 hc
                    refine ab_aload_n' hG 237 _ _ _ _ 0 _ dX6_meet_237 rfl ?_
                    refine ab_gR hG 238 _ _ _ _ 48 21 15 0 (31, 0) dX6_meet_238 (List.Mem.tail _ (List.Mem.tail _ (List.Mem.head _))) rfl ?_
                    refine ab_iload_n' hG 241 _ _ _ _ 1 _ dX6_meet_241 rfl ?_
                    refine ab_aload_n' hG 242 _ _ _ _ 0 _ dX6_meet_242 rfl ?_
                    refine ab_gR hG 243 _ _ _ _ 51 21 16 0 (32, 0) dX6_meet_243 (List.Mem.tail _ (List.Mem.tail _ (List.Mem.tail _ (List.Mem.tail _ (List.Mem.head _))))) rfl ?_
                    refine ab_iload_n' hG 246 _ _ _ _ 1 _ dX6_meet_246 rfl ?_
                    refine ab_iaload' hG 247 _ _ _ _ 32 0 24 _ dX6_meet_247 rfl h.1 ?_
                    have h := h.2
                    refine ab_bipush' hG 248 _ _ _ _ (-9) (-9) dX6_meet_248 (by decide) ?_
                    refine ab_icmp_ne' hG 250 _ _ _ _ (7) 257 _ _ dX6_meet_250 (by decide) (fun hc => ?_) (fun hc => ?_)
                    · have h := h.2 hc
                      refine ab_aload_n' hG 257 _ _ _ _ 0 _ dX6_meet_257 rfl ?_
                      refine ab_gR hG 258 _ _ _ _ 54 21 17 0 (33, 0) dX6_meet_258 (List.Mem.tail _ (List.Mem.tail _ (List.Mem.tail _ (List.Mem.tail _ (List.Mem.tail _ (List.Mem.tail _ (List.Mem.head _))))))) rfl ?_
                      refine ab_iload_n' hG 261 _ _ _ _ 1 _ dX6_meet_261 rfl ?_
                      refine ab_iaload' hG 262 _ _ _ _ 33 0 24 _ dX6_meet_262 rfl h.1 ?_
                      have h := h.2
                      refine ab_bipush' hG 263 _ _ _ _ (-9) (-9) dX6_meet_263 (by decide) ?_
                      refine ab_icmp_ne' hG 265 _ _ _ _ (7) 272 _ _ dX6_meet_265 (by decide) (fun hc => ?_) (fun hc => ?_)
                      · have h := h.2 hc
                        refine ab_iconst' hG 272 _ _ _ _ 0 0 dX6_meet_272 (by decide) ?_
                        refine ab_iastore' hG 273 _ _ _ _ 31 0 24 _ _ dX6_meet_273 rfl h.1 ?_
                        have h := h.2
                        exact ab_return_' hG 274 _ _ _ dX6_meet_274 rfl (by decide) h
                      · have h := h.1 hc
                        refine ab_iconst' hG 268 _ _ _ _ 3 3 dX6_meet_268 (by decide) ?_
                        refine ab_goto' hG 269 _ _ _ _ (4) 273 dX6_meet_269 (by decide) ?_
                        refine ab_iastore' hG 273 _ _ _ _ 31 0 24 _ _ dX6_meet_273 rfl h.1 ?_
                        have h := h.2
                        exact ab_return_' hG 274 _ _ _ dX6_meet_274 rfl (by decide) h
                    · have h := h.1 hc
                      refine ab_iconst' hG 253 _ _ _ _ 2 2 dX6_meet_253 (by decide) ?_
                      refine ab_goto' hG 254 _ _ _ _ (19) 273 dX6_meet_254 (by decide) ?_
                      refine ab_iastore' hG 273 _ _ _ _ 31 0 24 _ _ dX6_meet_273 rfl h.1 ?_
                      have h := h.2
                      exact ab_return_' hG 274 _ _ _ dX6_meet_274 rfl (by decide) h
                · have h := h.2 hc
                  refine ab_aload_n' hG 186 _ _ _ _ 0 _ dX6_meet_186 rfl ?_
                  refine ab_gR hG 187 _ _ _ _ 17 21 3 0 (24, 0) dX6_meet_187 (List.Mem.tail _ (List.Mem.tail _ (List.Mem.tail _ (List.Mem.tail _ (List.Mem.tail _ (List.Mem.tail _ (List.Mem.tail _ (List.Mem.head _)))))))) rfl ?_
                  refine ab_iload' hG 190 _ _ _ _ 4 _ dX6_meet_190 rfl ?_
                  refine ab_iaload' hG 192 _ _ _ _ 24 0 336 _ dX6_meet_192 rfl h.1 ?_
                  have h := h.2
                  refine ab_aload_n' hG 193 _ _ _ _ 0 _ dX6_meet_193 rfl ?_
                  refine ab_gR hG 194 _ _ _ _ 17 21 3 0 (24, 0) dX6_meet_194 (List.Mem.tail _ (List.Mem.tail _ (List.Mem.tail _ (List.Mem.tail _ (List.Mem.tail _ (List.Mem.tail _ (List.Mem.tail _ (List.Mem.head _)))))))) rfl ?_
                  refine ab_iload' hG 197 _ _ _ _ 5 _ dX6_meet_197 rfl ?_
                  refine ab_iaload' hG 199 _ _ _ _ 24 0 336 _ dX6_meet_199 rfl h.1 ?_
                  have h := h.2
                  refine ab_aload_n' hG 200 _ _ _ _ 0 _ dX6_meet_200 rfl ?_
                  refine ab_gR hG 201 _ _ _ _ 7 21 1 0 (22, 0) dX6_meet_201 (List.Mem.tail _ (List.Mem.tail _ (List.Mem.tail _ (List.Mem.head _)))) rfl ?_
                  refine ab_iload' hG 204 _ _ _ _ 6 _ dX6_meet_204 rfl ?_
                  refine ab_baload' hG 206 _ _ _ _ 22 0 336 _ dX6_meet_206 rfl h.1 ?_
                  have h := h.2
                  refine ab_aload_n' hG 207 _ _ _ _ 0 _ dX6_meet_207 rfl ?_
                  refine ab_gR hG 208 _ _ _ _ 17 21 3 0 (24, 0) dX6_meet_208 (List.Mem.tail _ (List.Mem.tail _ (List.Mem.tail _ (List.Mem.tail _ (List.Mem.tail _ (List.Mem.tail _ (List.Mem.tail _ (List.Mem.head _)))))))) rfl ?_
                  refine ab_iload' hG 211 _ _ _ _ 6 _ dX6_meet_211 rfl ?_
                  refine ab_iaload' hG 213 _ _ _ _ 24 0 336 _ dX6_meet_213 rfl h.1 ?_
                  have h := h.2
                  exact ab_invs' hG 214 [some (.inr (21, 0)), some (.inl x1), some (.inl x2), some (.inl x3), some (.inl x4), some (.inl x5), some (.inl x6), some (.inl xs0), some (.inl x5), some (.inl 1)] [(.inl ((ab_su (ab_su (ab_su S 30 0 x1.toNatClampNeg (vp_nar .boolean 0)) 31 0 x1.toNatClampNeg 0) 32 0 x1.toNatClampNeg ((ab_su (ab_su S 30 0 x1.toNatClampNeg (vp_nar .boolean 0)) 31 0 x1.toNatClampNeg 0) 23 0 x5.toNatClampNeg)) 24 0 x4.toNatClampNeg)), (.inl ((ab_su (ab_su (ab_su S 30 0 x1.toNatClampNeg (vp_nar .boolean 0)) 31 0 x1.toNatClampNeg 0) 32 0 x1.toNatClampNeg ((ab_su (ab_su S 30 0 x1.toNatClampNeg (vp_nar .boolean 0)) 31 0 x1.toNatClampNeg 0) 23 0 x5.toNatClampNeg)) 24 0 x5.toNatClampNeg)), (.inl ((ab_su (ab_su (ab_su S 30 0 x1.toNatClampNeg (vp_nar .boolean 0)) 31 0 x1.toNatClampNeg 0) 32 0 x1.toNatClampNeg ((ab_su (ab_su S 30 0 x1.toNatClampNeg (vp_nar .boolean 0)) 31 0 x1.toNatClampNeg 0) 23 0 x5.toNatClampNeg)) 22 0 x6.toNatClampNeg)), (.inl ((ab_su (ab_su (ab_su S 30 0 x1.toNatClampNeg (vp_nar .boolean 0)) 31 0 x1.toNatClampNeg 0) 32 0 x1.toNatClampNeg ((ab_su (ab_su S 30 0 x1.toNatClampNeg (vp_nar .boolean 0)) 31 0 x1.toNatClampNeg 0) 23 0 x5.toNatClampNeg)) 24 0 x6.toNatClampNeg))] [(.inl x1), (.inr (33, 0))] (ab_su (ab_su (ab_su S 30 0 x1.toNatClampNeg (vp_nar .boolean 0)) 31 0 x1.toNatClampNeg 0) 32 0 x1.toNatClampNeg ((ab_su (ab_su S 30 0 x1.toNatClampNeg (vp_nar .boolean 0)) 31 0 x1.toNatClampNeg 0) 23 0 x5.toNatClampNeg)) 0 137 _ 4 1 0 _ dX6_meet_214 rfl rfl (by decide) (by decide) h
              · have h := h.2 hc
                refine ab_aload_n' hG 134 _ _ _ _ 0 _ dX6_meet_134 rfl ?_
                refine ab_gR hG 135 _ _ _ _ 13 21 2 0 (23, 0) dX6_meet_135 (List.Mem.tail _ (List.Mem.tail _ (List.Mem.tail _ (List.Mem.tail _ (List.Mem.tail _ (List.Mem.head _)))))) rfl ?_
                refine ab_iload' hG 138 _ _ _ _ 4 _ dX6_meet_138 rfl ?_
                refine ab_iaload' hG 140 _ _ _ _ 23 0 336 _ dX6_meet_140 rfl h.1 ?_
                have h := h.2
                refine ab_aload_n' hG 141 _ _ _ _ 0 _ dX6_meet_141 rfl ?_
                refine ab_gR hG 142 _ _ _ _ 13 21 2 0 (23, 0) dX6_meet_142 (List.Mem.tail _ (List.Mem.tail _ (List.Mem.tail _ (List.Mem.tail _ (List.Mem.tail _ (List.Mem.head _)))))) rfl ?_
                refine ab_iload' hG 145 _ _ _ _ 5 _ dX6_meet_145 rfl ?_
                refine ab_iaload' hG 147 _ _ _ _ 23 0 336 _ dX6_meet_147 rfl h.1 ?_
                have h := h.2
                refine ab_aload_n' hG 148 _ _ _ _ 0 _ dX6_meet_148 rfl ?_
                refine ab_gR hG 149 _ _ _ _ 7 21 1 0 (22, 0) dX6_meet_149 (List.Mem.tail _ (List.Mem.tail _ (List.Mem.tail _ (List.Mem.head _)))) rfl ?_
                refine ab_iload' hG 152 _ _ _ _ 6 _ dX6_meet_152 rfl ?_
                refine ab_baload' hG 154 _ _ _ _ 22 0 336 _ dX6_meet_154 rfl h.1 ?_
                have h := h.2
                refine ab_aload_n' hG 155 _ _ _ _ 0 _ dX6_meet_155 rfl ?_
                refine ab_gR hG 156 _ _ _ _ 13 21 2 0 (23, 0) dX6_meet_156 (List.Mem.tail _ (List.Mem.tail _ (List.Mem.tail _ (List.Mem.tail _ (List.Mem.tail _ (List.Mem.head _)))))) rfl ?_
                refine ab_iload' hG 159 _ _ _ _ 6 _ dX6_meet_159 rfl ?_
                refine ab_iaload' hG 161 _ _ _ _ 23 0 336 _ dX6_meet_161 rfl h.1 ?_
                have h := h.2
                exact ab_invs' hG 162 [some (.inr (21, 0)), some (.inl x1), some (.inl x2), some (.inl x3), some (.inl x4), some (.inl x5), some (.inl x6), some (.inl xs0), some (.inl x5), some (.inl 1)] [(.inl ((ab_su (ab_su S 30 0 x1.toNatClampNeg (vp_nar .boolean 0)) 31 0 x1.toNatClampNeg 0) 23 0 x4.toNatClampNeg)), (.inl ((ab_su (ab_su S 30 0 x1.toNatClampNeg (vp_nar .boolean 0)) 31 0 x1.toNatClampNeg 0) 23 0 x5.toNatClampNeg)), (.inl ((ab_su (ab_su S 30 0 x1.toNatClampNeg (vp_nar .boolean 0)) 31 0 x1.toNatClampNeg 0) 22 0 x6.toNatClampNeg)), (.inl ((ab_su (ab_su S 30 0 x1.toNatClampNeg (vp_nar .boolean 0)) 31 0 x1.toNatClampNeg 0) 23 0 x6.toNatClampNeg))] [(.inl x1), (.inr (32, 0))] (ab_su (ab_su S 30 0 x1.toNatClampNeg (vp_nar .boolean 0)) 31 0 x1.toNatClampNeg 0) 0 137 _ 4 1 0 _ dX6_meet_162 rfl rfl (by decide) (by decide) h
        · have h := h.2 hc
          refine ab_iload' hG 88 _ _ _ _ 4 _ dX6_meet_88 rfl ?_
          refine ab_goto' hG 90 _ _ _ _ (5) 95 dX6_meet_90 (by decide) ?_
          refine ab_istore' hG 95 _ _ _ _ 8 _ dX6_meet_95 (by decide) ?_
          refine ab_aload_n' hG 97 _ _ _ _ 0 _ dX6_meet_97 rfl ?_
          refine ab_gR hG 98 _ _ _ _ 7 21 1 0 (22, 0) dX6_meet_98 (List.Mem.tail _ (List.Mem.tail _ (List.Mem.tail _ (List.Mem.head _)))) rfl ?_
          refine ab_iload' hG 101 _ _ _ _ 4 _ dX6_meet_101 rfl ?_
          refine ab_baload' hG 103 _ _ _ _ 22 0 336 _ dX6_meet_103 rfl h.1 ?_
          have h := h.2
          refine ab_if_eq' hG 104 _ _ _ _ (17) 121 _ dX6_meet_104 (by decide) (fun hc => ?_) (fun hc => ?_)
          · have h := h.1 hc
            refine ab_iconst' hG 121 _ _ _ _ 0 0 dX6_meet_121 (by decide) ?_
            refine ab_istore' hG 122 _ _ _ _ 9 _ dX6_meet_122 (by decide) ?_
            refine ab_aload_n' hG 124 _ _ _ _ 0 _ dX6_meet_124 rfl ?_
            refine ab_gR hG 125 _ _ _ _ 51 21 16 0 (32, 0) dX6_meet_125 (List.Mem.tail _ (List.Mem.tail _ (List.Mem.tail _ (List.Mem.tail _ (List.Mem.head _))))) rfl ?_
            refine ab_iload_n' hG 128 _ _ _ _ 1 _ dX6_meet_128 rfl ?_
            refine ab_iload' hG 129 _ _ _ _ 9 _ dX6_meet_129 rfl ?_
            refine ab_if_eq' hG 131 _ _ _ _ (37) 168 _ dX6_meet_131 (by decide) (fun hc => ?_) (fun hc => ?_)
            · have h := h.1 hc
              refine ab_aload_n' hG 168 _ _ _ _ 0 _ dX6_meet_168 rfl ?_
              refine ab_gR hG 169 _ _ _ _ 13 21 2 0 (23, 0) dX6_meet_169 (List.Mem.tail _ (List.Mem.tail _ (List.Mem.tail _ (List.Mem.tail _ (List.Mem.tail _ (List.Mem.head _)))))) rfl ?_
              refine ab_iload' hG 172 _ _ _ _ 8 _ dX6_meet_172 rfl ?_
              refine ab_iaload' hG 174 _ _ _ _ 23 0 336 _ dX6_meet_174 rfl h.1 ?_
              have h := h.2
              refine ab_iastore' hG 175 _ _ _ _ 32 0 24 _ _ dX6_meet_175 rfl h.1 ?_
              have h := h.2
              refine ab_aload_n' hG 176 _ _ _ _ 0 _ dX6_meet_176 rfl ?_
              refine ab_gR hG 177 _ _ _ _ 54 21 17 0 (33, 0) dX6_meet_177 (List.Mem.tail _ (List.Mem.tail _ (List.Mem.tail _ (List.Mem.tail _ (List.Mem.tail _ (List.Mem.tail _ (List.Mem.head _))))))) rfl ?_
              refine ab_iload_n' hG 180 _ _ _ _ 1 _ dX6_meet_180 rfl ?_
              refine ab_iload' hG 181 _ _ _ _ 9 _ dX6_meet_181 rfl ?_
              refine ab_if_eq' hG 183 _ _ _ _ (37) 220 _ dX6_meet_183 (by decide) (fun hc => ?_) (fun hc => ?_)
              · have h := h.1 hc
                refine ab_aload_n' hG 220 _ _ _ _ 0 _ dX6_meet_220 rfl ?_
                refine ab_gR hG 221 _ _ _ _ 17 21 3 0 (24, 0) dX6_meet_221 (List.Mem.tail _ (List.Mem.tail _ (List.Mem.tail _ (List.Mem.tail _ (List.Mem.tail _ (List.Mem.tail _ (List.Mem.tail _ (List.Mem.head _)))))))) rfl ?_
                refine ab_iload' hG 224 _ _ _ _ 8 _ dX6_meet_224 rfl ?_
                refine ab_iaload' hG 226 _ _ _ _ 24 0 336 _ dX6_meet_226 rfl h.1 ?_
                have h := h.2
                refine ab_iastore' hG 227 _ _ _ _ 33 0 24 _ _ dX6_meet_227 rfl h.1 ?_
                have h := h.2
                refine ab_aload_n' hG 228 _ _ _ _ 0 _ dX6_meet_228 rfl ?_
                refine ab_gR hG 229 _ _ _ _ 48 21 15 0 (31, 0) dX6_meet_229 (List.Mem.tail _ (List.Mem.tail _ (List.Mem.head _))) rfl ?_
                refine ab_iload_n' hG 232 _ _ _ _ 1 _ dX6_meet_232 rfl ?_
                refine ab_iaload' hG 233 _ _ _ _ 31 0 24 _ dX6_meet_233 rfl h.1 ?_
                have h := h.2
                refine ab_if_ne' hG 234 _ _ _ _ (40) 274 _ dX6_meet_234 (by decide) (fun hc => ?_) (fun hc => ?_)
                · have h := h.2 hc
                  exact ab_return_' hG 274 _ _ _ dX6_meet_274 rfl (by decide) h
                · have h := h.1 hc
                  refine ab_aload_n' hG 237 _ _ _ _ 0 _ dX6_meet_237 rfl ?_
                  refine ab_gR hG 238 _ _ _ _ 48 21 15 0 (31, 0) dX6_meet_238 (List.Mem.tail _ (List.Mem.tail _ (List.Mem.head _))) rfl ?_
                  refine ab_iload_n' hG 241 _ _ _ _ 1 _ dX6_meet_241 rfl ?_
                  refine ab_aload_n' hG 242 _ _ _ _ 0 _ dX6_meet_242 rfl ?_
                  refine ab_gR hG 243 _ _ _ _ 51 21 16 0 (32, 0) dX6_meet_243 (List.Mem.tail _ (List.Mem.tail _ (List.Mem.tail _ (List.Mem.tail _ (List.Mem.head _))))) rfl ?_
                  refine ab_iload_n' hG 246 _ _ _ _ 1 _ dX6_meet_246 rfl ?_
                  refine ab_iaload' hG 247 _ _ _ _ 32 0 24 _ dX6_meet_247 rfl h.1 ?_
                  have h := h.2
                  refine ab_bipush' hG 248 _ _ _ _ (-9) (-9) dX6_meet_248 (by decide) ?_
                  refine ab_icmp_ne' hG 250 _ _ _ _ (7) 257 _ _ dX6_meet_250 (by decide) (fun hc => ?_) (fun hc => ?_)
                  · have h := h.2 hc
                    refine ab_aload_n' hG 257 _ _ _ _ 0 _ dX6_meet_257 rfl ?_
                    refine ab_gR hG 258 _ _ _ _ 54 21 17 0 (33, 0) dX6_meet_258 (List.Mem.tail _ (List.Mem.tail _ (List.Mem.tail _ (List.Mem.tail _ (List.Mem.tail _ (List.Mem.tail _ (List.Mem.head _))))))) rfl ?_
                    refine ab_iload_n' hG 261 _ _ _ _ 1 _ dX6_meet_261 rfl ?_
                    refine ab_iaload' hG 262 _ _ _ _ 33 0 24 _ dX6_meet_262 rfl h.1 ?_
                    have h := h.2
                    refine ab_bipush' hG 263 _ _ _ _ (-9) (-9) dX6_meet_263 (by decide) ?_
                    refine ab_icmp_ne' hG 265 _ _ _ _ (7) 272 _ _ dX6_meet_265 (by decide) (fun hc => ?_) (fun hc => ?_)
                    · have h := h.2 hc
                      refine ab_iconst' hG 272 _ _ _ _ 0 0 dX6_meet_272 (by decide) ?_
                      refine ab_iastore' hG 273 _ _ _ _ 31 0 24 _ _ dX6_meet_273 rfl h.1 ?_
                      have h := h.2
                      exact ab_return_' hG 274 _ _ _ dX6_meet_274 rfl (by decide) h
                    · have h := h.1 hc
                      refine ab_iconst' hG 268 _ _ _ _ 3 3 dX6_meet_268 (by decide) ?_
                      refine ab_goto' hG 269 _ _ _ _ (4) 273 dX6_meet_269 (by decide) ?_
                      refine ab_iastore' hG 273 _ _ _ _ 31 0 24 _ _ dX6_meet_273 rfl h.1 ?_
                      have h := h.2
                      exact ab_return_' hG 274 _ _ _ dX6_meet_274 rfl (by decide) h
                  · have h := h.1 hc
                    refine ab_iconst' hG 253 _ _ _ _ 2 2 dX6_meet_253 (by decide) ?_
                    refine ab_goto' hG 254 _ _ _ _ (19) 273 dX6_meet_254 (by decide) ?_
                    refine ab_iastore' hG 273 _ _ _ _ 31 0 24 _ _ dX6_meet_273 rfl h.1 ?_
                    have h := h.2
                    exact ab_return_' hG 274 _ _ _ dX6_meet_274 rfl (by decide) h
              · have h := h.2 hc
                refine ab_aload_n' hG 186 _ _ _ _ 0 _ dX6_meet_186 rfl ?_
                refine ab_gR hG 187 _ _ _ _ 17 21 3 0 (24, 0) dX6_meet_187 (List.Mem.tail _ (List.Mem.tail _ (List.Mem.tail _ (List.Mem.tail _ (List.Mem.tail _ (List.Mem.tail _ (List.Mem.tail _ (List.Mem.head _)))))))) rfl ?_
                refine ab_iload' hG 190 _ _ _ _ 4 _ dX6_meet_190 rfl ?_
                refine ab_iaload' hG 192 _ _ _ _ 24 0 336 _ dX6_meet_192 rfl h.1 ?_
                have h := h.2
                refine ab_aload_n' hG 193 _ _ _ _ 0 _ dX6_meet_193 rfl ?_
                refine ab_gR hG 194 _ _ _ _ 17 21 3 0 (24, 0) dX6_meet_194 (List.Mem.tail _ (List.Mem.tail _ (List.Mem.tail _ (List.Mem.tail _ (List.Mem.tail _ (List.Mem.tail _ (List.Mem.tail _ (List.Mem.head _)))))))) rfl ?_
                refine ab_iload' hG 197 _ _ _ _ 5 _ dX6_meet_197 rfl ?_
                refine ab_iaload' hG 199 _ _ _ _ 24 0 336 _ dX6_meet_199 rfl h.1 ?_
                have h := h.2
                refine ab_aload_n' hG 200 _ _ _ _ 0 _ dX6_meet_200 rfl ?_
                refine ab_gR hG 201 _ _ _ _ 7 21 1 0 (22, 0) dX6_meet_201 (List.Mem.tail _ (List.Mem.tail _ (List.Mem.tail _ (List.Mem.head _)))) rfl ?_
                refine ab_iload' hG 204 _ _ _ _ 6 _ dX6_meet_204 rfl ?_
                refine ab_baload' hG 206 _ _ _ _ 22 0 336 _ dX6_meet_206 rfl h.1 ?_
                have h := h.2
                refine ab_aload_n' hG 207 _ _ _ _ 0 _ dX6_meet_207 rfl ?_
                refine ab_gR hG 208 _ _ _ _ 17 21 3 0 (24, 0) dX6_meet_208 (List.Mem.tail _ (List.Mem.tail _ (List.Mem.tail _ (List.Mem.tail _ (List.Mem.tail _ (List.Mem.tail _ (List.Mem.tail _ (List.Mem.head _)))))))) rfl ?_
                refine ab_iload' hG 211 _ _ _ _ 6 _ dX6_meet_211 rfl ?_
                refine ab_iaload' hG 213 _ _ _ _ 24 0 336 _ dX6_meet_213 rfl h.1 ?_
                have h := h.2
                exact ab_invs' hG 214 [some (.inr (21, 0)), some (.inl x1), some (.inl x2), some (.inl x3), some (.inl x4), some (.inl x5), some (.inl x6), some (.inl xs0), some (.inl x4), some (.inl 0)] [(.inl ((ab_su (ab_su (ab_su S 30 0 x1.toNatClampNeg (vp_nar .boolean 0)) 31 0 x1.toNatClampNeg 0) 32 0 x1.toNatClampNeg ((ab_su (ab_su S 30 0 x1.toNatClampNeg (vp_nar .boolean 0)) 31 0 x1.toNatClampNeg 0) 23 0 x4.toNatClampNeg)) 24 0 x4.toNatClampNeg)), (.inl ((ab_su (ab_su (ab_su S 30 0 x1.toNatClampNeg (vp_nar .boolean 0)) 31 0 x1.toNatClampNeg 0) 32 0 x1.toNatClampNeg ((ab_su (ab_su S 30 0 x1.toNatClampNeg (vp_nar .boolean 0)) 31 0 x1.toNatClampNeg 0) 23 0 x4.toNatClampNeg)) 24 0 x5.toNatClampNeg)), (.inl ((ab_su (ab_su (ab_su S 30 0 x1.toNatClampNeg (vp_nar .boolean 0)) 31 0 x1.toNatClampNeg 0) 32 0 x1.toNatClampNeg ((ab_su (ab_su S 30 0 x1.toNatClampNeg (vp_nar .boolean 0)) 31 0 x1.toNatClampNeg 0) 23 0 x4.toNatClampNeg)) 22 0 x6.toNatClampNeg)), (.inl ((ab_su (ab_su (ab_su S 30 0 x1.toNatClampNeg (vp_nar .boolean 0)) 31 0 x1.toNatClampNeg 0) 32 0 x1.toNatClampNeg ((ab_su (ab_su S 30 0 x1.toNatClampNeg (vp_nar .boolean 0)) 31 0 x1.toNatClampNeg 0) 23 0 x4.toNatClampNeg)) 24 0 x6.toNatClampNeg))] [(.inl x1), (.inr (33, 0))] (ab_su (ab_su (ab_su S 30 0 x1.toNatClampNeg (vp_nar .boolean 0)) 31 0 x1.toNatClampNeg 0) 32 0 x1.toNatClampNeg ((ab_su (ab_su S 30 0 x1.toNatClampNeg (vp_nar .boolean 0)) 31 0 x1.toNatClampNeg 0) 23 0 x4.toNatClampNeg)) 0 137 _ 4 1 0 _ dX6_meet_214 rfl rfl (by decide) (by decide) h
            · have h := h.2 hc
              refine ab_aload_n' hG 134 _ _ _ _ 0 _ dX6_meet_134 rfl ?_
              refine ab_gR hG 135 _ _ _ _ 13 21 2 0 (23, 0) dX6_meet_135 (List.Mem.tail _ (List.Mem.tail _ (List.Mem.tail _ (List.Mem.tail _ (List.Mem.tail _ (List.Mem.head _)))))) rfl ?_
              refine ab_iload' hG 138 _ _ _ _ 4 _ dX6_meet_138 rfl ?_
              refine ab_iaload' hG 140 _ _ _ _ 23 0 336 _ dX6_meet_140 rfl h.1 ?_
              have h := h.2
              refine ab_aload_n' hG 141 _ _ _ _ 0 _ dX6_meet_141 rfl ?_
              refine ab_gR hG 142 _ _ _ _ 13 21 2 0 (23, 0) dX6_meet_142 (List.Mem.tail _ (List.Mem.tail _ (List.Mem.tail _ (List.Mem.tail _ (List.Mem.tail _ (List.Mem.head _)))))) rfl ?_
              refine ab_iload' hG 145 _ _ _ _ 5 _ dX6_meet_145 rfl ?_
              refine ab_iaload' hG 147 _ _ _ _ 23 0 336 _ dX6_meet_147 rfl h.1 ?_
              have h := h.2
              refine ab_aload_n' hG 148 _ _ _ _ 0 _ dX6_meet_148 rfl ?_
              refine ab_gR hG 149 _ _ _ _ 7 21 1 0 (22, 0) dX6_meet_149 (List.Mem.tail _ (List.Mem.tail _ (List.Mem.tail _ (List.Mem.head _)))) rfl ?_
              refine ab_iload' hG 152 _ _ _ _ 6 _ dX6_meet_152 rfl ?_
              refine ab_baload' hG 154 _ _ _ _ 22 0 336 _ dX6_meet_154 rfl h.1 ?_
              have h := h.2
              refine ab_aload_n' hG 155 _ _ _ _ 0 _ dX6_meet_155 rfl ?_
              refine ab_gR hG 156 _ _ _ _ 13 21 2 0 (23, 0) dX6_meet_156 (List.Mem.tail _ (List.Mem.tail _ (List.Mem.tail _ (List.Mem.tail _ (List.Mem.tail _ (List.Mem.head _)))))) rfl ?_
              refine ab_iload' hG 159 _ _ _ _ 6 _ dX6_meet_159 rfl ?_
              refine ab_iaload' hG 161 _ _ _ _ 23 0 336 _ dX6_meet_161 rfl h.1 ?_
              have h := h.2
              exact ab_invs' hG 162 [some (.inr (21, 0)), some (.inl x1), some (.inl x2), some (.inl x3), some (.inl x4), some (.inl x5), some (.inl x6), some (.inl xs0), some (.inl x4), some (.inl 0)] [(.inl ((ab_su (ab_su S 30 0 x1.toNatClampNeg (vp_nar .boolean 0)) 31 0 x1.toNatClampNeg 0) 23 0 x4.toNatClampNeg)), (.inl ((ab_su (ab_su S 30 0 x1.toNatClampNeg (vp_nar .boolean 0)) 31 0 x1.toNatClampNeg 0) 23 0 x5.toNatClampNeg)), (.inl ((ab_su (ab_su S 30 0 x1.toNatClampNeg (vp_nar .boolean 0)) 31 0 x1.toNatClampNeg 0) 22 0 x6.toNatClampNeg)), (.inl ((ab_su (ab_su S 30 0 x1.toNatClampNeg (vp_nar .boolean 0)) 31 0 x1.toNatClampNeg 0) 23 0 x6.toNatClampNeg))] [(.inl x1), (.inr (32, 0))] (ab_su (ab_su S 30 0 x1.toNatClampNeg (vp_nar .boolean 0)) 31 0 x1.toNatClampNeg 0) 0 137 _ 4 1 0 _ dX6_meet_162 rfl rfl (by decide) (by decide) h
          · have h := h.2 hc
            refine ab_aload_n' hG 107 _ _ _ _ 0 _ dX6_meet_107 rfl ?_
            refine ab_gR hG 108 _ _ _ _ 7 21 1 0 (22, 0) dX6_meet_108 (List.Mem.tail _ (List.Mem.tail _ (List.Mem.tail _ (List.Mem.head _)))) rfl ?_
            refine ab_iload' hG 111 _ _ _ _ 5 _ dX6_meet_111 rfl ?_
            refine ab_baload' hG 113 _ _ _ _ 22 0 336 _ dX6_meet_113 rfl h.1 ?_
            have h := h.2
            refine ab_if_eq' hG 114 _ _ _ _ (7) 121 _ dX6_meet_114 (by decide) (fun hc => ?_) (fun hc => ?_)
            · have h := h.1 hc
              refine ab_iconst' hG 121 _ _ _ _ 0 0 dX6_meet_121 (by decide) ?_
              refine ab_istore' hG 122 _ _ _ _ 9 _ dX6_meet_122 (by decide) ?_
              refine ab_aload_n' hG 124 _ _ _ _ 0 _ dX6_meet_124 rfl ?_
              refine ab_gR hG 125 _ _ _ _ 51 21 16 0 (32, 0) dX6_meet_125 (List.Mem.tail _ (List.Mem.tail _ (List.Mem.tail _ (List.Mem.tail _ (List.Mem.head _))))) rfl ?_
              refine ab_iload_n' hG 128 _ _ _ _ 1 _ dX6_meet_128 rfl ?_
              refine ab_iload' hG 129 _ _ _ _ 9 _ dX6_meet_129 rfl ?_
              refine ab_if_eq' hG 131 _ _ _ _ (37) 168 _ dX6_meet_131 (by decide) (fun hc => ?_) (fun hc => ?_)
              · have h := h.1 hc
                refine ab_aload_n' hG 168 _ _ _ _ 0 _ dX6_meet_168 rfl ?_
                refine ab_gR hG 169 _ _ _ _ 13 21 2 0 (23, 0) dX6_meet_169 (List.Mem.tail _ (List.Mem.tail _ (List.Mem.tail _ (List.Mem.tail _ (List.Mem.tail _ (List.Mem.head _)))))) rfl ?_
                refine ab_iload' hG 172 _ _ _ _ 8 _ dX6_meet_172 rfl ?_
                refine ab_iaload' hG 174 _ _ _ _ 23 0 336 _ dX6_meet_174 rfl h.1 ?_
                have h := h.2
                refine ab_iastore' hG 175 _ _ _ _ 32 0 24 _ _ dX6_meet_175 rfl h.1 ?_
                have h := h.2
                refine ab_aload_n' hG 176 _ _ _ _ 0 _ dX6_meet_176 rfl ?_
                refine ab_gR hG 177 _ _ _ _ 54 21 17 0 (33, 0) dX6_meet_177 (List.Mem.tail _ (List.Mem.tail _ (List.Mem.tail _ (List.Mem.tail _ (List.Mem.tail _ (List.Mem.tail _ (List.Mem.head _))))))) rfl ?_
                refine ab_iload_n' hG 180 _ _ _ _ 1 _ dX6_meet_180 rfl ?_
                refine ab_iload' hG 181 _ _ _ _ 9 _ dX6_meet_181 rfl ?_
                refine ab_if_eq' hG 183 _ _ _ _ (37) 220 _ dX6_meet_183 (by decide) (fun hc => ?_) (fun hc => ?_)
                · have h := h.1 hc
                  refine ab_aload_n' hG 220 _ _ _ _ 0 _ dX6_meet_220 rfl ?_
                  refine ab_gR hG 221 _ _ _ _ 17 21 3 0 (24, 0) dX6_meet_221 (List.Mem.tail _ (List.Mem.tail _ (List.Mem.tail _ (List.Mem.tail _ (List.Mem.tail _ (List.Mem.tail _ (List.Mem.tail _ (List.Mem.head _)))))))) rfl ?_
                  refine ab_iload' hG 224 _ _ _ _ 8 _ dX6_meet_224 rfl ?_
                  refine ab_iaload' hG 226 _ _ _ _ 24 0 336 _ dX6_meet_226 rfl h.1 ?_
                  have h := h.2
                  refine ab_iastore' hG 227 _ _ _ _ 33 0 24 _ _ dX6_meet_227 rfl h.1 ?_
                  have h := h.2
                  refine ab_aload_n' hG 228 _ _ _ _ 0 _ dX6_meet_228 rfl ?_
                  refine ab_gR hG 229 _ _ _ _ 48 21 15 0 (31, 0) dX6_meet_229 (List.Mem.tail _ (List.Mem.tail _ (List.Mem.head _))) rfl ?_
                  refine ab_iload_n' hG 232 _ _ _ _ 1 _ dX6_meet_232 rfl ?_
                  refine ab_iaload' hG 233 _ _ _ _ 31 0 24 _ dX6_meet_233 rfl h.1 ?_
                  have h := h.2
                  refine ab_if_ne' hG 234 _ _ _ _ (40) 274 _ dX6_meet_234 (by decide) (fun hc => ?_) (fun hc => ?_)
                  · have h := h.2 hc
                    exact ab_return_' hG 274 _ _ _ dX6_meet_274 rfl (by decide) h
                  · have h := h.1 hc
                    refine ab_aload_n' hG 237 _ _ _ _ 0 _ dX6_meet_237 rfl ?_
                    refine ab_gR hG 238 _ _ _ _ 48 21 15 0 (31, 0) dX6_meet_238 (List.Mem.tail _ (List.Mem.tail _ (List.Mem.head _))) rfl ?_
                    refine ab_iload_n' hG 241 _ _ _ _ 1 _ dX6_meet_241 rfl ?_
                    refine ab_aload_n' hG 242 _ _ _ _ 0 _ dX6_meet_242 rfl ?_
                    refine ab_gR hG 243 _ _ _ _ 51 21 16 0 (32, 0) dX6_meet_243 (List.Mem.tail _ (List.Mem.tail _ (List.Mem.tail _ (List.Mem.tail _ (List.Mem.head _))))) rfl ?_
                    refine ab_iload_n' hG 246 _ _ _ _ 1 _ dX6_meet_246 rfl ?_
                    refine ab_iaload' hG 247 _ _ _ _ 32 0 24 _ dX6_meet_247 rfl h.1 ?_
                    have h := h.2
                    refine ab_bipush' hG 248 _ _ _ _ (-9) (-9) dX6_meet_248 (by decide) ?_
                    refine ab_icmp_ne' hG 250 _ _ _ _ (7) 257 _ _ dX6_meet_250 (by decide) (fun hc => ?_) (fun hc => ?_)
                    · have h := h.2 hc
                      refine ab_aload_n' hG 257 _ _ _ _ 0 _ dX6_meet_257 rfl ?_
                      refine ab_gR hG 258 _ _ _ _ 54 21 17 0 (33, 0) dX6_meet_258 (List.Mem.tail _ (List.Mem.tail _ (List.Mem.tail _ (List.Mem.tail _ (List.Mem.tail _ (List.Mem.tail _ (List.Mem.head _))))))) rfl ?_
                      refine ab_iload_n' hG 261 _ _ _ _ 1 _ dX6_meet_261 rfl ?_
                      refine ab_iaload' hG 262 _ _ _ _ 33 0 24 _ dX6_meet_262 rfl h.1 ?_
                      have h := h.2
                      refine ab_bipush' hG 263 _ _ _ _ (-9) (-9) dX6_meet_263 (by decide) ?_
                      refine ab_icmp_ne' hG 265 _ _ _ _ (7) 272 _ _ dX6_meet_265 (by decide) (fun hc => ?_) (fun hc => ?_)
                      · have h := h.2 hc
                        refine ab_iconst' hG 272 _ _ _ _ 0 0 dX6_meet_272 (by decide) ?_
                        refine ab_iastore' hG 273 _ _ _ _ 31 0 24 _ _ dX6_meet_273 rfl h.1 ?_
                        have h := h.2
                        exact ab_return_' hG 274 _ _ _ dX6_meet_274 rfl (by decide) h
                      · have h := h.1 hc
                        refine ab_iconst' hG 268 _ _ _ _ 3 3 dX6_meet_268 (by decide) ?_
                        refine ab_goto' hG 269 _ _ _ _ (4) 273 dX6_meet_269 (by decide) ?_
                        refine ab_iastore' hG 273 _ _ _ _ 31 0 24 _ _ dX6_meet_273 rfl h.1 ?_
                        have h := h.2
                        exact ab_return_' hG 274 _ _ _ dX6_meet_274 rfl (by decide) h
                    · have h := h.1 hc
                      refine ab_iconst' hG 253 _ _ _ _ 2 2 dX6_meet_253 (by decide) ?_
                      refine ab_goto' hG 254 _ _ _ _ (19) 273 dX6_meet_254 (by decide) ?_
                      refine ab_iastore' hG 273 _ _ _ _ 31 0 24 _ _ dX6_meet_273 rfl h.1 ?_
                      have h := h.2
                      exact ab_return_' hG 274 _ _ _ dX6_meet_274 rfl (by decide) h
                · have h := h.2 hc
                  refine ab_aload_n' hG 186 _ _ _ _ 0 _ dX6_meet_186 rfl ?_
                  refine ab_gR hG 187 _ _ _ _ 17 21 3 0 (24, 0) dX6_meet_187 (List.Mem.tail _ (List.Mem.tail _ (List.Mem.tail _ (List.Mem.tail _ (List.Mem.tail _ (List.Mem.tail _ (List.Mem.tail _ (List.Mem.head _)))))))) rfl ?_
                  refine ab_iload' hG 190 _ _ _ _ 4 _ dX6_meet_190 rfl ?_
                  refine ab_iaload' hG 192 _ _ _ _ 24 0 336 _ dX6_meet_192 rfl h.1 ?_
                  have h := h.2
                  refine ab_aload_n' hG 193 _ _ _ _ 0 _ dX6_meet_193 rfl ?_
                  refine ab_gR hG 194 _ _ _ _ 17 21 3 0 (24, 0) dX6_meet_194 (List.Mem.tail _ (List.Mem.tail _ (List.Mem.tail _ (List.Mem.tail _ (List.Mem.tail _ (List.Mem.tail _ (List.Mem.tail _ (List.Mem.head _)))))))) rfl ?_
                  refine ab_iload' hG 197 _ _ _ _ 5 _ dX6_meet_197 rfl ?_
                  refine ab_iaload' hG 199 _ _ _ _ 24 0 336 _ dX6_meet_199 rfl h.1 ?_
                  have h := h.2
                  refine ab_aload_n' hG 200 _ _ _ _ 0 _ dX6_meet_200 rfl ?_
                  refine ab_gR hG 201 _ _ _ _ 7 21 1 0 (22, 0) dX6_meet_201 (List.Mem.tail _ (List.Mem.tail _ (List.Mem.tail _ (List.Mem.head _)))) rfl ?_
                  refine ab_iload' hG 204 _ _ _ _ 6 _ dX6_meet_204 rfl ?_
                  refine ab_baload' hG 206 _ _ _ _ 22 0 336 _ dX6_meet_206 rfl h.1 ?_
                  have h := h.2
                  refine ab_aload_n' hG 207 _ _ _ _ 0 _ dX6_meet_207 rfl ?_
                  refine ab_gR hG 208 _ _ _ _ 17 21 3 0 (24, 0) dX6_meet_208 (List.Mem.tail _ (List.Mem.tail _ (List.Mem.tail _ (List.Mem.tail _ (List.Mem.tail _ (List.Mem.tail _ (List.Mem.tail _ (List.Mem.head _)))))))) rfl ?_
                  refine ab_iload' hG 211 _ _ _ _ 6 _ dX6_meet_211 rfl ?_
                  refine ab_iaload' hG 213 _ _ _ _ 24 0 336 _ dX6_meet_213 rfl h.1 ?_
                  have h := h.2
                  exact ab_invs' hG 214 [some (.inr (21, 0)), some (.inl x1), some (.inl x2), some (.inl x3), some (.inl x4), some (.inl x5), some (.inl x6), some (.inl xs0), some (.inl x4), some (.inl 0)] [(.inl ((ab_su (ab_su (ab_su S 30 0 x1.toNatClampNeg (vp_nar .boolean 0)) 31 0 x1.toNatClampNeg 0) 32 0 x1.toNatClampNeg ((ab_su (ab_su S 30 0 x1.toNatClampNeg (vp_nar .boolean 0)) 31 0 x1.toNatClampNeg 0) 23 0 x4.toNatClampNeg)) 24 0 x4.toNatClampNeg)), (.inl ((ab_su (ab_su (ab_su S 30 0 x1.toNatClampNeg (vp_nar .boolean 0)) 31 0 x1.toNatClampNeg 0) 32 0 x1.toNatClampNeg ((ab_su (ab_su S 30 0 x1.toNatClampNeg (vp_nar .boolean 0)) 31 0 x1.toNatClampNeg 0) 23 0 x4.toNatClampNeg)) 24 0 x5.toNatClampNeg)), (.inl ((ab_su (ab_su (ab_su S 30 0 x1.toNatClampNeg (vp_nar .boolean 0)) 31 0 x1.toNatClampNeg 0) 32 0 x1.toNatClampNeg ((ab_su (ab_su S 30 0 x1.toNatClampNeg (vp_nar .boolean 0)) 31 0 x1.toNatClampNeg 0) 23 0 x4.toNatClampNeg)) 22 0 x6.toNatClampNeg)), (.inl ((ab_su (ab_su (ab_su S 30 0 x1.toNatClampNeg (vp_nar .boolean 0)) 31 0 x1.toNatClampNeg 0) 32 0 x1.toNatClampNeg ((ab_su (ab_su S 30 0 x1.toNatClampNeg (vp_nar .boolean 0)) 31 0 x1.toNatClampNeg 0) 23 0 x4.toNatClampNeg)) 24 0 x6.toNatClampNeg))] [(.inl x1), (.inr (33, 0))] (ab_su (ab_su (ab_su S 30 0 x1.toNatClampNeg (vp_nar .boolean 0)) 31 0 x1.toNatClampNeg 0) 32 0 x1.toNatClampNeg ((ab_su (ab_su S 30 0 x1.toNatClampNeg (vp_nar .boolean 0)) 31 0 x1.toNatClampNeg 0) 23 0 x4.toNatClampNeg)) 0 137 _ 4 1 0 _ dX6_meet_214 rfl rfl (by decide) (by decide) h
              · have h := h.2 hc
                refine ab_aload_n' hG 134 _ _ _ _ 0 _ dX6_meet_134 rfl ?_
                refine ab_gR hG 135 _ _ _ _ 13 21 2 0 (23, 0) dX6_meet_135 (List.Mem.tail _ (List.Mem.tail _ (List.Mem.tail _ (List.Mem.tail _ (List.Mem.tail _ (List.Mem.head _)))))) rfl ?_
                refine ab_iload' hG 138 _ _ _ _ 4 _ dX6_meet_138 rfl ?_
                refine ab_iaload' hG 140 _ _ _ _ 23 0 336 _ dX6_meet_140 rfl h.1 ?_
                have h := h.2
                refine ab_aload_n' hG 141 _ _ _ _ 0 _ dX6_meet_141 rfl ?_
                refine ab_gR hG 142 _ _ _ _ 13 21 2 0 (23, 0) dX6_meet_142 (List.Mem.tail _ (List.Mem.tail _ (List.Mem.tail _ (List.Mem.tail _ (List.Mem.tail _ (List.Mem.head _)))))) rfl ?_
                refine ab_iload' hG 145 _ _ _ _ 5 _ dX6_meet_145 rfl ?_
                refine ab_iaload' hG 147 _ _ _ _ 23 0 336 _ dX6_meet_147 rfl h.1 ?_
                have h := h.2
                refine ab_aload_n' hG 148 _ _ _ _ 0 _ dX6_meet_148 rfl ?_
                refine ab_gR hG 149 _ _ _ _ 7 21 1 0 (22, 0) dX6_meet_149 (List.Mem.tail _ (List.Mem.tail _ (List.Mem.tail _ (List.Mem.head _)))) rfl ?_
                refine ab_iload' hG 152 _ _ _ _ 6 _ dX6_meet_152 rfl ?_
                refine ab_baload' hG 154 _ _ _ _ 22 0 336 _ dX6_meet_154 rfl h.1 ?_
                have h := h.2
                refine ab_aload_n' hG 155 _ _ _ _ 0 _ dX6_meet_155 rfl ?_
                refine ab_gR hG 156 _ _ _ _ 13 21 2 0 (23, 0) dX6_meet_156 (List.Mem.tail _ (List.Mem.tail _ (List.Mem.tail _ (List.Mem.tail _ (List.Mem.tail _ (List.Mem.head _)))))) rfl ?_
                refine ab_iload' hG 159 _ _ _ _ 6 _ dX6_meet_159 rfl ?_
                refine ab_iaload' hG 161 _ _ _ _ 23 0 336 _ dX6_meet_161 rfl h.1 ?_
                have h := h.2
                exact ab_invs' hG 162 [some (.inr (21, 0)), some (.inl x1), some (.inl x2), some (.inl x3), some (.inl x4), some (.inl x5), some (.inl x6), some (.inl xs0), some (.inl x4), some (.inl 0)] [(.inl ((ab_su (ab_su S 30 0 x1.toNatClampNeg (vp_nar .boolean 0)) 31 0 x1.toNatClampNeg 0) 23 0 x4.toNatClampNeg)), (.inl ((ab_su (ab_su S 30 0 x1.toNatClampNeg (vp_nar .boolean 0)) 31 0 x1.toNatClampNeg 0) 23 0 x5.toNatClampNeg)), (.inl ((ab_su (ab_su S 30 0 x1.toNatClampNeg (vp_nar .boolean 0)) 31 0 x1.toNatClampNeg 0) 22 0 x6.toNatClampNeg)), (.inl ((ab_su (ab_su S 30 0 x1.toNatClampNeg (vp_nar .boolean 0)) 31 0 x1.toNatClampNeg 0) 23 0 x6.toNatClampNeg))] [(.inl x1), (.inr (32, 0))] (ab_su (ab_su S 30 0 x1.toNatClampNeg (vp_nar .boolean 0)) 31 0 x1.toNatClampNeg 0) 0 137 _ 4 1 0 _ dX6_meet_162 rfl rfl (by decide) (by decide) h
            · have h := h.2 hc
              refine ab_iconst' hG 117 _ _ _ _ 1 1 dX6_meet_117 (by decide) ?_
              refine ab_goto' hG 118 _ _ _ _ (4) 122 dX6_meet_118 (by decide) ?_
              refine ab_istore' hG 122 _ _ _ _ 9 _ dX6_meet_122 (by decide) ?_
              refine ab_aload_n' hG 124 _ _ _ _ 0 _ dX6_meet_124 rfl ?_
              refine ab_gR hG 125 _ _ _ _ 51 21 16 0 (32, 0) dX6_meet_125 (List.Mem.tail _ (List.Mem.tail _ (List.Mem.tail _ (List.Mem.tail _ (List.Mem.head _))))) rfl ?_
              refine ab_iload_n' hG 128 _ _ _ _ 1 _ dX6_meet_128 rfl ?_
              refine ab_iload' hG 129 _ _ _ _ 9 _ dX6_meet_129 rfl ?_
              refine ab_if_eq' hG 131 _ _ _ _ (37) 168 _ dX6_meet_131 (by decide) (fun hc => ?_) (fun hc => ?_)
              · have h := h.1 hc
                refine ab_aload_n' hG 168 _ _ _ _ 0 _ dX6_meet_168 rfl ?_
                refine ab_gR hG 169 _ _ _ _ 13 21 2 0 (23, 0) dX6_meet_169 (List.Mem.tail _ (List.Mem.tail _ (List.Mem.tail _ (List.Mem.tail _ (List.Mem.tail _ (List.Mem.head _)))))) rfl ?_
                refine ab_iload' hG 172 _ _ _ _ 8 _ dX6_meet_172 rfl ?_
                refine ab_iaload' hG 174 _ _ _ _ 23 0 336 _ dX6_meet_174 rfl h.1 ?_
                have h := h.2
                refine ab_iastore' hG 175 _ _ _ _ 32 0 24 _ _ dX6_meet_175 rfl h.1 ?_
                have h := h.2
                refine ab_aload_n' hG 176 _ _ _ _ 0 _ dX6_meet_176 rfl ?_
                refine ab_gR hG 177 _ _ _ _ 54 21 17 0 (33, 0) dX6_meet_177 (List.Mem.tail _ (List.Mem.tail _ (List.Mem.tail _ (List.Mem.tail _ (List.Mem.tail _ (List.Mem.tail _ (List.Mem.head _))))))) rfl ?_
                refine ab_iload_n' hG 180 _ _ _ _ 1 _ dX6_meet_180 rfl ?_
                refine ab_iload' hG 181 _ _ _ _ 9 _ dX6_meet_181 rfl ?_
                refine ab_if_eq' hG 183 _ _ _ _ (37) 220 _ dX6_meet_183 (by decide) (fun hc => ?_) (fun hc => ?_)
                · have h := h.1 hc
                  refine ab_aload_n' hG 220 _ _ _ _ 0 _ dX6_meet_220 rfl ?_
                  refine ab_gR hG 221 _ _ _ _ 17 21 3 0 (24, 0) dX6_meet_221 (List.Mem.tail _ (List.Mem.tail _ (List.Mem.tail _ (List.Mem.tail _ (List.Mem.tail _ (List.Mem.tail _ (List.Mem.tail _ (List.Mem.head _)))))))) rfl ?_
                  refine ab_iload' hG 224 _ _ _ _ 8 _ dX6_meet_224 rfl ?_
                  refine ab_iaload' hG 226 _ _ _ _ 24 0 336 _ dX6_meet_226 rfl h.1 ?_
                  have h := h.2
                  refine ab_iastore' hG 227 _ _ _ _ 33 0 24 _ _ dX6_meet_227 rfl h.1 ?_
                  have h := h.2
                  refine ab_aload_n' hG 228 _ _ _ _ 0 _ dX6_meet_228 rfl ?_
                  refine ab_gR hG 229 _ _ _ _ 48 21 15 0 (31, 0) dX6_meet_229 (List.Mem.tail _ (List.Mem.tail _ (List.Mem.head _))) rfl ?_
                  refine ab_iload_n' hG 232 _ _ _ _ 1 _ dX6_meet_232 rfl ?_
                  refine ab_iaload' hG 233 _ _ _ _ 31 0 24 _ dX6_meet_233 rfl h.1 ?_
                  have h := h.2
                  refine ab_if_ne' hG 234 _ _ _ _ (40) 274 _ dX6_meet_234 (by decide) (fun hc => ?_) (fun hc => ?_)
                  · have h := h.2 hc
                    exact ab_return_' hG 274 _ _ _ dX6_meet_274 rfl (by decide) h
                  · have h := h.1 hc
                    refine ab_aload_n' hG 237 _ _ _ _ 0 _ dX6_meet_237 rfl ?_
                    refine ab_gR hG 238 _ _ _ _ 48 21 15 0 (31, 0) dX6_meet_238 (List.Mem.tail _ (List.Mem.tail _ (List.Mem.head _))) rfl ?_
                    refine ab_iload_n' hG 241 _ _ _ _ 1 _ dX6_meet_241 rfl ?_
                    refine ab_aload_n' hG 242 _ _ _ _ 0 _ dX6_meet_242 rfl ?_
                    refine ab_gR hG 243 _ _ _ _ 51 21 16 0 (32, 0) dX6_meet_243 (List.Mem.tail _ (List.Mem.tail _ (List.Mem.tail _ (List.Mem.tail _ (List.Mem.head _))))) rfl ?_
                    refine ab_iload_n' hG 246 _ _ _ _ 1 _ dX6_meet_246 rfl ?_
                    refine ab_iaload' hG 247 _ _ _ _ 32 0 24 _ dX6_meet_247 rfl h.1 ?_
                    have h := h.2
                    refine ab_bipush' hG 248 _ _ _ _ (-9) (-9) dX6_meet_248 (by decide) ?_
                    refine ab_icmp_ne' hG 250 _ _ _ _ (7) 257 _ _ dX6_meet_250 (by decide) (fun hc => ?_) (fun hc => ?_)
                    · have h := h.2 hc
                      refine ab_aload_n' hG 257 _ _ _ _ 0 _ dX6_meet_257 rfl ?_
                      refine ab_gR hG 258 _ _ _ _ 54 21 17 0 (33, 0) dX6_meet_258 (List.Mem.tail _ (List.Mem.tail _ (List.Mem.tail _ (List.Mem.tail _ (List.Mem.tail _ (List.Mem.tail _ (List.Mem.head _))))))) rfl ?_
                      refine ab_iload_n' hG 261 _ _ _ _ 1 _ dX6_meet_261 rfl ?_
                      refine ab_iaload' hG 262 _ _ _ _ 33 0 24 _ dX6_meet_262 rfl h.1 ?_
                      have h := h.2
                      refine ab_bipush' hG 263 _ _ _ _ (-9) (-9) dX6_meet_263 (by decide) ?_
                      refine ab_icmp_ne' hG 265 _ _ _ _ (7) 272 _ _ dX6_meet_265 (by decide) (fun hc => ?_) (fun hc => ?_)
                      · have h := h.2 hc
                        refine ab_iconst' hG 272 _ _ _ _ 0 0 dX6_meet_272 (by decide) ?_
                        refine ab_iastore' hG 273 _ _ _ _ 31 0 24 _ _ dX6_meet_273 rfl h.1 ?_
                        have h := h.2
                        exact ab_return_' hG 274 _ _ _ dX6_meet_274 rfl (by decide) h
                      · have h := h.1 hc
                        refine ab_iconst' hG 268 _ _ _ _ 3 3 dX6_meet_268 (by decide) ?_
                        refine ab_goto' hG 269 _ _ _ _ (4) 273 dX6_meet_269 (by decide) ?_
                        refine ab_iastore' hG 273 _ _ _ _ 31 0 24 _ _ dX6_meet_273 rfl h.1 ?_
                        have h := h.2
                        exact ab_return_' hG 274 _ _ _ dX6_meet_274 rfl (by decide) h
                    · have h := h.1 hc
                      refine ab_iconst' hG 253 _ _ _ _ 2 2 dX6_meet_253 (by decide) ?_
                      refine ab_goto' hG 254 _ _ _ _ (19) 273 dX6_meet_254 (by decide) ?_
                      refine ab_iastore' hG 273 _ _ _ _ 31 0 24 _ _ dX6_meet_273 rfl h.1 ?_
                      have h := h.2
                      exact ab_return_' hG 274 _ _ _ dX6_meet_274 rfl (by decide) h
                · have h := h.2 hc
                  refine ab_aload_n' hG 186 _ _ _ _ 0 _ dX6_meet_186 rfl ?_
                  refine ab_gR hG 187 _ _ _ _ 17 21 3 0 (24, 0) dX6_meet_187 (List.Mem.tail _ (List.Mem.tail _ (List.Mem.tail _ (List.Mem.tail _ (List.Mem.tail _ (List.Mem.tail _ (List.Mem.tail _ (List.Mem.head _)))))))) rfl ?_
                  refine ab_iload' hG 190 _ _ _ _ 4 _ dX6_meet_190 rfl ?_
                  refine ab_iaload' hG 192 _ _ _ _ 24 0 336 _ dX6_meet_192 rfl h.1 ?_
                  have h := h.2
                  refine ab_aload_n' hG 193 _ _ _ _ 0 _ dX6_meet_193 rfl ?_
                  refine ab_gR hG 194 _ _ _ _ 17 21 3 0 (24, 0) dX6_meet_194 (List.Mem.tail _ (List.Mem.tail _ (List.Mem.tail _ (List.Mem.tail _ (List.Mem.tail _ (List.Mem.tail _ (List.Mem.tail _ (List.Mem.head _)))))))) rfl ?_
                  refine ab_iload' hG 197 _ _ _ _ 5 _ dX6_meet_197 rfl ?_
                  refine ab_iaload' hG 199 _ _ _ _ 24 0 336 _ dX6_meet_199 rfl h.1 ?_
                  have h := h.2
                  refine ab_aload_n' hG 200 _ _ _ _ 0 _ dX6_meet_200 rfl ?_
                  refine ab_gR hG 201 _ _ _ _ 7 21 1 0 (22, 0) dX6_meet_201 (List.Mem.tail _ (List.Mem.tail _ (List.Mem.tail _ (List.Mem.head _)))) rfl ?_
                  refine ab_iload' hG 204 _ _ _ _ 6 _ dX6_meet_204 rfl ?_
                  refine ab_baload' hG 206 _ _ _ _ 22 0 336 _ dX6_meet_206 rfl h.1 ?_
                  have h := h.2
                  refine ab_aload_n' hG 207 _ _ _ _ 0 _ dX6_meet_207 rfl ?_
                  refine ab_gR hG 208 _ _ _ _ 17 21 3 0 (24, 0) dX6_meet_208 (List.Mem.tail _ (List.Mem.tail _ (List.Mem.tail _ (List.Mem.tail _ (List.Mem.tail _ (List.Mem.tail _ (List.Mem.tail _ (List.Mem.head _)))))))) rfl ?_
                  refine ab_iload' hG 211 _ _ _ _ 6 _ dX6_meet_211 rfl ?_
                  refine ab_iaload' hG 213 _ _ _ _ 24 0 336 _ dX6_meet_213 rfl h.1 ?_
                  have h := h.2
                  exact ab_invs' hG 214 [some (.inr (21, 0)), some (.inl x1), some (.inl x2), some (.inl x3), some (.inl x4), some (.inl x5), some (.inl x6), some (.inl xs0), some (.inl x4), some (.inl 1)] [(.inl ((ab_su (ab_su (ab_su S 30 0 x1.toNatClampNeg (vp_nar .boolean 0)) 31 0 x1.toNatClampNeg 0) 32 0 x1.toNatClampNeg ((ab_su (ab_su S 30 0 x1.toNatClampNeg (vp_nar .boolean 0)) 31 0 x1.toNatClampNeg 0) 23 0 x4.toNatClampNeg)) 24 0 x4.toNatClampNeg)), (.inl ((ab_su (ab_su (ab_su S 30 0 x1.toNatClampNeg (vp_nar .boolean 0)) 31 0 x1.toNatClampNeg 0) 32 0 x1.toNatClampNeg ((ab_su (ab_su S 30 0 x1.toNatClampNeg (vp_nar .boolean 0)) 31 0 x1.toNatClampNeg 0) 23 0 x4.toNatClampNeg)) 24 0 x5.toNatClampNeg)), (.inl ((ab_su (ab_su (ab_su S 30 0 x1.toNatClampNeg (vp_nar .boolean 0)) 31 0 x1.toNatClampNeg 0) 32 0 x1.toNatClampNeg ((ab_su (ab_su S 30 0 x1.toNatClampNeg (vp_nar .boolean 0)) 31 0 x1.toNatClampNeg 0) 23 0 x4.toNatClampNeg)) 22 0 x6.toNatClampNeg)), (.inl ((ab_su (ab_su (ab_su S 30 0 x1.toNatClampNeg (vp_nar .boolean 0)) 31 0 x1.toNatClampNeg 0) 32 0 x1.toNatClampNeg ((ab_su (ab_su S 30 0 x1.toNatClampNeg (vp_nar .boolean 0)) 31 0 x1.toNatClampNeg 0) 23 0 x4.toNatClampNeg)) 24 0 x6.toNatClampNeg))] [(.inl x1), (.inr (33, 0))] (ab_su (ab_su (ab_su S 30 0 x1.toNatClampNeg (vp_nar .boolean 0)) 31 0 x1.toNatClampNeg 0) 32 0 x1.toNatClampNeg ((ab_su (ab_su S 30 0 x1.toNatClampNeg (vp_nar .boolean 0)) 31 0 x1.toNatClampNeg 0) 23 0 x4.toNatClampNeg)) 0 137 _ 4 1 0 _ dX6_meet_214 rfl rfl (by decide) (by decide) h
              · have h := h.2 hc
                refine ab_aload_n' hG 134 _ _ _ _ 0 _ dX6_meet_134 rfl ?_
                refine ab_gR hG 135 _ _ _ _ 13 21 2 0 (23, 0) dX6_meet_135 (List.Mem.tail _ (List.Mem.tail _ (List.Mem.tail _ (List.Mem.tail _ (List.Mem.tail _ (List.Mem.head _)))))) rfl ?_
                refine ab_iload' hG 138 _ _ _ _ 4 _ dX6_meet_138 rfl ?_
                refine ab_iaload' hG 140 _ _ _ _ 23 0 336 _ dX6_meet_140 rfl h.1 ?_
                have h := h.2
                refine ab_aload_n' hG 141 _ _ _ _ 0 _ dX6_meet_141 rfl ?_
                refine ab_gR hG 142 _ _ _ _ 13 21 2 0 (23, 0) dX6_meet_142 (List.Mem.tail _ (List.Mem.tail _ (List.Mem.tail _ (List.Mem.tail _ (List.Mem.tail _ (List.Mem.head _)))))) rfl ?_
                refine ab_iload' hG 145 _ _ _ _ 5 _ dX6_meet_145 rfl ?_
                refine ab_iaload' hG 147 _ _ _ _ 23 0 336 _ dX6_meet_147 rfl h.1 ?_
                have h := h.2
                refine ab_aload_n' hG 148 _ _ _ _ 0 _ dX6_meet_148 rfl ?_
                refine ab_gR hG 149 _ _ _ _ 7 21 1 0 (22, 0) dX6_meet_149 (List.Mem.tail _ (List.Mem.tail _ (List.Mem.tail _ (List.Mem.head _)))) rfl ?_
                refine ab_iload' hG 152 _ _ _ _ 6 _ dX6_meet_152 rfl ?_
                refine ab_baload' hG 154 _ _ _ _ 22 0 336 _ dX6_meet_154 rfl h.1 ?_
                have h := h.2
                refine ab_aload_n' hG 155 _ _ _ _ 0 _ dX6_meet_155 rfl ?_
                refine ab_gR hG 156 _ _ _ _ 13 21 2 0 (23, 0) dX6_meet_156 (List.Mem.tail _ (List.Mem.tail _ (List.Mem.tail _ (List.Mem.tail _ (List.Mem.tail _ (List.Mem.head _)))))) rfl ?_
                refine ab_iload' hG 159 _ _ _ _ 6 _ dX6_meet_159 rfl ?_
                refine ab_iaload' hG 161 _ _ _ _ 23 0 336 _ dX6_meet_161 rfl h.1 ?_
                have h := h.2
                exact ab_invs' hG 162 [some (.inr (21, 0)), some (.inl x1), some (.inl x2), some (.inl x3), some (.inl x4), some (.inl x5), some (.inl x6), some (.inl xs0), some (.inl x4), some (.inl 1)] [(.inl ((ab_su (ab_su S 30 0 x1.toNatClampNeg (vp_nar .boolean 0)) 31 0 x1.toNatClampNeg 0) 23 0 x4.toNatClampNeg)), (.inl ((ab_su (ab_su S 30 0 x1.toNatClampNeg (vp_nar .boolean 0)) 31 0 x1.toNatClampNeg 0) 23 0 x5.toNatClampNeg)), (.inl ((ab_su (ab_su S 30 0 x1.toNatClampNeg (vp_nar .boolean 0)) 31 0 x1.toNatClampNeg 0) 22 0 x6.toNatClampNeg)), (.inl ((ab_su (ab_su S 30 0 x1.toNatClampNeg (vp_nar .boolean 0)) 31 0 x1.toNatClampNeg 0) 23 0 x6.toNatClampNeg))] [(.inl x1), (.inr (32, 0))] (ab_su (ab_su S 30 0 x1.toNatClampNeg (vp_nar .boolean 0)) 31 0 x1.toNatClampNeg 0) 0 137 _ 4 1 0 _ dX6_meet_162 rfl rfl (by decide) (by decide) h
      · have h := h.1 hc
        exact ab_return_' hG 77 _ _ _ dX6_meet_77 rfl (by decide) h
    · have h := h.1 hc
      refine ab_iconst' hG 66 _ _ _ _ 1 1 dX6_meet_66 (by decide) ?_
      refine ab_goto' hG 67 _ _ _ _ (4) 71 dX6_meet_67 (by decide) ?_
      refine ab_iastore' hG 71 _ _ _ _ 31 0 24 _ _ dX6_meet_71 rfl h.1 ?_
      have h := h.2
      refine ab_iload' hG 72 _ _ _ _ 7 _ dX6_meet_72 rfl ?_
      refine ab_if_ne' hG 74 _ _ _ _ (4) 78 _ dX6_meet_74 (by decide) (fun hc => ?_) (fun hc => ?_)
      · have h := h.2 hc
        refine ab_aload_n' hG 78 _ _ _ _ 0 _ dX6_meet_78 rfl ?_
        refine ab_gR hG 79 _ _ _ _ 7 21 1 0 (22, 0) dX6_meet_79 (List.Mem.tail _ (List.Mem.tail _ (List.Mem.tail _ (List.Mem.head _)))) rfl ?_
        refine ab_iload' hG 82 _ _ _ _ 4 _ dX6_meet_82 rfl ?_
        refine ab_baload' hG 84 _ _ _ _ 22 0 336 _ dX6_meet_84 rfl h.1 ?_
        have h := h.2
        refine ab_if_eq' hG 85 _ _ _ _ (8) 93 _ dX6_meet_85 (by decide) (fun hc => ?_) (fun hc => ?_)
        · have h := h.1 hc
          refine ab_iload' hG 93 _ _ _ _ 5 _ dX6_meet_93 rfl ?_
          refine ab_istore' hG 95 _ _ _ _ 8 _ dX6_meet_95 (by decide) ?_
          refine ab_aload_n' hG 97 _ _ _ _ 0 _ dX6_meet_97 rfl ?_
          refine ab_gR hG 98 _ _ _ _ 7 21 1 0 (22, 0) dX6_meet_98 (List.Mem.tail _ (List.Mem.tail _ (List.Mem.tail _ (List.Mem.head _)))) rfl ?_
          refine ab_iload' hG 101 _ _ _ _ 4 _ dX6_meet_101 rfl ?_
          refine ab_baload' hG 103 _ _ _ _ 22 0 336 _ dX6_meet_103 rfl h.1 ?_
          have h := h.2
          refine ab_if_eq' hG 104 _ _ _ _ (17) 121 _ dX6_meet_104 (by decide) (fun hc => ?_) (fun hc => ?_)
          · have h := h.1 hc
            refine ab_iconst' hG 121 _ _ _ _ 0 0 dX6_meet_121 (by decide) ?_
            refine ab_istore' hG 122 _ _ _ _ 9 _ dX6_meet_122 (by decide) ?_
            refine ab_aload_n' hG 124 _ _ _ _ 0 _ dX6_meet_124 rfl ?_
            refine ab_gR hG 125 _ _ _ _ 51 21 16 0 (32, 0) dX6_meet_125 (List.Mem.tail _ (List.Mem.tail _ (List.Mem.tail _ (List.Mem.tail _ (List.Mem.head _))))) rfl ?_
            refine ab_iload_n' hG 128 _ _ _ _ 1 _ dX6_meet_128 rfl ?_
            refine ab_iload' hG 129 _ _ _ _ 9 _ dX6_meet_129 rfl ?_
            refine ab_if_eq' hG 131 _ _ _ _ (37) 168 _ dX6_meet_131 (by decide) (fun hc => ?_) (fun hc => ?_)
            · have h := h.1 hc
              refine ab_aload_n' hG 168 _ _ _ _ 0 _ dX6_meet_168 rfl ?_
              refine ab_gR hG 169 _ _ _ _ 13 21 2 0 (23, 0) dX6_meet_169 (List.Mem.tail _ (List.Mem.tail _ (List.Mem.tail _ (List.Mem.tail _ (List.Mem.tail _ (List.Mem.head _)))))) rfl ?_
              refine ab_iload' hG 172 _ _ _ _ 8 _ dX6_meet_172 rfl ?_
              refine ab_iaload' hG 174 _ _ _ _ 23 0 336 _ dX6_meet_174 rfl h.1 ?_
              have h := h.2
              refine ab_iastore' hG 175 _ _ _ _ 32 0 24 _ _ dX6_meet_175 rfl h.1 ?_
              have h := h.2
              refine ab_aload_n' hG 176 _ _ _ _ 0 _ dX6_meet_176 rfl ?_
              refine ab_gR hG 177 _ _ _ _ 54 21 17 0 (33, 0) dX6_meet_177 (List.Mem.tail _ (List.Mem.tail _ (List.Mem.tail _ (List.Mem.tail _ (List.Mem.tail _ (List.Mem.tail _ (List.Mem.head _))))))) rfl ?_
              refine ab_iload_n' hG 180 _ _ _ _ 1 _ dX6_meet_180 rfl ?_
              refine ab_iload' hG 181 _ _ _ _ 9 _ dX6_meet_181 rfl ?_
              refine ab_if_eq' hG 183 _ _ _ _ (37) 220 _ dX6_meet_183 (by decide) (fun hc => ?_) (fun hc => ?_)
              · have h := h.1 hc
                refine ab_aload_n' hG 220 _ _ _ _ 0 _ dX6_meet_220 rfl ?_
                refine ab_gR hG 221 _ _ _ _ 17 21 3 0 (24, 0) dX6_meet_221 (List.Mem.tail _ (List.Mem.tail _ (List.Mem.tail _ (List.Mem.tail _ (List.Mem.tail _ (List.Mem.tail _ (List.Mem.tail _ (List.Mem.head _)))))))) rfl ?_
                refine ab_iload' hG 224 _ _ _ _ 8 _ dX6_meet_224 rfl ?_
                refine ab_iaload' hG 226 _ _ _ _ 24 0 336 _ dX6_meet_226 rfl h.1 ?_
                have h := h.2
                refine ab_iastore' hG 227 _ _ _ _ 33 0 24 _ _ dX6_meet_227 rfl h.1 ?_
                have h := h.2
                refine ab_aload_n' hG 228 _ _ _ _ 0 _ dX6_meet_228 rfl ?_
                refine ab_gR hG 229 _ _ _ _ 48 21 15 0 (31, 0) dX6_meet_229 (List.Mem.tail _ (List.Mem.tail _ (List.Mem.head _))) rfl ?_
                refine ab_iload_n' hG 232 _ _ _ _ 1 _ dX6_meet_232 rfl ?_
                refine ab_iaload' hG 233 _ _ _ _ 31 0 24 _ dX6_meet_233 rfl h.1 ?_
                have h := h.2
                refine ab_if_ne' hG 234 _ _ _ _ (40) 274 _ dX6_meet_234 (by decide) (fun hc => ?_) (fun hc => ?_)
                · have h := h.2 hc
                  exact ab_return_' hG 274 _ _ _ dX6_meet_274 rfl (by decide) h
                · have h := h.1 hc
                  refine ab_aload_n' hG 237 _ _ _ _ 0 _ dX6_meet_237 rfl ?_
                  refine ab_gR hG 238 _ _ _ _ 48 21 15 0 (31, 0) dX6_meet_238 (List.Mem.tail _ (List.Mem.tail _ (List.Mem.head _))) rfl ?_
                  refine ab_iload_n' hG 241 _ _ _ _ 1 _ dX6_meet_241 rfl ?_
                  refine ab_aload_n' hG 242 _ _ _ _ 0 _ dX6_meet_242 rfl ?_
                  refine ab_gR hG 243 _ _ _ _ 51 21 16 0 (32, 0) dX6_meet_243 (List.Mem.tail _ (List.Mem.tail _ (List.Mem.tail _ (List.Mem.tail _ (List.Mem.head _))))) rfl ?_
                  refine ab_iload_n' hG 246 _ _ _ _ 1 _ dX6_meet_246 rfl ?_
                  refine ab_iaload' hG 247 _ _ _ _ 32 0 24 _ dX6_meet_247 rfl h.1 ?_
                  have h := h.2
                  refine ab_bipush' hG 248 _ _ _ _ (-9) (-9) dX6_meet_248 (by decide) ?_
                  refine ab_icmp_ne' hG 250 _ _ _ _ (7) 257 _ _ dX6_meet_250 (by decide) (fun hc => ?_) (fun hc => ?_)
                  · have h := h.2 hc
                    refine ab_aload_n' hG 257 _ _ _ _ 0 _ dX6_meet_257 rfl ?_
                    refine ab_gR hG 258 _ _ _ _ 54 21 17 0 (33, 0) dX6_meet_258 (List.Mem.tail _ (List.Mem.tail _ (List.Mem.tail _ (List.Mem.tail _ (List.Mem.tail _ (List.Mem.tail _ (List.Mem.head _))))))) rfl ?_
                    refine ab_iload_n' hG 261 _ _ _ _ 1 _ dX6_meet_261 rfl ?_
                    refine ab_iaload' hG 262 _ _ _ _ 33 0 24 _ dX6_meet_262 rfl h.1 ?_
                    have h := h.2
                    refine ab_bipush' hG 263 _ _ _ _ (-9) (-9) dX6_meet_263 (by decide) ?_
                    refine ab_icmp_ne' hG 265 _ _ _ _ (7) 272 _ _ dX6_meet_265 (by decide) (fun hc => ?_) (fun hc => ?_)
                    · have h := h.2 hc
                      refine ab_iconst' hG 272 _ _ _ _ 0 0 dX6_meet_272 (by decide) ?_
                      refine ab_iastore' hG 273 _ _ _ _ 31 0 24 _ _ dX6_meet_273 rfl h.1 ?_
                      have h := h.2
                      exact ab_return_' hG 274 _ _ _ dX6_meet_274 rfl (by decide) h
                    · have h := h.1 hc
                      refine ab_iconst' hG 268 _ _ _ _ 3 3 dX6_meet_268 (by decide) ?_
                      refine ab_goto' hG 269 _ _ _ _ (4) 273 dX6_meet_269 (by decide) ?_
                      refine ab_iastore' hG 273 _ _ _ _ 31 0 24 _ _ dX6_meet_273 rfl h.1 ?_
                      have h := h.2
                      exact ab_return_' hG 274 _ _ _ dX6_meet_274 rfl (by decide) h
                  · have h := h.1 hc
                    refine ab_iconst' hG 253 _ _ _ _ 2 2 dX6_meet_253 (by decide) ?_
                    refine ab_goto' hG 254 _ _ _ _ (19) 273 dX6_meet_254 (by decide) ?_
                    refine ab_iastore' hG 273 _ _ _ _ 31 0 24 _ _ dX6_meet_273 rfl h.1 ?_
                    have h := h.2
                    exact ab_return_' hG 274 _ _ _ dX6_meet_274 rfl (by decide) h
              · have h := h.2 hc
                refine ab_aload_n' hG 186 _ _ _ _ 0 _ dX6_meet_186 rfl ?_
                refine ab_gR hG 187 _ _ _ _ 17 21 3 0 (24, 0) dX6_meet_187 (List.Mem.tail _ (List.Mem.tail _ (List.Mem.tail _ (List.Mem.tail _ (List.Mem.tail _ (List.Mem.tail _ (List.Mem.tail _ (List.Mem.head _)))))))) rfl ?_
                refine ab_iload' hG 190 _ _ _ _ 4 _ dX6_meet_190 rfl ?_
                refine ab_iaload' hG 192 _ _ _ _ 24 0 336 _ dX6_meet_192 rfl h.1 ?_
                have h := h.2
                refine ab_aload_n' hG 193 _ _ _ _ 0 _ dX6_meet_193 rfl ?_
                refine ab_gR hG 194 _ _ _ _ 17 21 3 0 (24, 0) dX6_meet_194 (List.Mem.tail _ (List.Mem.tail _ (List.Mem.tail _ (List.Mem.tail _ (List.Mem.tail _ (List.Mem.tail _ (List.Mem.tail _ (List.Mem.head _)))))))) rfl ?_
                refine ab_iload' hG 197 _ _ _ _ 5 _ dX6_meet_197 rfl ?_
                refine ab_iaload' hG 199 _ _ _ _ 24 0 336 _ dX6_meet_199 rfl h.1 ?_
                have h := h.2
                refine ab_aload_n' hG 200 _ _ _ _ 0 _ dX6_meet_200 rfl ?_
                refine ab_gR hG 201 _ _ _ _ 7 21 1 0 (22, 0) dX6_meet_201 (List.Mem.tail _ (List.Mem.tail _ (List.Mem.tail _ (List.Mem.head _)))) rfl ?_
                refine ab_iload' hG 204 _ _ _ _ 6 _ dX6_meet_204 rfl ?_
                refine ab_baload' hG 206 _ _ _ _ 22 0 336 _ dX6_meet_206 rfl h.1 ?_
                have h := h.2
                refine ab_aload_n' hG 207 _ _ _ _ 0 _ dX6_meet_207 rfl ?_
                refine ab_gR hG 208 _ _ _ _ 17 21 3 0 (24, 0) dX6_meet_208 (List.Mem.tail _ (List.Mem.tail _ (List.Mem.tail _ (List.Mem.tail _ (List.Mem.tail _ (List.Mem.tail _ (List.Mem.tail _ (List.Mem.head _)))))))) rfl ?_
                refine ab_iload' hG 211 _ _ _ _ 6 _ dX6_meet_211 rfl ?_
                refine ab_iaload' hG 213 _ _ _ _ 24 0 336 _ dX6_meet_213 rfl h.1 ?_
                have h := h.2
                exact ab_invs' hG 214 [some (.inr (21, 0)), some (.inl x1), some (.inl x2), some (.inl x3), some (.inl x4), some (.inl x5), some (.inl x6), some (.inl xs0), some (.inl x5), some (.inl 0)] [(.inl ((ab_su (ab_su (ab_su S 30 0 x1.toNatClampNeg (vp_nar .boolean 0)) 31 0 x1.toNatClampNeg 1) 32 0 x1.toNatClampNeg ((ab_su (ab_su S 30 0 x1.toNatClampNeg (vp_nar .boolean 0)) 31 0 x1.toNatClampNeg 1) 23 0 x5.toNatClampNeg)) 24 0 x4.toNatClampNeg)), (.inl ((ab_su (ab_su (ab_su S 30 0 x1.toNatClampNeg (vp_nar .boolean 0)) 31 0 x1.toNatClampNeg 1) 32 0 x1.toNatClampNeg ((ab_su (ab_su S 30 0 x1.toNatClampNeg (vp_nar .boolean 0)) 31 0 x1.toNatClampNeg 1) 23 0 x5.toNatClampNeg)) 24 0 x5.toNatClampNeg)), (.inl ((ab_su (ab_su (ab_su S 30 0 x1.toNatClampNeg (vp_nar .boolean 0)) 31 0 x1.toNatClampNeg 1) 32 0 x1.toNatClampNeg ((ab_su (ab_su S 30 0 x1.toNatClampNeg (vp_nar .boolean 0)) 31 0 x1.toNatClampNeg 1) 23 0 x5.toNatClampNeg)) 22 0 x6.toNatClampNeg)), (.inl ((ab_su (ab_su (ab_su S 30 0 x1.toNatClampNeg (vp_nar .boolean 0)) 31 0 x1.toNatClampNeg 1) 32 0 x1.toNatClampNeg ((ab_su (ab_su S 30 0 x1.toNatClampNeg (vp_nar .boolean 0)) 31 0 x1.toNatClampNeg 1) 23 0 x5.toNatClampNeg)) 24 0 x6.toNatClampNeg))] [(.inl x1), (.inr (33, 0))] (ab_su (ab_su (ab_su S 30 0 x1.toNatClampNeg (vp_nar .boolean 0)) 31 0 x1.toNatClampNeg 1) 32 0 x1.toNatClampNeg ((ab_su (ab_su S 30 0 x1.toNatClampNeg (vp_nar .boolean 0)) 31 0 x1.toNatClampNeg 1) 23 0 x5.toNatClampNeg)) 0 137 _ 4 1 0 _ dX6_meet_214 rfl rfl (by decide) (by decide) h
            · have h := h.2 hc
              refine ab_aload_n' hG 134 _ _ _ _ 0 _ dX6_meet_134 rfl ?_
              refine ab_gR hG 135 _ _ _ _ 13 21 2 0 (23, 0) dX6_meet_135 (List.Mem.tail _ (List.Mem.tail _ (List.Mem.tail _ (List.Mem.tail _ (List.Mem.tail _ (List.Mem.head _)))))) rfl ?_
              refine ab_iload' hG 138 _ _ _ _ 4 _ dX6_meet_138 rfl ?_
              refine ab_iaload' hG 140 _ _ _ _ 23 0 336 _ dX6_meet_140 rfl h.1 ?_
              have h := h.2
              refine ab_aload_n' hG 141 _ _ _ _ 0 _ dX6_meet_141 rfl ?_
              refine ab_gR hG 142 _ _ _ _ 13 21 2 0 (23, 0) dX6_meet_142 (List.Mem.tail _ (List.Mem.tail _ (List.Mem.tail _ (List.Mem.tail _ (List.Mem.tail _ (List.Mem.head _)))))) rfl ?_
              refine ab_iload' hG 145 _ _ _ _ 5 _ dX6_meet_145 rfl ?_
              refine ab_iaload' hG 147 _ _ _ _ 23 0 336 _ dX6_meet_147 rfl h.1 ?_
              have h := h.2
              refine ab_aload_n' hG 148 _ _ _ _ 0 _ dX6_meet_148 rfl ?_
              refine ab_gR hG 149 _ _ _ _ 7 21 1 0 (22, 0) dX6_meet_149 (List.Mem.tail _ (List.Mem.tail _ (List.Mem.tail _ (List.Mem.head _)))) rfl ?_
              refine ab_iload' hG 152 _ _ _ _ 6 _ dX6_meet_152 rfl ?_
              refine ab_baload' hG 154 _ _ _ _ 22 0 336 _ dX6_meet_154 rfl h.1 ?_
              have h := h.2
              refine ab_aload_n' hG 155 _ _ _ _ 0 _ dX6_meet_155 rfl ?_
              refine ab_gR hG 156 _ _ _ _ 13 21 2 0 (23, 0) dX6_meet_156 (List.Mem.tail _ (List.Mem.tail _ (List.Mem.tail _ (List.Mem.tail _ (List.Mem.tail _ (List.Mem.head _)))))) rfl ?_
              refine ab_iload' hG 159 _ _ _ _ 6 _ dX6_meet_159 rfl ?_
              refine ab_iaload' hG 161 _ _ _ _ 23 0 336 _ dX6_meet_161 rfl h.1 ?_
              have h := h.2
              exact ab_invs' hG 162 [some (.inr (21, 0)), some (.inl x1), some (.inl x2), some (.inl x3), some (.inl x4), some (.inl x5), some (.inl x6), some (.inl xs0), some (.inl x5), some (.inl 0)] [(.inl ((ab_su (ab_su S 30 0 x1.toNatClampNeg (vp_nar .boolean 0)) 31 0 x1.toNatClampNeg 1) 23 0 x4.toNatClampNeg)), (.inl ((ab_su (ab_su S 30 0 x1.toNatClampNeg (vp_nar .boolean 0)) 31 0 x1.toNatClampNeg 1) 23 0 x5.toNatClampNeg)), (.inl ((ab_su (ab_su S 30 0 x1.toNatClampNeg (vp_nar .boolean 0)) 31 0 x1.toNatClampNeg 1) 22 0 x6.toNatClampNeg)), (.inl ((ab_su (ab_su S 30 0 x1.toNatClampNeg (vp_nar .boolean 0)) 31 0 x1.toNatClampNeg 1) 23 0 x6.toNatClampNeg))] [(.inl x1), (.inr (32, 0))] (ab_su (ab_su S 30 0 x1.toNatClampNeg (vp_nar .boolean 0)) 31 0 x1.toNatClampNeg 1) 0 137 _ 4 1 0 _ dX6_meet_162 rfl rfl (by decide) (by decide) h
          · have h := h.2 hc
            refine ab_aload_n' hG 107 _ _ _ _ 0 _ dX6_meet_107 rfl ?_
            refine ab_gR hG 108 _ _ _ _ 7 21 1 0 (22, 0) dX6_meet_108 (List.Mem.tail _ (List.Mem.tail _ (List.Mem.tail _ (List.Mem.head _)))) rfl ?_
            refine ab_iload' hG 111 _ _ _ _ 5 _ dX6_meet_111 rfl ?_
            refine ab_baload' hG 113 _ _ _ _ 22 0 336 _ dX6_meet_113 rfl h.1 ?_
            have h := h.2
            refine ab_if_eq' hG 114 _ _ _ _ (7) 121 _ dX6_meet_114 (by decide) (fun hc => ?_) (fun hc => ?_)
            · have h := h.1 hc
              refine ab_iconst' hG 121 _ _ _ _ 0 0 dX6_meet_121 (by decide) ?_
              refine ab_istore' hG 122 _ _ _ _ 9 _ dX6_meet_122 (by decide) ?_
              refine ab_aload_n' hG 124 _ _ _ _ 0 _ dX6_meet_124 rfl ?_
              refine ab_gR hG 125 _ _ _ _ 51 21 16 0 (32, 0) dX6_meet_125 (List.Mem.tail _ (List.Mem.tail _ (List.Mem.tail _ (List.Mem.tail _ (List.Mem.head _))))) rfl ?_
              refine ab_iload_n' hG 128 _ _ _ _ 1 _ dX6_meet_128 rfl ?_
              refine ab_iload' hG 129 _ _ _ _ 9 _ dX6_meet_129 rfl ?_
              refine ab_if_eq' hG 131 _ _ _ _ (37) 168 _ dX6_meet_131 (by decide) (fun hc => ?_) (fun hc => ?_)
              · have h := h.1 hc
                refine ab_aload_n' hG 168 _ _ _ _ 0 _ dX6_meet_168 rfl ?_
                refine ab_gR hG 169 _ _ _ _ 13 21 2 0 (23, 0) dX6_meet_169 (List.Mem.tail _ (List.Mem.tail _ (List.Mem.tail _ (List.Mem.tail _ (List.Mem.tail _ (List.Mem.head _)))))) rfl ?_
                refine ab_iload' hG 172 _ _ _ _ 8 _ dX6_meet_172 rfl ?_
                refine ab_iaload' hG 174 _ _ _ _ 23 0 336 _ dX6_meet_174 rfl h.1 ?_
                have h := h.2
                refine ab_iastore' hG 175 _ _ _ _ 32 0 24 _ _ dX6_meet_175 rfl h.1 ?_
                have h := h.2
                refine ab_aload_n' hG 176 _ _ _ _ 0 _ dX6_meet_176 rfl ?_
                refine ab_gR hG 177 _ _ _ _ 54 21 17 0 (33, 0) dX6_meet_177 (List.Mem.tail _ (List.Mem.tail _ (List.Mem.tail _ (List.Mem.tail _ (List.Mem.tail _ (List.Mem.tail _ (List.Mem.head _))))))) rfl ?_
                refine ab_iload_n' hG 180 _ _ _ _ 1 _ dX6_meet_180 rfl ?_
                refine ab_iload' hG 181 _ _ _ _ 9 _ dX6_meet_181 rfl ?_
                refine ab_if_eq' hG 183 _ _ _ _ (37) 220 _ dX6_meet_183 (by decide) (fun hc => ?_) (fun hc => ?_)
                · have h := h.1 hc
                  refine ab_aload_n' hG 220 _ _ _ _ 0 _ dX6_meet_220 rfl ?_
                  refine ab_gR hG 221 _ _ _ _ 17 21 3 0 (24, 0) dX6_meet_221 (List.Mem.tail _ (List.Mem.tail _ (List.Mem.tail _ (List.Mem.tail _ (List.Mem.tail _ (List.Mem.tail _ (List.Mem.tail _ (List.Mem.head _)))))))) rfl ?_
                  refine ab_iload' hG 224 _ _ _ _ 8 _ dX6_meet_224 rfl ?_
                  refine ab_iaload' hG 226 _ _ _ _ 24 0 336 _ dX6_meet_226 rfl h.1 ?_
                  have h := h.2
                  refine ab_iastore' hG 227 _ _ _ _ 33 0 24 _ _ dX6_meet_227 rfl h.1 ?_
                  have h := h.2
                  refine ab_aload_n' hG 228 _ _ _ _ 0 _ dX6_meet_228 rfl ?_
                  refine ab_gR hG 229 _ _ _ _ 48 21 15 0 (31, 0) dX6_meet_229 (List.Mem.tail _ (List.Mem.tail _ (List.Mem.head _))) rfl ?_
                  refine ab_iload_n' hG 232 _ _ _ _ 1 _ dX6_meet_232 rfl ?_
                  refine ab_iaload' hG 233 _ _ _ _ 31 0 24 _ dX6_meet_233 rfl h.1 ?_
                  have h := h.2
                  refine ab_if_ne' hG 234 _ _ _ _ (40) 274 _ dX6_meet_234 (by decide) (fun hc => ?_) (fun hc => ?_)
                  · have h := h.2 hc
                    exact ab_return_' hG 274 _ _ _ dX6_meet_274 rfl (by decide) h
                  · have h := h.1 hc
                    refine ab_aload_n' hG 237 _ _ _ _ 0 _ dX6_meet_237 rfl ?_
                    refine ab_gR hG 238 _ _ _ _ 48 21 15 0 (31, 0) dX6_meet_238 (List.Mem.tail _ (List.Mem.tail _ (List.Mem.head _))) rfl ?_
                    refine ab_iload_n' hG 241 _ _ _ _ 1 _ dX6_meet_241 rfl ?_
                    refine ab_aload_n' hG 242 _ _ _ _ 0 _ dX6_meet_242 rfl ?_
                    refine ab_gR hG 243 _ _ _ _ 51 21 16 0 (32, 0) dX6_meet_243 (List.Mem.tail _ (List.Mem.tail _ (List.Mem.tail _ (List.Mem.tail _ (List.Mem.head _))))) rfl ?_
                    refine ab_iload_n' hG 246 _ _ _ _ 1 _ dX6_meet_246 rfl ?_
                    refine ab_iaload' hG 247 _ _ _ _ 32 0 24 _ dX6_meet_247 rfl h.1 ?_
                    have h := h.2
                    refine ab_bipush' hG 248 _ _ _ _ (-9) (-9) dX6_meet_248 (by decide) ?_
                    refine ab_icmp_ne' hG 250 _ _ _ _ (7) 257 _ _ dX6_meet_250 (by decide) (fun hc => ?_) (fun hc => ?_)
                    · have h := h.2 hc
                      refine ab_aload_n' hG 257 _ _ _ _ 0 _ dX6_meet_257 rfl ?_
                      refine ab_gR hG 258 _ _ _ _ 54 21 17 0 (33, 0) dX6_meet_258 (List.Mem.tail _ (List.Mem.tail _ (List.Mem.tail _ (List.Mem.tail _ (List.Mem.tail _ (List.Mem.tail _ (List.Mem.head _))))))) rfl ?_
                      refine ab_iload_n' hG 261 _ _ _ _ 1 _ dX6_meet_261 rfl ?_
                      refine ab_iaload' hG 262 _ _ _ _ 33 0 24 _ dX6_meet_262 rfl h.1 ?_
                      have h := h.2
                      refine ab_bipush' hG 263 _ _ _ _ (-9) (-9) dX6_meet_263 (by decide) ?_
                      refine ab_icmp_ne' hG 265 _ _ _ _ (7) 272 _ _ dX6_meet_265 (by decide) (fun hc => ?_) (fun hc => ?_)
                      · have h := h.2 hc
                        refine ab_iconst' hG 272 _ _ _ _ 0 0 dX6_meet_272 (by decide) ?_
                        refine ab_iastore' hG 273 _ _ _ _ 31 0 24 _ _ dX6_meet_273 rfl h.1 ?_
                        have h := h.2
                        exact ab_return_' hG 274 _ _ _ dX6_meet_274 rfl (by decide) h
                      · have h := h.1 hc
                        refine ab_iconst' hG 268 _ _ _ _ 3 3 dX6_meet_268 (by decide) ?_
                        refine ab_goto' hG 269 _ _ _ _ (4) 273 dX6_meet_269 (by decide) ?_
                        refine ab_iastore' hG 273 _ _ _ _ 31 0 24 _ _ dX6_meet_273 rfl h.1 ?_
                        have h := h.2
                        exact ab_return_' hG 274 _ _ _ dX6_meet_274 rfl (by decide) h
                    · have h := h.1 hc
                      refine ab_iconst' hG 253 _ _ _ _ 2 2 dX6_meet_253 (by decide) ?_
                      refine ab_goto' hG 254 _ _ _ _ (19) 273 dX6_meet_254 (by decide) ?_
                      refine ab_iastore' hG 273 _ _ _ _ 31 0 24 _ _ dX6_meet_273 rfl h.1 ?_
                      have h := h.2
                      exact ab_return_' hG 274 _ _ _ dX6_meet_274 rfl (by decide) h
                · have h := h.2 hc
                  refine ab_aload_n' hG 186 _ _ _ _ 0 _ dX6_meet_186 rfl ?_
                  refine ab_gR hG 187 _ _ _ _ 17 21 3 0 (24, 0) dX6_meet_187 (List.Mem.tail _ (List.Mem.tail _ (List.Mem.tail _ (List.Mem.tail _ (List.Mem.tail _ (List.Mem.tail _ (List.Mem.tail _ (List.Mem.head _)))))))) rfl ?_
                  refine ab_iload' hG 190 _ _ _ _ 4 _ dX6_meet_190 rfl ?_
                  refine ab_iaload' hG 192 _ _ _ _ 24 0 336 _ dX6_meet_192 rfl h.1 ?_
                  have h := h.2
                  refine ab_aload_n' hG 193 _ _ _ _ 0 _ dX6_meet_193 rfl ?_
                  refine ab_gR hG 194 _ _ _ _ 17 21 3 0 (24, 0) dX6_meet_194 (List.Mem.tail _ (List.Mem.tail _ (List.Mem.tail _ (List.Mem.tail _ (List.Mem.tail _ (List.Mem.tail _ (List.Mem.tail _ (List.Mem.head _)))))))) rfl ?_
                  refine ab_iload' hG 197 _ _ _ _ 5 _ dX6_meet_197 rfl ?_
                  refine ab_iaload' hG 199 _ _ _ _ 24 0 336 _ dX6_meet_199 rfl h.1 ?_
                  have h := h.2
                  refine ab_aload_n' hG 200 _ _ _ _ 0 _ dX6_meet_200 rfl ?_
                  refine ab_gR hG 201 _ _ _ _ 7 21 1 0 (22, 0) dX6_meet_201 (List.Mem.tail _ (List.Mem.tail _ (List.Mem.tail _ (List.Mem.head _)))) rfl ?_
                  refine ab_iload' hG 204 _ _ _ _ 6 _ dX6_meet_204 rfl ?_
                  refine ab_baload' hG 206 _ _ _ _ 22 0 336 _ dX6_meet_206 rfl h.1 ?_
                  have h := h.2
                  refine ab_aload_n' hG 207 _ _ _ _ 0 _ dX6_meet_207 rfl ?_
                  refine ab_gR hG 208 _ _ _ _ 17 21 3 0 (24, 0) dX6_meet_208 (List.Mem.tail _ (List.Mem.tail _ (List.Mem.tail _ (List.Mem.tail _ (List.Mem.tail _ (List.Mem.tail _ (List.Mem.tail _ (List.Mem.head _)))))))) rfl ?_
                  refine ab_iload' hG 211 _ _ _ _ 6 _ dX6_meet_211 rfl ?_
                  refine ab_iaload' hG 213 _ _ _ _ 24 0 336 _ dX6_meet_213 rfl h.1 ?_
                  have h := h.2
                  exact ab_invs' hG 214 [some (.inr (21, 0)), some (.inl x1), some (.inl x2), some (.inl x3), some (.inl x4), some (.inl x5), some (.inl x6), some (.inl xs0), some (.inl x5), some (.inl 0)] [(.inl ((ab_su (ab_su (ab_su S 30 0 x1.toNatClampNeg (vp_nar .boolean 0)) 31 0 x1.toNatClampNeg 1) 32 0 x1.toNatClampNeg ((ab_su (ab_su S 30 0 x1.toNatClampNeg (vp_nar .boolean 0)) 31 0 x1.toNatClampNeg 1) 23 0 x5.toNatClampNeg)) 24 0 x4.toNatClampNeg)), (.inl ((ab_su (ab_su (ab_su S 30 0 x1.toNatClampNeg (vp_nar .boolean 0)) 31 0 x1.toNatClampNeg 1) 32 0 x1.toNatClampNeg ((ab_su (ab_su S 30 0 x1.toNatClampNeg (vp_nar .boolean 0)) 31 0 x1.toNatClampNeg 1) 23 0 x5.toNatClampNeg)) 24 0 x5.toNatClampNeg)), (.inl ((ab_su (ab_su (ab_su S 30 0 x1.toNatClampNeg (vp_nar .boolean 0)) 31 0 x1.toNatClampNeg 1) 32 0 x1.toNatClampNeg ((ab_su (ab_su S 30 0 x1.toNatClampNeg (vp_nar .boolean 0)) 31 0 x1.toNatClampNeg 1) 23 0 x5.toNatClampNeg)) 22 0 x6.toNatClampNeg)), (.inl ((ab_su (ab_su (ab_su S 30 0 x1.toNatClampNeg (vp_nar .boolean 0)) 31 0 x1.toNatClampNeg 1) 32 0 x1.toNatClampNeg ((ab_su (ab_su S 30 0 x1.toNatClampNeg (vp_nar .boolean 0)) 31 0 x1.toNatClampNeg 1) 23 0 x5.toNatClampNeg)) 24 0 x6.toNatClampNeg))] [(.inl x1), (.inr (33, 0))] (ab_su (ab_su (ab_su S 30 0 x1.toNatClampNeg (vp_nar .boolean 0)) 31 0 x1.toNatClampNeg 1) 32 0 x1.toNatClampNeg ((ab_su (ab_su S 30 0 x1.toNatClampNeg (vp_nar .boolean 0)) 31 0 x1.toNatClampNeg 1) 23 0 x5.toNatClampNeg)) 0 137 _ 4 1 0 _ dX6_meet_214 rfl rfl (by decide) (by decide) h
              · have h := h.2 hc
                refine ab_aload_n' hG 134 _ _ _ _ 0 _ dX6_meet_134 rfl ?_
                refine ab_gR hG 135 _ _ _ _ 13 21 2 0 (23, 0) dX6_meet_135 (List.Mem.tail _ (List.Mem.tail _ (List.Mem.tail _ (List.Mem.tail _ (List.Mem.tail _ (List.Mem.head _)))))) rfl ?_
                refine ab_iload' hG 138 _ _ _ _ 4 _ dX6_meet_138 rfl ?_
                refine ab_iaload' hG 140 _ _ _ _ 23 0 336 _ dX6_meet_140 rfl h.1 ?_
                have h := h.2
                refine ab_aload_n' hG 141 _ _ _ _ 0 _ dX6_meet_141 rfl ?_
                refine ab_gR hG 142 _ _ _ _ 13 21 2 0 (23, 0) dX6_meet_142 (List.Mem.tail _ (List.Mem.tail _ (List.Mem.tail _ (List.Mem.tail _ (List.Mem.tail _ (List.Mem.head _)))))) rfl ?_
                refine ab_iload' hG 145 _ _ _ _ 5 _ dX6_meet_145 rfl ?_
                refine ab_iaload' hG 147 _ _ _ _ 23 0 336 _ dX6_meet_147 rfl h.1 ?_
                have h := h.2
                refine ab_aload_n' hG 148 _ _ _ _ 0 _ dX6_meet_148 rfl ?_
                refine ab_gR hG 149 _ _ _ _ 7 21 1 0 (22, 0) dX6_meet_149 (List.Mem.tail _ (List.Mem.tail _ (List.Mem.tail _ (List.Mem.head _)))) rfl ?_
                refine ab_iload' hG 152 _ _ _ _ 6 _ dX6_meet_152 rfl ?_
                refine ab_baload' hG 154 _ _ _ _ 22 0 336 _ dX6_meet_154 rfl h.1 ?_
                have h := h.2
                refine ab_aload_n' hG 155 _ _ _ _ 0 _ dX6_meet_155 rfl ?_
                refine ab_gR hG 156 _ _ _ _ 13 21 2 0 (23, 0) dX6_meet_156 (List.Mem.tail _ (List.Mem.tail _ (List.Mem.tail _ (List.Mem.tail _ (List.Mem.tail _ (List.Mem.head _)))))) rfl ?_
                refine ab_iload' hG 159 _ _ _ _ 6 _ dX6_meet_159 rfl ?_
                refine ab_iaload' hG 161 _ _ _ _ 23 0 336 _ dX6_meet_161 rfl h.1 ?_
                have h := h.2
                exact ab_invs' hG 162 [some (.inr (21, 0)), some (.inl x1), some (.inl x2), some (.inl x3), some (.inl x4), some (.inl x5), some (.inl x6), some (.inl xs0), some (.inl x5), some (.inl 0)] [(.inl ((ab_su (ab_su S 30 0 x1.toNatClampNeg (vp_nar .boolean 0)) 31 0 x1.toNatClampNeg 1) 23 0 x4.toNatClampNeg)), (.inl ((ab_su (ab_su S 30 0 x1.toNatClampNeg (vp_nar .boolean 0)) 31 0 x1.toNatClampNeg 1) 23 0 x5.toNatClampNeg)), (.inl ((ab_su (ab_su S 30 0 x1.toNatClampNeg (vp_nar .boolean 0)) 31 0 x1.toNatClampNeg 1) 22 0 x6.toNatClampNeg)), (.inl ((ab_su (ab_su S 30 0 x1.toNatClampNeg (vp_nar .boolean 0)) 31 0 x1.toNatClampNeg 1) 23 0 x6.toNatClampNeg))] [(.inl x1), (.inr (32, 0))] (ab_su (ab_su S 30 0 x1.toNatClampNeg (vp_nar .boolean 0)) 31 0 x1.toNatClampNeg 1) 0 137 _ 4 1 0 _ dX6_meet_162 rfl rfl (by decide) (by decide) h
            · have h := h.2 hc
              refine ab_iconst' hG 117 _ _ _ _ 1 1 dX6_meet_117 (by decide) ?_
              refine ab_goto' hG 118 _ _ _ _ (4) 122 dX6_meet_118 (by decide) ?_
              refine ab_istore' hG 122 _ _ _ _ 9 _ dX6_meet_122 (by decide) ?_
              refine ab_aload_n' hG 124 _ _ _ _ 0 _ dX6_meet_124 rfl ?_
              refine ab_gR hG 125 _ _ _ _ 51 21 16 0 (32, 0) dX6_meet_125 (List.Mem.tail _ (List.Mem.tail _ (List.Mem.tail _ (List.Mem.tail _ (List.Mem.head _))))) rfl ?_
              refine ab_iload_n' hG 128 _ _ _ _ 1 _ dX6_meet_128 rfl ?_
              refine ab_iload' hG 129 _ _ _ _ 9 _ dX6_meet_129 rfl ?_
              refine ab_if_eq' hG 131 _ _ _ _ (37) 168 _ dX6_meet_131 (by decide) (fun hc => ?_) (fun hc => ?_)
              · have h := h.1 hc
                refine ab_aload_n' hG 168 _ _ _ _ 0 _ dX6_meet_168 rfl ?_
                refine ab_gR hG 169 _ _ _ _ 13 21 2 0 (23, 0) dX6_meet_169 (List.Mem.tail _ (List.Mem.tail _ (List.Mem.tail _ (List.Mem.tail _ (List.Mem.tail _ (List.Mem.head _)))))) rfl ?_
                refine ab_iload' hG 172 _ _ _ _ 8 _ dX6_meet_172 rfl ?_
                refine ab_iaload' hG 174 _ _ _ _ 23 0 336 _ dX6_meet_174 rfl h.1 ?_
                have h := h.2
                refine ab_iastore' hG 175 _ _ _ _ 32 0 24 _ _ dX6_meet_175 rfl h.1 ?_
                have h := h.2
                refine ab_aload_n' hG 176 _ _ _ _ 0 _ dX6_meet_176 rfl ?_
                refine ab_gR hG 177 _ _ _ _ 54 21 17 0 (33, 0) dX6_meet_177 (List.Mem.tail _ (List.Mem.tail _ (List.Mem.tail _ (List.Mem.tail _ (List.Mem.tail _ (List.Mem.tail _ (List.Mem.head _))))))) rfl ?_
                refine ab_iload_n' hG 180 _ _ _ _ 1 _ dX6_meet_180 rfl ?_
                refine ab_iload' hG 181 _ _ _ _ 9 _ dX6_meet_181 rfl ?_
                refine ab_if_eq' hG 183 _ _ _ _ (37) 220 _ dX6_meet_183 (by decide) (fun hc => ?_) (fun hc => ?_)
                · have h := h.1 hc
                  refine ab_aload_n' hG 220 _ _ _ _ 0 _ dX6_meet_220 rfl ?_
                  refine ab_gR hG 221 _ _ _ _ 17 21 3 0 (24, 0) dX6_meet_221 (List.Mem.tail _ (List.Mem.tail _ (List.Mem.tail _ (List.Mem.tail _ (List.Mem.tail _ (List.Mem.tail _ (List.Mem.tail _ (List.Mem.head _)))))))) rfl ?_
                  refine ab_iload' hG 224 _ _ _ _ 8 _ dX6_meet_224 rfl ?_
                  refine ab_iaload' hG 226 _ _ _ _ 24 0 336 _ dX6_meet_226 rfl h.1 ?_
                  have h := h.2
                  refine ab_iastore' hG 227 _ _ _ _ 33 0 24 _ _ dX6_meet_227 rfl h.1 ?_
                  have h := h.2
                  refine ab_aload_n' hG 228 _ _ _ _ 0 _ dX6_meet_228 rfl ?_
                  refine ab_gR hG 229 _ _ _ _ 48 21 15 0 (31, 0) dX6_meet_229 (List.Mem.tail _ (List.Mem.tail _ (List.Mem.head _))) rfl ?_
                  refine ab_iload_n' hG 232 _ _ _ _ 1 _ dX6_meet_232 rfl ?_
                  refine ab_iaload' hG 233 _ _ _ _ 31 0 24 _ dX6_meet_233 rfl h.1 ?_
                  have h := h.2
                  refine ab_if_ne' hG 234 _ _ _ _ (40) 274 _ dX6_meet_234 (by decide) (fun hc => ?_) (fun hc => ?_)
                  · have h := h.2 hc
                    exact ab_return_' hG 274 _ _ _ dX6_meet_274 rfl (by decide) h
                  · have h := h.1 hc
                    refine ab_aload_n' hG 237 _ _ _ _ 0 _ dX6_meet_237 rfl ?_
                    refine ab_gR hG 238 _ _ _ _ 48 21 15 0 (31, 0) dX6_meet_238 (List.Mem.tail _ (List.Mem.tail _ (List.Mem.head _))) rfl ?_
                    refine ab_iload_n' hG 241 _ _ _ _ 1 _ dX6_meet_241 rfl ?_
                    refine ab_aload_n' hG 242 _ _ _ _ 0 _ dX6_meet_242 rfl ?_
                    refine ab_gR hG 243 _ _ _ _ 51 21 16 0 (32, 0) dX6_meet_243 (List.Mem.tail _ (List.Mem.tail _ (List.Mem.tail _ (List.Mem.tail _ (List.Mem.head _))))) rfl ?_
                    refine ab_iload_n' hG 246 _ _ _ _ 1 _ dX6_meet_246 rfl ?_
                    refine ab_iaload' hG 247 _ _ _ _ 32 0 24 _ dX6_meet_247 rfl h.1 ?_
                    have h := h.2
                    refine ab_bipush' hG 248 _ _ _ _ (-9) (-9) dX6_meet_248 (by decide) ?_
                    refine ab_icmp_ne' hG 250 _ _ _ _ (7) 257 _ _ dX6_meet_250 (by decide) (fun hc => ?_) (fun hc => ?_)
                    · have h := h.2 hc
                      refine ab_aload_n' hG 257 _ _ _ _ 0 _ dX6_meet_257 rfl ?_
                      refine ab_gR hG 258 _ _ _ _ 54 21 17 0 (33, 0) dX6_meet_258 (List.Mem.tail _ (List.Mem.tail _ (List.Mem.tail _ (List.Mem.tail _ (List.Mem.tail _ (List.Mem.tail _ (List.Mem.head _))))))) rfl ?_
                      refine ab_iload_n' hG 261 _ _ _ _ 1 _ dX6_meet_261 rfl ?_
                      refine ab_iaload' hG 262 _ _ _ _ 33 0 24 _ dX6_meet_262 rfl h.1 ?_
                      have h := h.2
                      refine ab_bipush' hG 263 _ _ _ _ (-9) (-9) dX6_meet_263 (by decide) ?_
                      refine ab_icmp_ne' hG 265 _ _ _ _ (7) 272 _ _ dX6_meet_265 (by decide) (fun hc => ?_) (fun hc => ?_)
                      · have h := h.2 hc
                        refine ab_iconst' hG 272 _ _ _ _ 0 0 dX6_meet_272 (by decide) ?_
                        refine ab_iastore' hG 273 _ _ _ _ 31 0 24 _ _ dX6_meet_273 rfl h.1 ?_
                        have h := h.2
                        exact ab_return_' hG 274 _ _ _ dX6_meet_274 rfl (by decide) h
                      · have h := h.1 hc
                        refine ab_iconst' hG 268 _ _ _ _ 3 3 dX6_meet_268 (by decide) ?_
                        refine ab_goto' hG 269 _ _ _ _ (4) 273 dX6_meet_269 (by decide) ?_
                        refine ab_iastore' hG 273 _ _ _ _ 31 0 24 _ _ dX6_meet_273 rfl h.1 ?_
                        have h := h.2
                        exact ab_return_' hG 274 _ _ _ dX6_meet_274 rfl (by decide) h
                    · have h := h.1 hc
                      refine ab_iconst' hG 253 _ _ _ _ 2 2 dX6_meet_253 (by decide) ?_
                      refine ab_goto' hG 254 _ _ _ _ (19) 273 dX6_meet_254 (by decide) ?_
                      refine ab_iastore' hG 273 _ _ _ _ 31 0 24 _ _ dX6_meet_273 rfl h.1 ?_
                      have h := h.2
                      exact ab_return_' hG 274 _ _ _ dX6_meet_274 rfl (by decide) h
                · have h := h.2 hc
                  refine ab_aload_n' hG 186 _ _ _ _ 0 _ dX6_meet_186 rfl ?_
                  refine ab_gR hG 187 _ _ _ _ 17 21 3 0 (24, 0) dX6_meet_187 (List.Mem.tail _ (List.Mem.tail _ (List.Mem.tail _ (List.Mem.tail _ (List.Mem.tail _ (List.Mem.tail _ (List.Mem.tail _ (List.Mem.head _)))))))) rfl ?_
                  refine ab_iload' hG 190 _ _ _ _ 4 _ dX6_meet_190 rfl ?_
                  refine ab_iaload' hG 192 _ _ _ _ 24 0 336 _ dX6_meet_192 rfl h.1 ?_
                  have h := h.2
                  refine ab_aload_n' hG 193 _ _ _ _ 0 _ dX6_meet_193 rfl ?_
                  refine ab_gR hG 194 _ _ _ _ 17 21 3 0 (24, 0) dX6_meet_194 (List.Mem.tail _ (List.Mem.tail _ (List.Mem.tail _ (List.Mem.tail _ (List.Mem.tail _ (List.Mem.tail _ (List.Mem.tail _ (List.Mem.head _)))))))) rfl ?_
                  refine ab_iload' hG 197 _ _ _ _ 5 _ dX6_meet_197 rfl ?_
                  refine ab_iaload' hG 199 _ _ _ _ 24 0 336 _ dX6_meet_199 rfl h.1 ?_
                  have h := h.2
                  refine ab_aload_n' hG 200 _ _ _ _ 0 _ dX6_meet_200 rfl ?_
                  refine ab_gR hG 201 _ _ _ _ 7 21 1 0 (22, 0) dX6_meet_201 (List.Mem.tail _ (List.Mem.tail _ (List.Mem.tail _ (List.Mem.head _)))) rfl ?_
                  refine ab_iload' hG 204 _ _ _ _ 6 _ dX6_meet_204 rfl ?_
                  refine ab_baload' hG 206 _ _ _ _ 22 0 336 _ dX6_meet_206 rfl h.1 ?_
                  have h := h.2
                  refine ab_aload_n' hG 207 _ _ _ _ 0 _ dX6_meet_207 rfl ?_
                  refine ab_gR hG 208 _ _ _ _ 17 21 3 0 (24, 0) dX6_meet_208 (List.Mem.tail _ (List.Mem.tail _ (List.Mem.tail _ (List.Mem.tail _ (List.Mem.tail _ (List.Mem.tail _ (List.Mem.tail _ (List.Mem.head _)))))))) rfl ?_
                  refine ab_iload' hG 211 _ _ _ _ 6 _ dX6_meet_211 rfl ?_
                  refine ab_iaload' hG 213 _ _ _ _ 24 0 336 _ dX6_meet_213 rfl h.1 ?_
                  have h := h.2
                  exact ab_invs' hG 214 [some (.inr (21, 0)), some (.inl x1), some (.inl x2), some (.inl x3), some (.inl x4), some (.inl x5), some (.inl x6), some (.inl xs0), some (.inl x5), some (.inl 1)] [(.inl ((ab_su (ab_su (ab_su S 30 0 x1.toNatClampNeg (vp_nar .boolean 0)) 31 0 x1.toNatClampNeg 1) 32 0 x1.toNatClampNeg ((ab_su (ab_su S 30 0 x1.toNatClampNeg (vp_nar .boolean 0)) 31 0 x1.toNatClampNeg 1) 23 0 x5.toNatClampNeg)) 24 0 x4.toNatClampNeg)), (.inl ((ab_su (ab_su (ab_su S 30 0 x1.toNatClampNeg (vp_nar .boolean 0)) 31 0 x1.toNatClampNeg 1) 32 0 x1.toNatClampNeg ((ab_su (ab_su S 30 0 x1.toNatClampNeg (vp_nar .boolean 0)) 31 0 x1.toNatClampNeg 1) 23 0 x5.toNatClampNeg)) 24 0 x5.toNatClampNeg)), (.inl ((ab_su (ab_su (ab_su S 30 0 x1.toNatClampNeg (vp_nar .boolean 0)) 31 0 x1.toNatClampNeg 1) 32 0 x1.toNatClampNeg ((ab_su (ab_su S 30 0 x1.toNatClampNeg (vp_nar .boolean 0)) 31 0 x1.toNatClampNeg 1) 23 0 x5.toNatClampNeg)) 22 0 x6.toNatClampNeg)), (.inl ((ab_su (ab_su (ab_su S 30 0 x1.toNatClampNeg (vp_nar .boolean 0)) 31 0 x1.toNatClampNeg 1) 32 0 x1.toNatClampNeg ((ab_su (ab_su S 30 0 x1.toNatClampNeg (vp_nar .boolean 0)) 31 0 x1.toNatClampNeg 1) 23 0 x5.toNatClampNeg)) 24 0 x6.toNatClampNeg))] [(.inl x1), (.inr (33, 0))] (ab_su (ab_su (ab_su S 30 0 x1.toNatClampNeg (vp_nar .boolean 0)) 31 0 x1.toNatClampNeg 1) 32 0 x1.toNatClampNeg ((ab_su (ab_su S 30 0 x1.toNatClampNeg (vp_nar .boolean 0)) 31 0 x1.toNatClampNeg 1) 23 0 x5.toNatClampNeg)) 0 137 _ 4 1 0 _ dX6_meet_214 rfl rfl (by decide) (by decide) h
              · have h := h.2 hc
                refine ab_aload_n' hG 134 _ _ _ _ 0 _ dX6_meet_134 rfl ?_
                refine ab_gR hG 135 _ _ _ _ 13 21 2 0 (23, 0) dX6_meet_135 (List.Mem.tail _ (List.Mem.tail _ (List.Mem.tail _ (List.Mem.tail _ (List.Mem.tail _ (List.Mem.head _)))))) rfl ?_
                refine ab_iload' hG 138 _ _ _ _ 4 _ dX6_meet_138 rfl ?_
                refine ab_iaload' hG 140 _ _ _ _ 23 0 336 _ dX6_meet_140 rfl h.1 ?_
                have h := h.2
                refine ab_aload_n' hG 141 _ _ _ _ 0 _ dX6_meet_141 rfl ?_
                refine ab_gR hG 142 _ _ _ _ 13 21 2 0 (23, 0) dX6_meet_142 (List.Mem.tail _ (List.Mem.tail _ (List.Mem.tail _ (List.Mem.tail _ (List.Mem.tail _ (List.Mem.head _)))))) rfl ?_
                refine ab_iload' hG 145 _ _ _ _ 5 _ dX6_meet_145 rfl ?_
                refine ab_iaload' hG 147 _ _ _ _ 23 0 336 _ dX6_meet_147 rfl h.1 ?_
                have h := h.2
                refine ab_aload_n' hG 148 _ _ _ _ 0 _ dX6_meet_148 rfl ?_
                refine ab_gR hG 149 _ _ _ _ 7 21 1 0 (22, 0) dX6_meet_149 (List.Mem.tail _ (List.Mem.tail _ (List.Mem.tail _ (List.Mem.head _)))) rfl ?_
                refine ab_iload' hG 152 _ _ _ _ 6 _ dX6_meet_152 rfl ?_
                refine ab_baload' hG 154 _ _ _ _ 22 0 336 _ dX6_meet_154 rfl h.1 ?_
                have h := h.2
                refine ab_aload_n' hG 155 _ _ _ _ 0 _ dX6_meet_155 rfl ?_
                refine ab_gR hG 156 _ _ _ _ 13 21 2 0 (23, 0) dX6_meet_156 (List.Mem.tail _ (List.Mem.tail _ (List.Mem.tail _ (List.Mem.tail _ (List.Mem.tail _ (List.Mem.head _)))))) rfl ?_
                refine ab_iload' hG 159 _ _ _ _ 6 _ dX6_meet_159 rfl ?_
                refine ab_iaload' hG 161 _ _ _ _ 23 0 336 _ dX6_meet_161 rfl h.1 ?_
                have h := h.2
                exact ab_invs' hG 162 [some (.inr (21, 0)), some (.inl x1), some (.inl x2), some (.inl x3), some (.inl x4), some (.inl x5), some (.inl x6), some (.inl xs0), some (.inl x5), some (.inl 1)] [(.inl ((ab_su (ab_su S 30 0 x1.toNatClampNeg (vp_nar .boolean 0)) 31 0 x1.toNatClampNeg 1) 23 0 x4.toNatClampNeg)), (.inl ((ab_su (ab_su S 30 0 x1.toNatClampNeg (vp_nar .boolean 0)) 31 0 x1.toNatClampNeg 1) 23 0 x5.toNatClampNeg)), (.inl ((ab_su (ab_su S 30 0 x1.toNatClampNeg (vp_nar .boolean 0)) 31 0 x1.toNatClampNeg 1) 22 0 x6.toNatClampNeg)), (.inl ((ab_su (ab_su S 30 0 x1.toNatClampNeg (vp_nar .boolean 0)) 31 0 x1.toNatClampNeg 1) 23 0 x6.toNatClampNeg))] [(.inl x1), (.inr (32, 0))] (ab_su (ab_su S 30 0 x1.toNatClampNeg (vp_nar .boolean 0)) 31 0 x1.toNatClampNeg 1) 0 137 _ 4 1 0 _ dX6_meet_162 rfl rfl (by decide) (by decide) h
        · have h := h.2 hc
          refine ab_iload' hG 88 _ _ _ _ 4 _ dX6_meet_88 rfl ?_
          refine ab_goto' hG 90 _ _ _ _ (5) 95 dX6_meet_90 (by decide) ?_
          refine ab_istore' hG 95 _ _ _ _ 8 _ dX6_meet_95 (by decide) ?_
          refine ab_aload_n' hG 97 _ _ _ _ 0 _ dX6_meet_97 rfl ?_
          refine ab_gR hG 98 _ _ _ _ 7 21 1 0 (22, 0) dX6_meet_98 (List.Mem.tail _ (List.Mem.tail _ (List.Mem.tail _ (List.Mem.head _)))) rfl ?_
          refine ab_iload' hG 101 _ _ _ _ 4 _ dX6_meet_101 rfl ?_
          refine ab_baload' hG 103 _ _ _ _ 22 0 336 _ dX6_meet_103 rfl h.1 ?_
          have h := h.2
          refine ab_if_eq' hG 104 _ _ _ _ (17) 121 _ dX6_meet_104 (by decide) (fun hc => ?_) (fun hc => ?_)
          · have h := h.1 hc
            refine ab_iconst' hG 121 _ _ _ _ 0 0 dX6_meet_121 (by decide) ?_
            refine ab_istore' hG 122 _ _ _ _ 9 _ dX6_meet_122 (by decide) ?_
            refine ab_aload_n' hG 124 _ _ _ _ 0 _ dX6_meet_124 rfl ?_
            refine ab_gR hG 125 _ _ _ _ 51 21 16 0 (32, 0) dX6_meet_125 (List.Mem.tail _ (List.Mem.tail _ (List.Mem.tail _ (List.Mem.tail _ (List.Mem.head _))))) rfl ?_
            refine ab_iload_n' hG 128 _ _ _ _ 1 _ dX6_meet_128 rfl ?_
            refine ab_iload' hG 129 _ _ _ _ 9 _ dX6_meet_129 rfl ?_
            refine ab_if_eq' hG 131 _ _ _ _ (37) 168 _ dX6_meet_131 (by decide) (fun hc => ?_) (fun hc => ?_)
            · have h := h.1 hc
              refine ab_aload_n' hG 168 _ _ _ _ 0 _ dX6_meet_168 rfl ?_
              refine ab_gR hG 169 _ _ _ _ 13 21 2 0 (23, 0) dX6_meet_169 (List.Mem.tail _ (List.Mem.tail _ (List.Mem.tail _ (List.Mem.tail _ (List.Mem.tail _ (List.Mem.head _)))))) rfl ?_
              refine ab_iload' hG 172 _ _ _ _ 8 _ dX6_meet_172 rfl ?_
              refine ab_iaload' hG 174 _ _ _ _ 23 0 336 _ dX6_meet_174 rfl h.1 ?_
              have h := h.2
              refine ab_iastore' hG 175 _ _ _ _ 32 0 24 _ _ dX6_meet_175 rfl h.1 ?_
              have h := h.2
              refine ab_aload_n' hG 176 _ _ _ _ 0 _ dX6_meet_176 rfl ?_
              refine ab_gR hG 177 _ _ _ _ 54 21 17 0 (33, 0) dX6_meet_177 (List.Mem.tail _ (List.Mem.tail _ (List.Mem.tail _ (List.Mem.tail _ (List.Mem.tail _ (List.Mem.tail _ (List.Mem.head _))))))) rfl ?_
              refine ab_iload_n' hG 180 _ _ _ _ 1 _ dX6_meet_180 rfl ?_
              refine ab_iload' hG 181 _ _ _ _ 9 _ dX6_meet_181 rfl ?_
              refine ab_if_eq' hG 183 _ _ _ _ (37) 220 _ dX6_meet_183 (by decide) (fun hc => ?_) (fun hc => ?_)
              · have h := h.1 hc
                refine ab_aload_n' hG 220 _ _ _ _ 0 _ dX6_meet_220 rfl ?_
                refine ab_gR hG 221 _ _ _ _ 17 21 3 0 (24, 0) dX6_meet_221 (List.Mem.tail _ (List.Mem.tail _ (List.Mem.tail _ (List.Mem.tail _ (List.Mem.tail _ (List.Mem.tail _ (List.Mem.tail _ (List.Mem.head _)))))))) rfl ?_
                refine ab_iload' hG 224 _ _ _ _ 8 _ dX6_meet_224 rfl ?_
                refine ab_iaload' hG 226 _ _ _ _ 24 0 336 _ dX6_meet_226 rfl h.1 ?_
                have h := h.2
                refine ab_iastore' hG 227 _ _ _ _ 33 0 24 _ _ dX6_meet_227 rfl h.1 ?_
                have h := h.2
                refine ab_aload_n' hG 228 _ _ _ _ 0 _ dX6_meet_228 rfl ?_
                refine ab_gR hG 229 _ _ _ _ 48 21 15 0 (31, 0) dX6_meet_229 (List.Mem.tail _ (List.Mem.tail _ (List.Mem.head _))) rfl ?_
                refine ab_iload_n' hG 232 _ _ _ _ 1 _ dX6_meet_232 rfl ?_
                refine ab_iaload' hG 233 _ _ _ _ 31 0 24 _ dX6_meet_233 rfl h.1 ?_
                have h := h.2
                refine ab_if_ne' hG 234 _ _ _ _ (40) 274 _ dX6_meet_234 (by decide) (fun hc => ?_) (fun hc => ?_)
                · have h := h.2 hc
                  exact ab_return_' hG 274 _ _ _ dX6_meet_274 rfl (by decide) h
                · have h := h.1 hc
                  refine ab_aload_n' hG 237 _ _ _ _ 0 _ dX6_meet_237 rfl ?_
                  refine ab_gR hG 238 _ _ _ _ 48 21 15 0 (31, 0) dX6_meet_238 (List.Mem.tail _ (List.Mem.tail _ (List.Mem.head _))) rfl ?_
                  refine ab_iload_n' hG 241 _ _ _ _ 1 _ dX6_meet_241 rfl ?_
                  refine ab_aload_n' hG 242 _ _ _ _ 0 _ dX6_meet_242 rfl ?_
                  refine ab_gR hG 243 _ _ _ _ 51 21 16 0 (32, 0) dX6_meet_243 (List.Mem.tail _ (List.Mem.tail _ (List.Mem.tail _ (List.Mem.tail _ (List.Mem.head _))))) rfl ?_
                  refine ab_iload_n' hG 246 _ _ _ _ 1 _ dX6_meet_246 rfl ?_
                  refine ab_iaload' hG 247 _ _ _ _ 32 0 24 _ dX6_meet_247 rfl h.1 ?_
                  have h := h.2
                  refine ab_bipush' hG 248 _ _ _ _ (-9) (-9) dX6_meet_248 (by decide) ?_
                  refine ab_icmp_ne' hG 250 _ _ _ _ (7) 257 _ _ dX6_meet_250 (by decide) (fun hc => ?_) (fun hc => ?_)
                  · have h := h.2 hc
                    refine ab_aload_n' hG 257 _ _ _ _ 0 _ dX6_meet_257 rfl ?_
                    refine ab_gR hG 258 _ _ _ _ 54 21 17 0 (33, 0) dX6_meet_258 (List.Mem.tail _ (List.Mem.tail _ (List.Mem.tail _ (List.Mem.tail _ (List.Mem.tail _ (List.Mem.tail _ (List.Mem.head _))))))) rfl ?_
                    refine ab_iload_n' hG 261 _ _ _ _ 1 _ dX6_meet_261 rfl ?_
                    refine ab_iaload' hG 262 _ _ _ _ 33 0 24 _ dX6_meet_262 rfl h.1 ?_
                    have h := h.2
                    refine ab_bipush' hG 263 _ _ _ _ (-9) (-9) dX6_meet_263 (by decide) ?_
                    refine ab_icmp_ne' hG 265 _ _ _ _ (7) 272 _ _ dX6_meet_265 (by decide) (fun hc => ?_) (fun hc => ?_)
                    · have h := h.2 hc
                      refine ab_iconst' hG 272 _ _ _ _ 0 0 dX6_meet_272 (by decide) ?_
                      refine ab_iastore' hG 273 _ _ _ _ 31 0 24 _ _ dX6_meet_273 rfl h.1 ?_
                      have h := h.2
                      exact ab_return_' hG 274 _ _ _ dX6_meet_274 rfl (by decide) h
                    · have h := h.1 hc
                      refine ab_iconst' hG 268 _ _ _ _ 3 3 dX6_meet_268 (by decide) ?_
                      refine ab_goto' hG 269 _ _ _ _ (4) 273 dX6_meet_269 (by decide) ?_
                      refine ab_iastore' hG 273 _ _ _ _ 31 0 24 _ _ dX6_meet_273 rfl h.1 ?_
                      have h := h.2
                      exact ab_return_' hG 274 _ _ _ dX6_meet_274 rfl (by decide) h
                  · have h := h.1 hc
                    refine ab_iconst' hG 253 _ _ _ _ 2 2 dX6_meet_253 (by decide) ?_
                    refine ab_goto' hG 254 _ _ _ _ (19) 273 dX6_meet_254 (by decide) ?_
                    refine ab_iastore' hG 273 _ _ _ _ 31 0 24 _ _ dX6_meet_273 rfl h.1 ?_
                    have h := h.2
                    exact ab_return_' hG 274 _ _ _ dX6_meet_274 rfl (by decide) h
              · have h := h.2 hc
                refine ab_aload_n' hG 186 _ _ _ _ 0 _ dX6_meet_186 rfl ?_
                refine ab_gR hG 187 _ _ _ _ 17 21 3 0 (24, 0) dX6_meet_187 (List.Mem.tail _ (List.Mem.tail _ (List.Mem.tail _ (List.Mem.tail _ (List.Mem.tail _ (List.Mem.tail _ (List.Mem.tail _ (List.Mem.head _)))))))) rfl ?_
                refine ab_iload' hG 190 _ _ _ _ 4 _ dX6_meet_190 rfl ?_
                refine ab_iaload' hG 192 _ _ _ _ 24 0 336 _ dX6_meet_192 rfl h.1 ?_
                have h := h.2
                refine ab_aload_n' hG 193 _ _ _ _ 0 _ dX6_meet_193 rfl ?_
                refine ab_gR hG 194 _ _ _ _ 17 21 3 0 (24, 0) dX6_meet_194 (List.Mem.tail _ (List.Mem.tail _ (List.Mem.tail _ (List.Mem.tail _ (List.Mem.tail _ (List.Mem.tail _ (List.Mem.tail _ (List.Mem.head _)))))))) rfl ?_
                refine ab_iload' hG 197 _ _ _ _ 5 _ dX6_meet_197 rfl ?_
                refine ab_iaload' hG 199 _ _ _ _ 24 0 336 _ dX6_meet_199 rfl h.1 ?_
                have h := h.2
                refine ab_aload_n' hG 200 _ _ _ _ 0 _ dX6_meet_200 rfl ?_
                refine ab_gR hG 201 _ _ _ _ 7 21 1 0 (22, 0) dX6_meet_201 (List.Mem.tail _ (List.Mem.tail _ (List.Mem.tail _ (List.Mem.head _)))) rfl ?_
                refine ab_iload' hG 204 _ _ _ _ 6 _ dX6_meet_204 rfl ?_
                refine ab_baload' hG 206 _ _ _ _ 22 0 336 _ dX6_meet_206 rfl h.1 ?_
                have h := h.2
                refine ab_aload_n' hG 207 _ _ _ _ 0 _ dX6_meet_207 rfl ?_
                refine ab_gR hG 208 _ _ _ _ 17 21 3 0 (24, 0) dX6_meet_208 (List.Mem.tail _ (List.Mem.tail _ (List.Mem.tail _ (List.Mem.tail _ (List.Mem.tail _ (List.Mem.tail _ (List.Mem.tail _ (List.Mem.head _)))))))) rfl ?_
                refine ab_iload' hG 211 _ _ _ _ 6 _ dX6_meet_211 rfl ?_
                refine ab_iaload' hG 213 _ _ _ _ 24 0 336 _ dX6_meet_213 rfl h.1 ?_
                have h := h.2
                exact ab_invs' hG 214 [some (.inr (21, 0)), some (.inl x1), some (.inl x2), some (.inl x3), some (.inl x4), some (.inl x5), some (.inl x6), some (.inl xs0), some (.inl x4), some (.inl 0)] [(.inl ((ab_su (ab_su (ab_su S 30 0 x1.toNatClampNeg (vp_nar .boolean 0)) 31 0 x1.toNatClampNeg 1) 32 0 x1.toNatClampNeg ((ab_su (ab_su S 30 0 x1.toNatClampNeg (vp_nar .boolean 0)) 31 0 x1.toNatClampNeg 1) 23 0 x4.toNatClampNeg)) 24 0 x4.toNatClampNeg)), (.inl ((ab_su (ab_su (ab_su S 30 0 x1.toNatClampNeg (vp_nar .boolean 0)) 31 0 x1.toNatClampNeg 1) 32 0 x1.toNatClampNeg ((ab_su (ab_su S 30 0 x1.toNatClampNeg (vp_nar .boolean 0)) 31 0 x1.toNatClampNeg 1) 23 0 x4.toNatClampNeg)) 24 0 x5.toNatClampNeg)), (.inl ((ab_su (ab_su (ab_su S 30 0 x1.toNatClampNeg (vp_nar .boolean 0)) 31 0 x1.toNatClampNeg 1) 32 0 x1.toNatClampNeg ((ab_su (ab_su S 30 0 x1.toNatClampNeg (vp_nar .boolean 0)) 31 0 x1.toNatClampNeg 1) 23 0 x4.toNatClampNeg)) 22 0 x6.toNatClampNeg)), (.inl ((ab_su (ab_su (ab_su S 30 0 x1.toNatClampNeg (vp_nar .boolean 0)) 31 0 x1.toNatClampNeg 1) 32 0 x1.toNatClampNeg ((ab_su (ab_su S 30 0 x1.toNatClampNeg (vp_nar .boolean 0)) 31 0 x1.toNatClampNeg 1) 23 0 x4.toNatClampNeg)) 24 0 x6.toNatClampNeg))] [(.inl x1), (.inr (33, 0))] (ab_su (ab_su (ab_su S 30 0 x1.toNatClampNeg (vp_nar .boolean 0)) 31 0 x1.toNatClampNeg 1) 32 0 x1.toNatClampNeg ((ab_su (ab_su S 30 0 x1.toNatClampNeg (vp_nar .boolean 0)) 31 0 x1.toNatClampNeg 1) 23 0 x4.toNatClampNeg)) 0 137 _ 4 1 0 _ dX6_meet_214 rfl rfl (by decide) (by decide) h
            · have h := h.2 hc
              refine ab_aload_n' hG 134 _ _ _ _ 0 _ dX6_meet_134 rfl ?_
              refine ab_gR hG 135 _ _ _ _ 13 21 2 0 (23, 0) dX6_meet_135 (List.Mem.tail _ (List.Mem.tail _ (List.Mem.tail _ (List.Mem.tail _ (List.Mem.tail _ (List.Mem.head _)))))) rfl ?_
              refine ab_iload' hG 138 _ _ _ _ 4 _ dX6_meet_138 rfl ?_
              refine ab_iaload' hG 140 _ _ _ _ 23 0 336 _ dX6_meet_140 rfl h.1 ?_
              have h := h.2
              refine ab_aload_n' hG 141 _ _ _ _ 0 _ dX6_meet_141 rfl ?_
              refine ab_gR hG 142 _ _ _ _ 13 21 2 0 (23, 0) dX6_meet_142 (List.Mem.tail _ (List.Mem.tail _ (List.Mem.tail _ (List.Mem.tail _ (List.Mem.tail _ (List.Mem.head _)))))) rfl ?_
              refine ab_iload' hG 145 _ _ _ _ 5 _ dX6_meet_145 rfl ?_
              refine ab_iaload' hG 147 _ _ _ _ 23 0 336 _ dX6_meet_147 rfl h.1 ?_
              have h := h.2
              refine ab_aload_n' hG 148 _ _ _ _ 0 _ dX6_meet_148 rfl ?_
              refine ab_gR hG 149 _ _ _ _ 7 21 1 0 (22, 0) dX6_meet_149 (List.Mem.tail _ (List.Mem.tail _ (List.Mem.tail _ (List.Mem.head _)))) rfl ?_
              refine ab_iload' hG 152 _ _ _ _ 6 _ dX6_meet_152 rfl ?_
              refine ab_baload' hG 154 _ _ _ _ 22 0 336 _ dX6_meet_154 rfl h.1 ?_
              have h := h.2
              refine ab_aload_n' hG 155 _ _ _ _ 0 _ dX6_meet_155 rfl ?_
              refine ab_gR hG 156 _ _ _ _ 13 21 2 0 (23, 0) dX6_meet_156 (List.Mem.tail _ (List.Mem.tail _ (List.Mem.tail _ (List.Mem.tail _ (List.Mem.tail _ (List.Mem.head _)))))) rfl ?_
              refine ab_iload' hG 159 _ _ _ _ 6 _ dX6_meet_159 rfl ?_
              refine ab_iaload' hG 161 _ _ _ _ 23 0 336 _ dX6_meet_161 rfl h.1 ?_
              have h := h.2
              exact ab_invs' hG 162 [some (.inr (21, 0)), some (.inl x1), some (.inl x2), some (.inl x3), some (.inl x4), some (.inl x5), some (.inl x6), some (.inl xs0), some (.inl x4), some (.inl 0)] [(.inl ((ab_su (ab_su S 30 0 x1.toNatClampNeg (vp_nar .boolean 0)) 31 0 x1.toNatClampNeg 1) 23 0 x4.toNatClampNeg)), (.inl ((ab_su (ab_su S 30 0 x1.toNatClampNeg (vp_nar .boolean 0)) 31 0 x1.toNatClampNeg 1) 23 0 x5.toNatClampNeg)), (.inl ((ab_su (ab_su S 30 0 x1.toNatClampNeg (vp_nar .boolean 0)) 31 0 x1.toNatClampNeg 1) 22 0 x6.toNatClampNeg)), (.inl ((ab_su (ab_su S 30 0 x1.toNatClampNeg (vp_nar .boolean 0)) 31 0 x1.toNatClampNeg 1) 23 0 x6.toNatClampNeg))] [(.inl x1), (.inr (32, 0))] (ab_su (ab_su S 30 0 x1.toNatClampNeg (vp_nar .boolean 0)) 31 0 x1.toNatClampNeg 1) 0 137 _ 4 1 0 _ dX6_meet_162 rfl rfl (by decide) (by decide) h
          · have h := h.2 hc
            refine ab_aload_n' hG 107 _ _ _ _ 0 _ dX6_meet_107 rfl ?_
            refine ab_gR hG 108 _ _ _ _ 7 21 1 0 (22, 0) dX6_meet_108 (List.Mem.tail _ (List.Mem.tail _ (List.Mem.tail _ (List.Mem.head _)))) rfl ?_
            refine ab_iload' hG 111 _ _ _ _ 5 _ dX6_meet_111 rfl ?_
            refine ab_baload' hG 113 _ _ _ _ 22 0 336 _ dX6_meet_113 rfl h.1 ?_
            have h := h.2
            refine ab_if_eq' hG 114 _ _ _ _ (7) 121 _ dX6_meet_114 (by decide) (fun hc => ?_) (fun hc => ?_)
            · have h := h.1 hc
              refine ab_iconst' hG 121 _ _ _ _ 0 0 dX6_meet_121 (by decide) ?_
              refine ab_istore' hG 122 _ _ _ _ 9 _ dX6_meet_122 (by decide) ?_
              refine ab_aload_n' hG 124 _ _ _ _ 0 _ dX6_meet_124 rfl ?_
              refine ab_gR hG 125 _ _ _ _ 51 21 16 0 (32, 0) dX6_meet_125 (List.Mem.tail _ (List.Mem.tail _ (List.Mem.tail _ (List.Mem.tail _ (List.Mem.head _))))) rfl ?_
              refine ab_iload_n' hG 128 _ _ _ _ 1 _ dX6_meet_128 rfl ?_
              refine ab_iload' hG 129 _ _ _ _ 9 _ dX6_meet_129 rfl ?_
              refine ab_if_eq' hG 131 _ _ _ _ (37) 168 _ dX6_meet_131 (by decide) (fun hc => ?_) (fun hc => ?_)
              · have h := h.1 hc
                refine ab_aload_n' hG 168 _ _ _ _ 0 _ dX6_meet_168 rfl ?_
                refine ab_gR hG 169 _ _ _ _ 13 21 2 0 (23, 0) dX6_meet_169 (List.Mem.tail _ (List.Mem.tail _ (List.Mem.tail _ (List.Mem.tail _ (List.Mem.tail _ (List.Mem.head _)))))) rfl ?_
                refine ab_iload' hG 172 _ _ _ _ 8 _ dX6_meet_172 rfl ?_
                refine ab_iaload' hG 174 _ _ _ _ 23 0 336 _ dX6_meet_174 rfl h.1 ?_
                have h := h.2
                refine ab_iastore' hG 175 _ _ _ _ 32 0 24 _ _ dX6_meet_175 rfl h.1 ?_
                have h := h.2
                refine ab_aload_n' hG 176 _ _ _ _ 0 _ dX6_meet_176 rfl ?_
                refine ab_gR hG 177 _ _ _ _ 54 21 17 0 (33, 0) dX6_meet_177 (List.Mem.tail _ (List.Mem.tail _ (List.Mem.tail _ (List.Mem.tail _ (List.Mem.tail _ (List.Mem.tail _ (List.Mem.head _))))))) rfl ?_
                refine ab_iload_n' hG 180 _ _ _ _ 1 _ dX6_meet_180 rfl ?_
                refine ab_iload' hG 181 _ _ _ _ 9 _ dX6_meet_181 rfl ?_
                refine ab_if_eq' hG 183 _ _ _ _ (37) 220 _ dX6_meet_183 (by decide) (fun hc => ?_) (fun hc => ?_)
                · have h := h.1 hc
                  refine ab_aload_n' hG 220 _ _ _ _ 0 _ dX6_meet_220 rfl ?_
                  refine ab_gR hG 221 _ _ _ _ 17 21 3 0 (24, 0) dX6_meet_221 (List.Mem.tail _ (List.Mem.tail _ (List.Mem.tail _ (List.Mem.tail _ (List.Mem.tail _ (List.Mem.tail _ (List.Mem.tail _ (List.Mem.head _)))))))) rfl ?_
                  refine ab_iload' hG 224 _ _ _ _ 8 _ dX6_meet_224 rfl ?_
                  refine ab_iaload' hG 226 _ _ _ _ 24 0 336 _ dX6_meet_226 rfl h.1 ?_
                  have h := h.2
                  refine ab_iastore' hG 227 _ _ _ _ 33 0 24 _ _ dX6_meet_227 rfl h.1 ?_
                  have h := h.2
                  refine ab_aload_n' hG 228 _ _ _ _ 0 _ dX6_meet_228 rfl ?_
                  refine ab_gR hG 229 _ _ _ _ 48 21 15 0 (31, 0) dX6_meet_229 (List.Mem.tail _ (List.Mem.tail _ (List.Mem.head _))) rfl ?_
                  refine ab_iload_n' hG 232 _ _ _ _ 1 _ dX6_meet_232 rfl ?_
                  refine ab_iaload' hG 233 _ _ _ _ 31 0 24 _ dX6_meet_233 rfl h.1 ?_
                  have h := h.2
                  refine ab_if_ne' hG 234 _ _ _ _ (40) 274 _ dX6_meet_234 (by decide) (fun hc => ?_) (fun hc => ?_)
                  · have h := h.2 hc
                    exact ab_return_' hG 274 _ _ _ dX6_meet_274 rfl (by decide) h
                  · have h := h.1 hc
                    refine ab_aload_n' hG 237 _ _ _ _ 0 _ dX6_meet_237 rfl ?_
                    refine ab_gR hG 238 _ _ _ _ 48 21 15 0 (31, 0) dX6_meet_238 (List.Mem.tail _ (List.Mem.tail _ (List.Mem.head _))) rfl ?_
                    refine ab_iload_n' hG 241 _ _ _ _ 1 _ dX6_meet_241 rfl ?_
                    refine ab_aload_n' hG 242 _ _ _ _ 0 _ dX6_meet_242 rfl ?_
                    refine ab_gR hG 243 _ _ _ _ 51 21 16 0 (32, 0) dX6_meet_243 (List.Mem.tail _ (List.Mem.tail _ (List.Mem.tail _ (List.Mem.tail _ (List.Mem.head _))))) rfl ?_
                    refine ab_iload_n' hG 246 _ _ _ _ 1 _ dX6_meet_246 rfl ?_
                    refine ab_iaload' hG 247 _ _ _ _ 32 0 24 _ dX6_meet_247 rfl h.1 ?_
                    have h := h.2
                    refine ab_bipush' hG 248 _ _ _ _ (-9) (-9) dX6_meet_248 (by decide) ?_
                    refine ab_icmp_ne' hG 250 _ _ _ _ (7) 257 _ _ dX6_meet_250 (by decide) (fun hc => ?_) (fun hc => ?_)
                    · have h := h.2 hc
                      refine ab_aload_n' hG 257 _ _ _ _ 0 _ dX6_meet_257 rfl ?_
                      refine ab_gR hG 258 _ _ _ _ 54 21 17 0 (33, 0) dX6_meet_258 (List.Mem.tail _ (List.Mem.tail _ (List.Mem.tail _ (List.Mem.tail _ (List.Mem.tail _ (List.Mem.tail _ (List.Mem.head _))))))) rfl ?_
                      refine ab_iload_n' hG 261 _ _ _ _ 1 _ dX6_meet_261 rfl ?_
                      refine ab_iaload' hG 262 _ _ _ _ 33 0 24 _ dX6_meet_262 rfl h.1 ?_
                      have h := h.2
                      refine ab_bipush' hG 263 _ _ _ _ (-9) (-9) dX6_meet_263 (by decide) ?_
                      refine ab_icmp_ne' hG 265 _ _ _ _ (7) 272 _ _ dX6_meet_265 (by decide) (fun hc => ?_) (fun hc => ?_)
                      · have h := h.2 hc
                        refine ab_iconst' hG 272 _ _ _ _ 0 0 dX6_meet_272 (by decide) ?_
                        refine ab_iastore' hG 273 _ _ _ _ 31 0 24 _ _ dX6_meet_273 rfl h.1 ?_
                        have h := h.2
                        exact ab_return_' hG 274 _ _ _ dX6_meet_274 rfl (by decide) h
                      · have h := h.1 hc
                        refine ab_iconst' hG 268 _ _ _ _ 3 3 dX6_meet_268 (by decide) ?_
                        refine ab_goto' hG 269 _ _ _ _ (4) 273 dX6_meet_269 (by decide) ?_
                        refine ab_iastore' hG 273 _ _ _ _ 31 0 24 _ _ dX6_meet_273 rfl h.1 ?_
                        have h := h.2
                        exact ab_return_' hG 274 _ _ _ dX6_meet_274 rfl (by decide) h
                    · have h := h.1 hc
                      refine ab_iconst' hG 253 _ _ _ _ 2 2 dX6_meet_253 (by decide) ?_
                      refine ab_goto' hG 254 _ _ _ _ (19) 273 dX6_meet_254 (by decide) ?_
                      refine ab_iastore' hG 273 _ _ _ _ 31 0 24 _ _ dX6_meet_273 rfl h.1 ?_
                      have h := h.2
                      exact ab_return_' hG 274 _ _ _ dX6_meet_274 rfl (by decide) h
                · have h := h.2 hc
                  refine ab_aload_n' hG 186 _ _ _ _ 0 _ dX6_meet_186 rfl ?_
                  refine ab_gR hG 187 _ _ _ _ 17 21 3 0 (24, 0) dX6_meet_187 (List.Mem.tail _ (List.Mem.tail _ (List.Mem.tail _ (List.Mem.tail _ (List.Mem.tail _ (List.Mem.tail _ (List.Mem.tail _ (List.Mem.head _)))))))) rfl ?_
                  refine ab_iload' hG 190 _ _ _ _ 4 _ dX6_meet_190 rfl ?_
                  refine ab_iaload' hG 192 _ _ _ _ 24 0 336 _ dX6_meet_192 rfl h.1 ?_
                  have h := h.2
                  refine ab_aload_n' hG 193 _ _ _ _ 0 _ dX6_meet_193 rfl ?_
                  refine ab_gR hG 194 _ _ _ _ 17 21 3 0 (24, 0) dX6_meet_194 (List.Mem.tail _ (List.Mem.tail _ (List.Mem.tail _ (List.Mem.tail _ (List.Mem.tail _ (List.Mem.tail _ (List.Mem.tail _ (List.Mem.head _)))))))) rfl ?_
                  refine ab_iload' hG 197 _ _ _ _ 5 _ dX6_meet_197 rfl ?_
                  refine ab_iaload' hG 199 _ _ _ _ 24 0 336 _ dX6_meet_199 rfl h.1 ?_
                  have h := h.2
                  refine ab_aload_n' hG 200 _ _ _ _ 0 _ dX6_meet_200 rfl ?_
                  refine ab_gR hG 201 _ _ _ _ 7 21 1 0 (22, 0) dX6_meet_201 (List.Mem.tail _ (List.Mem.tail _ (List.Mem.tail _ (List.Mem.head _)))) rfl ?_
                  refine ab_iload' hG 204 _ _ _ _ 6 _ dX6_meet_204 rfl ?_
                  refine ab_baload' hG 206 _ _ _ _ 22 0 336 _ dX6_meet_206 rfl h.1 ?_
                  have h := h.2
                  refine ab_aload_n' hG 207 _ _ _ _ 0 _ dX6_meet_207 rfl ?_
                  refine ab_gR hG 208 _ _ _ _ 17 21 3 0 (24, 0) dX6_meet_208 (List.Mem.tail _ (List.Mem.tail _ (List.Mem.tail _ (List.Mem.tail _ (List.Mem.tail _ (List.Mem.tail _ (List.Mem.tail _ (List.Mem.head _)))))))) rfl ?_
                  refine ab_iload' hG 211 _ _ _ _ 6 _ dX6_meet_211 rfl ?_
                  refine ab_iaload' hG 213 _ _ _ _ 24 0 336 _ dX6_meet_213 rfl h.1 ?_
                  have h := h.2
                  exact ab_invs' hG 214 [some (.inr (21, 0)), some (.inl x1), some (.inl x2), some (.inl x3), some (.inl x4), some (.inl x5), some (.inl x6), some (.inl xs0), some (.inl x4), some (.inl 0)] [(.inl ((ab_su (ab_su (ab_su S 30 0 x1.toNatClampNeg (vp_nar .boolean 0)) 31 0 x1.toNatClampNeg 1) 32 0 x1.toNatClampNeg ((ab_su (ab_su S 30 0 x1.toNatClampNeg (vp_nar .boolean 0)) 31 0 x1.toNatClampNeg 1) 23 0 x4.toNatClampNeg)) 24 0 x4.toNatClampNeg)), (.inl ((ab_su (ab_su (ab_su S 30 0 x1.toNatClampNeg (vp_nar .boolean 0)) 31 0 x1.toNatClampNeg 1) 32 0 x1.toNatClampNeg ((ab_su (ab_su S 30 0 x1.toNatClampNeg (vp_nar .boolean 0)) 31 0 x1.toNatClampNeg 1) 23 0 x4.toNatClampNeg)) 24 0 x5.toNatClampNeg)), (.inl ((ab_su (ab_su (ab_su S 30 0 x1.toNatClampNeg (vp_nar .boolean 0)) 31 0 x1.toNatClampNeg 1) 32 0 x1.toNatClampNeg ((ab_su (ab_su S 30 0 x1.toNatClampNeg (vp_nar .boolean 0)) 31 0 x1.toNatClampNeg 1) 23 0 x4.toNatClampNeg)) 22 0 x6.toNatClampNeg)), (.inl ((ab_su (ab_su (ab_su S 30 0 x1.toNatClampNeg (vp_nar .boolean 0)) 31 0 x1.toNatClampNeg 1) 32 0 x1.toNatClampNeg ((ab_su (ab_su S 30 0 x1.toNatClampNeg (vp_nar .boolean 0)) 31 0 x1.toNatClampNeg 1) 23 0 x4.toNatClampNeg)) 24 0 x6.toNatClampNeg))] [(.inl x1), (.inr (33, 0))] (ab_su (ab_su (ab_su S 30 0 x1.toNatClampNeg (vp_nar .boolean 0)) 31 0 x1.toNatClampNeg 1) 32 0 x1.toNatClampNeg ((ab_su (ab_su S 30 0 x1.toNatClampNeg (vp_nar .boolean 0)) 31 0 x1.toNatClampNeg 1) 23 0 x4.toNatClampNeg)) 0 137 _ 4 1 0 _ dX6_meet_214 rfl rfl (by decide) (by decide) h
              · have h := h.2 hc
                refine ab_aload_n' hG 134 _ _ _ _ 0 _ dX6_meet_134 rfl ?_
                refine ab_gR hG 135 _ _ _ _ 13 21 2 0 (23, 0) dX6_meet_135 (List.Mem.tail _ (List.Mem.tail _ (List.Mem.tail _ (List.Mem.tail _ (List.Mem.tail _ (List.Mem.head _)))))) rfl ?_
                refine ab_iload' hG 138 _ _ _ _ 4 _ dX6_meet_138 rfl ?_
                refine ab_iaload' hG 140 _ _ _ _ 23 0 336 _ dX6_meet_140 rfl h.1 ?_
                have h := h.2
                refine ab_aload_n' hG 141 _ _ _ _ 0 _ dX6_meet_141 rfl ?_
                refine ab_gR hG 142 _ _ _ _ 13 21 2 0 (23, 0) dX6_meet_142 (List.Mem.tail _ (List.Mem.tail _ (List.Mem.tail _ (List.Mem.tail _ (List.Mem.tail _ (List.Mem.head _)))))) rfl ?_
                refine ab_iload' hG 145 _ _ _ _ 5 _ dX6_meet_145 rfl ?_
                refine ab_iaload' hG 147 _ _ _ _ 23 0 336 _ dX6_meet_147 rfl h.1 ?_
                have h := h.2
                refine ab_aload_n' hG 148 _ _ _ _ 0 _ dX6_meet_148 rfl ?_
                refine ab_gR hG 149 _ _ _ _ 7 21 1 0 (22, 0) dX6_meet_149 (List.Mem.tail _ (List.Mem.tail _ (List.Mem.tail _ (List.Mem.head _)))) rfl ?_
                refine ab_iload' hG 152 _ _ _ _ 6 _ dX6_meet_152 rfl ?_
                refine ab_baload' hG 154 _ _ _ _ 22 0 336 _ dX6_meet_154 rfl h.1 ?_
                have h := h.2
                refine ab_aload_n' hG 155 _ _ _ _ 0 _ dX6_meet_155 rfl ?_
                refine ab_gR hG 156 _ _ _ _ 13 21 2 0 (23, 0) dX6_meet_156 (List.Mem.tail _ (List.Mem.tail _ (List.Mem.tail _ (List.Mem.tail _ (List.Mem.tail _ (List.Mem.head _)))))) rfl ?_
                refine ab_iload' hG 159 _ _ _ _ 6 _ dX6_meet_159 rfl ?_
                refine ab_iaload' hG 161 _ _ _ _ 23 0 336 _ dX6_meet_161 rfl h.1 ?_
                have h := h.2
                exact ab_invs' hG 162 [some (.inr (21, 0)), some (.inl x1), some (.inl x2), some (.inl x3), some (.inl x4), some (.inl x5), some (.inl x6), some (.inl xs0), some (.inl x4), some (.inl 0)] [(.inl ((ab_su (ab_su S 30 0 x1.toNatClampNeg (vp_nar .boolean 0)) 31 0 x1.toNatClampNeg 1) 23 0 x4.toNatClampNeg)), (.inl ((ab_su (ab_su S 30 0 x1.toNatClampNeg (vp_nar .boolean 0)) 31 0 x1.toNatClampNeg 1) 23 0 x5.toNatClampNeg)), (.inl ((ab_su (ab_su S 30 0 x1.toNatClampNeg (vp_nar .boolean 0)) 31 0 x1.toNatClampNeg 1) 22 0 x6.toNatClampNeg)), (.inl ((ab_su (ab_su S 30 0 x1.toNatClampNeg (vp_nar .boolean 0)) 31 0 x1.toNatClampNeg 1) 23 0 x6.toNatClampNeg))] [(.inl x1), (.inr (32, 0))] (ab_su (ab_su S 30 0 x1.toNatClampNeg (vp_nar .boolean 0)) 31 0 x1.toNatClampNeg 1) 0 137 _ 4 1 0 _ dX6_meet_162 rfl rfl (by decide) (by decide) h
            · have h := h.2 hc
              refine ab_iconst' hG 117 _ _ _ _ 1 1 dX6_meet_117 (by decide) ?_
              refine ab_goto' hG 118 _ _ _ _ (4) 122 dX6_meet_118 (by decide) ?_
              refine ab_istore' hG 122 _ _ _ _ 9 _ dX6_meet_122 (by decide) ?_
              refine ab_aload_n' hG 124 _ _ _ _ 0 _ dX6_meet_124 rfl ?_
              refine ab_gR hG 125 _ _ _ _ 51 21 16 0 (32, 0) dX6_meet_125 (List.Mem.tail _ (List.Mem.tail _ (List.Mem.tail _ (List.Mem.tail _ (List.Mem.head _))))) rfl ?_
              refine ab_iload_n' hG 128 _ _ _ _ 1 _ dX6_meet_128 rfl ?_
              refine ab_iload' hG 129 _ _ _ _ 9 _ dX6_meet_129 rfl ?_
              refine ab_if_eq' hG 131 _ _ _ _ (37) 168 _ dX6_meet_131 (by decide) (fun hc => ?_) (fun hc => ?_)
              · have h := h.1 hc
                refine ab_aload_n' hG 168 _ _ _ _ 0 _ dX6_meet_168 rfl ?_
                refine ab_gR hG 169 _ _ _ _ 13 21 2 0 (23, 0) dX6_meet_169 (List.Mem.tail _ (List.Mem.tail _ (List.Mem.tail _ (List.Mem.tail _ (List.Mem.tail _ (List.Mem.head _)))))) rfl ?_
                refine ab_iload' hG 172 _ _ _ _ 8 _ dX6_meet_172 rfl ?_
                refine ab_iaload' hG 174 _ _ _ _ 23 0 336 _ dX6_meet_174 rfl h.1 ?_
                have h := h.2
                refine ab_iastore' hG 175 _ _ _ _ 32 0 24 _ _ dX6_meet_175 rfl h.1 ?_
                have h := h.2
                refine ab_aload_n' hG 176 _ _ _ _ 0 _ dX6_meet_176 rfl ?_
                refine ab_gR hG 177 _ _ _ _ 54 21 17 0 (33, 0) dX6_meet_177 (List.Mem.tail _ (List.Mem.tail _ (List.Mem.tail _ (List.Mem.tail _ (List.Mem.tail _ (List.Mem.tail _ (List.Mem.head _))))))) rfl ?_
                refine ab_iload_n' hG 180 _ _ _ _ 1 _ dX6_meet_180 rfl ?_
                refine ab_iload' hG 181 _ _ _ _ 9 _ dX6_meet_181 rfl ?_
                refine ab_if_eq' hG 183 _ _ _ _ (37) 220 _ dX6_meet_183 (by decide) (fun hc => ?_) (fun hc => ?_)
                · have h := h.1 hc
                  refine ab_aload_n' hG 220 _ _ _ _ 0 _ dX6_meet_220 rfl ?_
                  refine ab_gR hG 221 _ _ _ _ 17 21 3 0 (24, 0) dX6_meet_221 (List.Mem.tail _ (List.Mem.tail _ (List.Mem.tail _ (List.Mem.tail _ (List.Mem.tail _ (List.Mem.tail _ (List.Mem.tail _ (List.Mem.head _)))))))) rfl ?_
                  refine ab_iload' hG 224 _ _ _ _ 8 _ dX6_meet_224 rfl ?_
                  refine ab_iaload' hG 226 _ _ _ _ 24 0 336 _ dX6_meet_226 rfl h.1 ?_
                  have h := h.2
                  refine ab_iastore' hG 227 _ _ _ _ 33 0 24 _ _ dX6_meet_227 rfl h.1 ?_
                  have h := h.2
                  refine ab_aload_n' hG 228 _ _ _ _ 0 _ dX6_meet_228 rfl ?_
                  refine ab_gR hG 229 _ _ _ _ 48 21 15 0 (31, 0) dX6_meet_229 (List.Mem.tail _ (List.Mem.tail _ (List.Mem.head _))) rfl ?_
                  refine ab_iload_n' hG 232 _ _ _ _ 1 _ dX6_meet_232 rfl ?_
                  refine ab_iaload' hG 233 _ _ _ _ 31 0 24 _ dX6_meet_233 rfl h.1 ?_
                  have h := h.2
                  refine ab_if_ne' hG 234 _ _ _ _ (40) 274 _ dX6_meet_234 (by decide) (fun hc => ?_) (fun hc => ?_)
                  · have h := h.2 hc
                    exact ab_return_' hG 274 _ _ _ dX6_meet_274 rfl (by decide) h
                  · have h := h.1 hc
                    refine ab_aload_n' hG 237 _ _ _ _ 0 _ dX6_meet_237 rfl ?_
                    refine ab_gR hG 238 _ _ _ _ 48 21 15 0 (31, 0) dX6_meet_238 (List.Mem.tail _ (List.Mem.tail _ (List.Mem.head _))) rfl ?_
                    refine ab_iload_n' hG 241 _ _ _ _ 1 _ dX6_meet_241 rfl ?_
                    refine ab_aload_n' hG 242 _ _ _ _ 0 _ dX6_meet_242 rfl ?_
                    refine ab_gR hG 243 _ _ _ _ 51 21 16 0 (32, 0) dX6_meet_243 (List.Mem.tail _ (List.Mem.tail _ (List.Mem.tail _ (List.Mem.tail _ (List.Mem.head _))))) rfl ?_
                    refine ab_iload_n' hG 246 _ _ _ _ 1 _ dX6_meet_246 rfl ?_
                    refine ab_iaload' hG 247 _ _ _ _ 32 0 24 _ dX6_meet_247 rfl h.1 ?_
                    have h := h.2
                    refine ab_bipush' hG 248 _ _ _ _ (-9) (-9) dX6_meet_248 (by decide) ?_
                    refine ab_icmp_ne' hG 250 _ _ _ _ (7) 257 _ _ dX6_meet_250 (by decide) (fun hc => ?_) (fun hc => ?_)
                    · have h := h.2 hc
                      refine ab_aload_n' hG 257 _ _ _ _ 0 _ dX6_meet_257 rfl ?_
                      refine ab_gR hG 258 _ _ _ _ 54 21 17 0 (33, 0) dX6_meet_258 (List.Mem.tail _ (List.Mem.tail _ (List.Mem.tail _ (List.Mem.tail _ (List.Mem.tail _ (List.Mem.tail _ (List.Mem.head _))))))) rfl ?_
                      refine ab_iload_n' hG 261 _ _ _ _ 1 _ dX6_meet_261 rfl ?_
                      refine ab_iaload' hG 262 _ _ _ _ 33 0 24 _ dX6_meet_262 rfl h.1 ?_
                      have h := h.2
                      refine ab_bipush' hG 263 _ _ _ _ (-9) (-9) dX6_meet_263 (by decide) ?_
                      refine ab_icmp_ne' hG 265 _ _ _ _ (7) 272 _ _ dX6_meet_265 (by decide) (fun hc => ?_) (fun hc => ?_)
                      · have h := h.2 hc
                        refine ab_iconst' hG 272 _ _ _ _ 0 0 dX6_meet_272 (by decide) ?_
                        refine ab_iastore' hG 273 _ _ _ _ 31 0 24 _ _ dX6_meet_273 rfl h.1 ?_
                        have h := h.2
                        exact ab_return_' hG 274 _ _ _ dX6_meet_274 rfl (by decide) h
                      · have h := h.1 hc
                        refine ab_iconst' hG 268 _ _ _ _ 3 3 dX6_meet_268 (by decide) ?_
                        refine ab_goto' hG 269 _ _ _ _ (4) 273 dX6_meet_269 (by decide) ?_
                        refine ab_iastore' hG 273 _ _ _ _ 31 0 24 _ _ dX6_meet_273 rfl h.1 ?_
                        have h := h.2
                        exact ab_return_' hG 274 _ _ _ dX6_meet_274 rfl (by decide) h
                    · have h := h.1 hc
                      refine ab_iconst' hG 253 _ _ _ _ 2 2 dX6_meet_253 (by decide) ?_
                      refine ab_goto' hG 254 _ _ _ _ (19) 273 dX6_meet_254 (by decide) ?_
                      refine ab_iastore' hG 273 _ _ _ _ 31 0 24 _ _ dX6_meet_273 rfl h.1 ?_
                      have h := h.2
                      exact ab_return_' hG 274 _ _ _ dX6_meet_274 rfl (by decide) h
                · have h := h.2 hc
                  refine ab_aload_n' hG 186 _ _ _ _ 0 _ dX6_meet_186 rfl ?_
                  refine ab_gR hG 187 _ _ _ _ 17 21 3 0 (24, 0) dX6_meet_187 (List.Mem.tail _ (List.Mem.tail _ (List.Mem.tail _ (List.Mem.tail _ (List.Mem.tail _ (List.Mem.tail _ (List.Mem.tail _ (List.Mem.head _)))))))) rfl ?_
                  refine ab_iload' hG 190 _ _ _ _ 4 _ dX6_meet_190 rfl ?_
                  refine ab_iaload' hG 192 _ _ _ _ 24 0 336 _ dX6_meet_192 rfl h.1 ?_
                  have h := h.2
                  refine ab_aload_n' hG 193 _ _ _ _ 0 _ dX6_meet_193 rfl ?_
                  refine ab_gR hG 194 _ _ _ _ 17 21 3 0 (24, 0) dX6_meet_194 (List.Mem.tail _ (List.Mem.tail _ (List.Mem.tail _ (List.Mem.tail _ (List.Mem.tail _ (List.Mem.tail _ (List.Mem.tail _ (List.Mem.head _)))))))) rfl ?_
                  refine ab_iload' hG 197 _ _ _ _ 5 _ dX6_meet_197 rfl ?_
                  refine ab_iaload' hG 199 _ _ _ _ 24 0 336 _ dX6_meet_199 rfl h.1 ?_
                  have h := h.2
                  refine ab_aload_n' hG 200 _ _ _ _ 0 _ dX6_meet_200 rfl ?_
                  refine ab_gR hG 201 _ _ _ _ 7 21 1 0 (22, 0) dX6_meet_201 (List.Mem.tail _ (List.Mem.tail _ (List.Mem.tail _ (List.Mem.head _)))) rfl ?_
                  refine ab_iload' hG 204 _ _ _ _ 6 _ dX6_meet_204 rfl ?_
                  refine ab_baload' hG 206 _ _ _ _ 22 0 336 _ dX6_meet_206 rfl h.1 ?_
                  have h := h.2
                  refine ab_aload_n' hG 207 _ _ _ _ 0 _ dX6_meet_207 rfl ?_
                  refine ab_gR hG 208 _ _ _ _ 17 21 3 0 (24, 0) dX6_meet_208 (List.Mem.tail _ (List.Mem.tail _ (List.Mem.tail _ (List.Mem.tail _ (List.Mem.tail _ (List.Mem.tail _ (List.Mem.tail _ (List.Mem.head _)))))))) rfl ?_
                  refine ab_iload' hG 211 _ _ _ _ 6 _ dX6_meet_211 rfl ?_
                  refine ab_iaload' hG 213 _ _ _ _ 24 0 336 _ dX6_meet_213 rfl h.1 ?_
                  have h := h.2
                  exact ab_invs' hG 214 [some (.inr (21, 0)), some (.inl x1), some (.inl x2), some (.inl x3), some (.inl x4), some (.inl x5), some (.inl x6), some (.inl xs0), some (.inl x4), some (.inl 1)] [(.inl ((ab_su (ab_su (ab_su S 30 0 x1.toNatClampNeg (vp_nar .boolean 0)) 31 0 x1.toNatClampNeg 1) 32 0 x1.toNatClampNeg ((ab_su (ab_su S 30 0 x1.toNatClampNeg (vp_nar .boolean 0)) 31 0 x1.toNatClampNeg 1) 23 0 x4.toNatClampNeg)) 24 0 x4.toNatClampNeg)), (.inl ((ab_su (ab_su (ab_su S 30 0 x1.toNatClampNeg (vp_nar .boolean 0)) 31 0 x1.toNatClampNeg 1) 32 0 x1.toNatClampNeg ((ab_su (ab_su S 30 0 x1.toNatClampNeg (vp_nar .boolean 0)) 31 0 x1.toNatClampNeg 1) 23 0 x4.toNatClampNeg)) 24 0 x5.toNatClampNeg)), (.inl ((ab_su (ab_su (ab_su S 30 0 x1.toNatClampNeg (vp_nar .boolean 0)) 31 0 x1.toNatClampNeg 1) 32 0 x1.toNatClampNeg ((ab_su (ab_su S 30 0 x1.toNatClampNeg (vp_nar .boolean 0)) 31 0 x1.toNatClampNeg 1) 23 0 x4.toNatClampNeg)) 22 0 x6.toNatClampNeg)), (.inl ((ab_su (ab_su (ab_su S 30 0 x1.toNatClampNeg (vp_nar .boolean 0)) 31 0 x1.toNatClampNeg 1) 32 0 x1.toNatClampNeg ((ab_su (ab_su S 30 0 x1.toNatClampNeg (vp_nar .boolean 0)) 31 0 x1.toNatClampNeg 1) 23 0 x4.toNatClampNeg)) 24 0 x6.toNatClampNeg))] [(.inl x1), (.inr (33, 0))] (ab_su (ab_su (ab_su S 30 0 x1.toNatClampNeg (vp_nar .boolean 0)) 31 0 x1.toNatClampNeg 1) 32 0 x1.toNatClampNeg ((ab_su (ab_su S 30 0 x1.toNatClampNeg (vp_nar .boolean 0)) 31 0 x1.toNatClampNeg 1) 23 0 x4.toNatClampNeg)) 0 137 _ 4 1 0 _ dX6_meet_214 rfl rfl (by decide) (by decide) h
              · have h := h.2 hc
                refine ab_aload_n' hG 134 _ _ _ _ 0 _ dX6_meet_134 rfl ?_
                refine ab_gR hG 135 _ _ _ _ 13 21 2 0 (23, 0) dX6_meet_135 (List.Mem.tail _ (List.Mem.tail _ (List.Mem.tail _ (List.Mem.tail _ (List.Mem.tail _ (List.Mem.head _)))))) rfl ?_
                refine ab_iload' hG 138 _ _ _ _ 4 _ dX6_meet_138 rfl ?_
                refine ab_iaload' hG 140 _ _ _ _ 23 0 336 _ dX6_meet_140 rfl h.1 ?_
                have h := h.2
                refine ab_aload_n' hG 141 _ _ _ _ 0 _ dX6_meet_141 rfl ?_
                refine ab_gR hG 142 _ _ _ _ 13 21 2 0 (23, 0) dX6_meet_142 (List.Mem.tail _ (List.Mem.tail _ (List.Mem.tail _ (List.Mem.tail _ (List.Mem.tail _ (List.Mem.head _)))))) rfl ?_
                refine ab_iload' hG 145 _ _ _ _ 5 _ dX6_meet_145 rfl ?_
                refine ab_iaload' hG 147 _ _ _ _ 23 0 336 _ dX6_meet_147 rfl h.1 ?_
                have h := h.2
                refine ab_aload_n' hG 148 _ _ _ _ 0 _ dX6_meet_148 rfl ?_
                refine ab_gR hG 149 _ _ _ _ 7 21 1 0 (22, 0) dX6_meet_149 (List.Mem.tail _ (List.Mem.tail _ (List.Mem.tail _ (List.Mem.head _)))) rfl ?_
                refine ab_iload' hG 152 _ _ _ _ 6 _ dX6_meet_152 rfl ?_
                refine ab_baload' hG 154 _ _ _ _ 22 0 336 _ dX6_meet_154 rfl h.1 ?_
                have h := h.2
                refine ab_aload_n' hG 155 _ _ _ _ 0 _ dX6_meet_155 rfl ?_
                refine ab_gR hG 156 _ _ _ _ 13 21 2 0 (23, 0) dX6_meet_156 (List.Mem.tail _ (List.Mem.tail _ (List.Mem.tail _ (List.Mem.tail _ (List.Mem.tail _ (List.Mem.head _)))))) rfl ?_
                refine ab_iload' hG 159 _ _ _ _ 6 _ dX6_meet_159 rfl ?_
                refine ab_iaload' hG 161 _ _ _ _ 23 0 336 _ dX6_meet_161 rfl h.1 ?_
                have h := h.2
                exact ab_invs' hG 162 [some (.inr (21, 0)), some (.inl x1), some (.inl x2), some (.inl x3), some (.inl x4), some (.inl x5), some (.inl x6), some (.inl xs0), some (.inl x4), some (.inl 1)] [(.inl ((ab_su (ab_su S 30 0 x1.toNatClampNeg (vp_nar .boolean 0)) 31 0 x1.toNatClampNeg 1) 23 0 x4.toNatClampNeg)), (.inl ((ab_su (ab_su S 30 0 x1.toNatClampNeg (vp_nar .boolean 0)) 31 0 x1.toNatClampNeg 1) 23 0 x5.toNatClampNeg)), (.inl ((ab_su (ab_su S 30 0 x1.toNatClampNeg (vp_nar .boolean 0)) 31 0 x1.toNatClampNeg 1) 22 0 x6.toNatClampNeg)), (.inl ((ab_su (ab_su S 30 0 x1.toNatClampNeg (vp_nar .boolean 0)) 31 0 x1.toNatClampNeg 1) 23 0 x6.toNatClampNeg))] [(.inl x1), (.inr (32, 0))] (ab_su (ab_su S 30 0 x1.toNatClampNeg (vp_nar .boolean 0)) 31 0 x1.toNatClampNeg 1) 0 137 _ 4 1 0 _ dX6_meet_162 rfl rfl (by decide) (by decide) h
      · have h := h.1 hc
        exact ab_return_' hG 77 _ _ _ dX6_meet_77 rfl (by decide) h
  · have h := h.2 hc
    refine ab_iconst' hG 49 _ _ _ _ 1 1 dX6_meet_49 (by decide) ?_
    refine ab_goto' hG 50 _ _ _ _ (4) 54 dX6_meet_50 (by decide) ?_
    refine ab_bastore' hG 54 _ _ _ _ 30 0 24 _ _ dX6_meet_54 rfl h.1 ?_
    have h := h.2
    refine ab_aload_n' hG 55 _ _ _ _ 0 _ dX6_meet_55 rfl ?_
    refine ab_gR hG 56 _ _ _ _ 48 21 15 0 (31, 0) dX6_meet_56 (List.Mem.tail _ (List.Mem.tail _ (List.Mem.head _))) rfl ?_
    refine ab_iload_n' hG 59 _ _ _ _ 1 _ dX6_meet_59 rfl ?_
    refine ab_iload' hG 60 _ _ _ _ 7 _ dX6_meet_60 rfl ?_
    refine ab_iconst' hG 62 _ _ _ _ 2 2 dX6_meet_62 (by decide) ?_
    refine ab_icmp_ne' hG 63 _ _ _ _ (7) 70 _ _ dX6_meet_63 (by decide) (fun hc => ?_) (fun hc => ?_)
    · have h := h.2 hc
      refine ab_iconst' hG 70 _ _ _ _ 0 0 dX6_meet_70 (by decide) ?_
      refine ab_iastore' hG 71 _ _ _ _ 31 0 24 _ _ dX6_meet_71 rfl h.1 ?_
      have h := h.2
      refine ab_iload' hG 72 _ _ _ _ 7 _ dX6_meet_72 rfl ?_
      refine ab_if_ne' hG 74 _ _ _ _ (4) 78 _ dX6_meet_74 (by decide) (fun hc => ?_) (fun hc => ?_)
      · have h := h.2 hc
        refine ab_aload_n' hG 78 _ _ _ _ 0 _ dX6_meet_78 rfl ?_
        refine ab_gR hG 79 _ _ _ _ 7 21 1 0 (22, 0) dX6_meet_79 (List.Mem.tail _ (List.Mem.tail _ (List.Mem.tail _ (List.Mem.head _)))) rfl ?_
        refine ab_iload' hG 82 _ _ _ _ 4 _ dX6_meet_82 rfl ?_
        refine ab_baload' hG 84 _ _ _ _ 22 0 336 _ dX6_meet_84 rfl h.1 ?_
        have h := h.2
        refine ab_if_eq' hG 85 _ _ _ _ (8) 93 _ dX6_meet_85 (by decide) (fun hc => ?_) (fun hc => ?_)
        · have h := h.1 hc
          refine ab_iload' hG 93 _ _ _ _ 5 _ dX6_meet_93 rfl ?_
          refine ab_istore' hG 95 _ _ _ _ 8 _ dX6_meet_95 (by decide) ?_
          refine ab_aload_n' hG 97 _ _ _ _ 0 _ dX6_meet_97 rfl ?_
          refine ab_gR hG 98 _ _ _ _ 7 21 1 0 (22, 0) dX6_meet_98 (List.Mem.tail _ (List.Mem.tail _ (List.Mem.tail _ (List.Mem.head _)))) rfl ?_
          refine ab_iload' hG 101 _ _ _ _ 4 _ dX6_meet_101 rfl ?_
          refine ab_baload' hG 103 _ _ _ _ 22 0 336 _ dX6_meet_103 rfl h.1 ?_
          have h := h.2
          refine ab_if_eq' hG 104 _ _ _ _ (17) 121 _ dX6_meet_104 (by decide) (fun hc => ?_) (fun hc => ?_)
          · have h := h.1 hc
            refine ab_iconst' hG 121 _ _ _ _ 0 0 dX6_meet_121 (by decide) ?_
            refine ab_istore' hG 122 _ _ _ _ 9 _ dX6_meet_122 (by decide) ?_
            refine ab_aload_n' hG 124 _ _ _ _ 0 _ dX6_meet_124 rfl ?_
            refine ab_gR hG 125 _ _ _ _ 51 21 16 0 (32, 0) dX6_meet_125 (List.Mem.tail _ (List.Mem.tail _ (List.Mem.tail _ (List.Mem.tail _ (List.Mem.head _))))) rfl ?_
            refine ab_iload_n' hG 128 _ _ _ _ 1 _ dX6_meet_128 rfl ?_
            refine ab_iload' hG 129 _ _ _ _ 9 _ dX6_meet_129 rfl ?_
            refine ab_if_eq' hG 131 _ _ _ _ (37) 168 _ dX6_meet_131 (by decide) (fun hc => ?_) (fun hc => ?_)
            · have h := h.1 hc
              refine ab_aload_n' hG 168 _ _ _ _ 0 _ dX6_meet_168 rfl ?_
              refine ab_gR hG 169 _ _ _ _ 13 21 2 0 (23, 0) dX6_meet_169 (List.Mem.tail _ (List.Mem.tail _ (List.Mem.tail _ (List.Mem.tail _ (List.Mem.tail _ (List.Mem.head _)))))) rfl ?_
              refine ab_iload' hG 172 _ _ _ _ 8 _ dX6_meet_172 rfl ?_
              refine ab_iaload' hG 174 _ _ _ _ 23 0 336 _ dX6_meet_174 rfl h.1 ?_
              have h := h.2
              refine ab_iastore' hG 175 _ _ _ _ 32 0 24 _ _ dX6_meet_175 rfl h.1 ?_
              have h := h.2
              refine ab_aload_n' hG 176 _ _ _ _ 0 _ dX6_meet_176 rfl ?_
              refine ab_gR hG 177 _ _ _ _ 54 21 17 0 (33, 0) dX6_meet_177 (List.Mem.tail _ (List.Mem.tail _ (List.Mem.tail _ (List.Mem.tail _ (List.Mem.tail _ (List.Mem.tail _ (List.Mem.head _))))))) rfl ?_
              refine ab_iload_n' hG 180 _ _ _ _ 1 _ dX6_meet_180 rfl ?_
              refine ab_iload' hG 181 _ _ _ _ 9 _ dX6_meet_181 rfl ?_
              refine ab_if_eq' hG 183 _ _ _ _ (37) 220 _ dX6_meet_183 (by decide) (fun hc => ?_) (fun hc => ?_)
              · have h := h.1 hc
                refine ab_aload_n' hG 220 _ _ _ _ 0 _ dX6_meet_220 rfl ?_
                refine ab_gR hG 221 _ _ _ _ 17 21 3 0 (24, 0) dX6_meet_221 (List.Mem.tail _ (List.Mem.tail _ (List.Mem.tail _ (List.Mem.tail _ (List.Mem.tail _ (List.Mem.tail _ (List.Mem.tail _ (List.Mem.head _)))))))) rfl ?_
                refine ab_iload' hG 224 _ _ _ _ 8 _ dX6_meet_224 rfl ?_
                refine ab_iaload' hG 226 _ _ _ _ 24 0 336 _ dX6_meet_226 rfl h.1 ?_
                have h := h.2
                refine ab_iastore' hG 227 _ _ _ _ 33 0 24 _ _ dX6_meet_227 rfl h.1 ?_
                have h := h.2
                refine ab_aload_n' hG 228 _ _ _ _ 0 _ dX6_meet_228 rfl ?_
                refine ab_gR hG 229 _ _ _ _ 48 21 15 0 (31, 0) dX6_meet_229 (List.Mem.tail _ (List.Mem.tail _ (List.Mem.head _))) rfl ?_
                refine ab_iload_n' hG 232 _ _ _ _ 1 _ dX6_meet_232 rfl ?_
                refine ab_iaload' hG 233 _ _ _ _ 31 0 24 _ dX6_meet_233 rfl h.1 ?_
                have h := h.2
                refine ab_if_ne' hG 234 _ _ _ _ (40) 274 _ dX6_meet_234 (by decide) (fun hc => ?_) (fun hc => ?_)
                · have h := h.2 hc
                  exact ab_return_' hG 274 _ _ _ dX6_meet_274 rfl (by decide) h
                · have h := h.1 hc
                  refine ab_aload_n' hG 237 _ _ _ _ 0 _ dX6_meet_237 rfl ?_
                  refine ab_gR hG 238 _ _ _ _ 48 21 15 0 (31, 0) dX6_meet_238 (List.Mem.tail _ (List.Mem.tail _ (List.Mem.head _))) rfl ?_
                  refine ab_iload_n' hG 241 _ _ _ _ 1 _ dX6_meet_241 rfl ?_
                  refine ab_aload_n' hG 242 _ _ _ _ 0 _ dX6_meet_242 rfl ?_
                  refine ab_gR hG 243 _ _ _ _ 51 21 16 0 (32, 0) dX6_meet_243 (List.Mem.tail _ (List.Mem.tail _ (List.Mem.tail _ (List.Mem.tail _ (List.Mem.head _))))) rfl ?_
                  refine ab_iload_n' hG 246 _ _ _ _ 1 _ dX6_meet_246 rfl ?_
                  refine ab_iaload' hG 247 _ _ _ _ 32 0 24 _ dX6_meet_247 rfl h.1 ?_
                  have h := h.2
                  refine ab_bipush' hG 248 _ _ _ _ (-9) (-9) dX6_meet_248 (by decide) ?_
                  refine ab_icmp_ne' hG 250 _ _ _ _ (7) 257 _ _ dX6_meet_250 (by decide) (fun hc => ?_) (fun hc => ?_)
                  · have h := h.2 hc
                    refine ab_aload_n' hG 257 _ _ _ _ 0 _ dX6_meet_257 rfl ?_
                    refine ab_gR hG 258 _ _ _ _ 54 21 17 0 (33, 0) dX6_meet_258 (List.Mem.tail _ (List.Mem.tail _ (List.Mem.tail _ (List.Mem.tail _ (List.Mem.tail _ (List.Mem.tail _ (List.Mem.head _))))))) rfl ?_
                    refine ab_iload_n' hG 261 _ _ _ _ 1 _ dX6_meet_261 rfl ?_
                    refine ab_iaload' hG 262 _ _ _ _ 33 0 24 _ dX6_meet_262 rfl h.1 ?_
                    have h := h.2
                    refine ab_bipush' hG 263 _ _ _ _ (-9) (-9) dX6_meet_263 (by decide) ?_
                    refine ab_icmp_ne' hG 265 _ _ _ _ (7) 272 _ _ dX6_meet_265 (by decide) (fun hc => ?_) (fun hc => ?_)
                    · have h := h.2 hc
                      refine ab_iconst' hG 272 _ _ _ _ 0 0 dX6_meet_272 (by decide) ?_
                      refine ab_iastore' hG 273 _ _ _ _ 31 0 24 _ _ dX6_meet_273 rfl h.1 ?_
                      have h := h.2
                      exact ab_return_' hG 274 _ _ _ dX6_meet_274 rfl (by decide) h
                    · have h := h.1 hc
                      refine ab_iconst' hG 268 _ _ _ _ 3 3 dX6_meet_268 (by decide) ?_
                      refine ab_goto' hG 269 _ _ _ _ (4) 273 dX6_meet_269 (by decide) ?_
                      refine ab_iastore' hG 273 _ _ _ _ 31 0 24 _ _ dX6_meet_273 rfl h.1 ?_
                      have h := h.2
                      exact ab_return_' hG 274 _ _ _ dX6_meet_274 rfl (by decide) h
                  · have h := h.1 hc
                    refine ab_iconst' hG 253 _ _ _ _ 2 2 dX6_meet_253 (by decide) ?_
                    refine ab_goto' hG 254 _ _ _ _ (19) 273 dX6_meet_254 (by decide) ?_
                    refine ab_iastore' hG 273 _ _ _ _ 31 0 24 _ _ dX6_meet_273 rfl h.1 ?_
                    have h := h.2
                    exact ab_return_' hG 274 _ _ _ dX6_meet_274 rfl (by decide) h
              · have h := h.2 hc
                refine ab_aload_n' hG 186 _ _ _ _ 0 _ dX6_meet_186 rfl ?_
                refine ab_gR hG 187 _ _ _ _ 17 21 3 0 (24, 0) dX6_meet_187 (List.Mem.tail _ (List.Mem.tail _ (List.Mem.tail _ (List.Mem.tail _ (List.Mem.tail _ (List.Mem.tail _ (List.Mem.tail _ (List.Mem.head _)))))))) rfl ?_
                refine ab_iload' hG 190 _ _ _ _ 4 _ dX6_meet_190 rfl ?_
                refine ab_iaload' hG 192 _ _ _ _ 24 0 336 _ dX6_meet_192 rfl h.1 ?_
                have h := h.2
                refine ab_aload_n' hG 193 _ _ _ _ 0 _ dX6_meet_193 rfl ?_
                refine ab_gR hG 194 _ _ _ _ 17 21 3 0 (24, 0) dX6_meet_194 (List.Mem.tail _ (List.Mem.tail _ (List.Mem.tail _ (List.Mem.tail _ (List.Mem.tail _ (List.Mem.tail _ (List.Mem.tail _ (List.Mem.head _)))))))) rfl ?_
                refine ab_iload' hG 197 _ _ _ _ 5 _ dX6_meet_197 rfl ?_
                refine ab_iaload' hG 199 _ _ _ _ 24 0 336 _ dX6_meet_199 rfl h.1 ?_
                have h := h.2
                refine ab_aload_n' hG 200 _ _ _ _ 0 _ dX6_meet_200 rfl ?_
                refine ab_gR hG 201 _ _ _ _ 7 21 1 0 (22, 0) dX6_meet_201 (List.Mem.tail _ (List.Mem.tail _ (List.Mem.tail _ (List.Mem.head _)))) rfl ?_
                refine ab_iload' hG 204 _ _ _ _ 6 _ dX6_meet_204 rfl ?_
                refine ab_baload' hG 206 _ _ _ _ 22 0 336 _ dX6_meet_206 rfl h.1 ?_
                have h := h.2
                refine ab_aload_n' hG 207 _ _ _ _ 0 _ dX6_meet_207 rfl ?_
                refine ab_gR hG 208 _ _ _ _ 17 21 3 0 (24, 0) dX6_meet_208 (List.Mem.tail _ (List.Mem.tail _ (List.Mem.tail _ (List.Mem.tail _ (List.Mem.tail _ (List.Mem.tail _ (List.Mem.tail _ (List.Mem.head _)))))))) rfl ?_
                refine ab_iload' hG 211 _ _ _ _ 6 _ dX6_meet_211 rfl ?_
                refine ab_iaload' hG 213 _ _ _ _ 24 0 336 _ dX6_meet_213 rfl h.1 ?_
                have h := h.2
                exact ab_invs' hG 214 [some (.inr (21, 0)), some (.inl x1), some (.inl x2), some (.inl x3), some (.inl x4), some (.inl x5), some (.inl x6), some (.inl xs0), some (.inl x5), some (.inl 0)] [(.inl ((ab_su (ab_su (ab_su S 30 0 x1.toNatClampNeg (vp_nar .boolean 1)) 31 0 x1.toNatClampNeg 0) 32 0 x1.toNatClampNeg ((ab_su (ab_su S 30 0 x1.toNatClampNeg (vp_nar .boolean 1)) 31 0 x1.toNatClampNeg 0) 23 0 x5.toNatClampNeg)) 24 0 x4.toNatClampNeg)), (.inl ((ab_su (ab_su (ab_su S 30 0 x1.toNatClampNeg (vp_nar .boolean 1)) 31 0 x1.toNatClampNeg 0) 32 0 x1.toNatClampNeg ((ab_su (ab_su S 30 0 x1.toNatClampNeg (vp_nar .boolean 1)) 31 0 x1.toNatClampNeg 0) 23 0 x5.toNatClampNeg)) 24 0 x5.toNatClampNeg)), (.inl ((ab_su (ab_su (ab_su S 30 0 x1.toNatClampNeg (vp_nar .boolean 1)) 31 0 x1.toNatClampNeg 0) 32 0 x1.toNatClampNeg ((ab_su (ab_su S 30 0 x1.toNatClampNeg (vp_nar .boolean 1)) 31 0 x1.toNatClampNeg 0) 23 0 x5.toNatClampNeg)) 22 0 x6.toNatClampNeg)), (.inl ((ab_su (ab_su (ab_su S 30 0 x1.toNatClampNeg (vp_nar .boolean 1)) 31 0 x1.toNatClampNeg 0) 32 0 x1.toNatClampNeg ((ab_su (ab_su S 30 0 x1.toNatClampNeg (vp_nar .boolean 1)) 31 0 x1.toNatClampNeg 0) 23 0 x5.toNatClampNeg)) 24 0 x6.toNatClampNeg))] [(.inl x1), (.inr (33, 0))] (ab_su (ab_su (ab_su S 30 0 x1.toNatClampNeg (vp_nar .boolean 1)) 31 0 x1.toNatClampNeg 0) 32 0 x1.toNatClampNeg ((ab_su (ab_su S 30 0 x1.toNatClampNeg (vp_nar .boolean 1)) 31 0 x1.toNatClampNeg 0) 23 0 x5.toNatClampNeg)) 0 137 _ 4 1 0 _ dX6_meet_214 rfl rfl (by decide) (by decide) h
            · have h := h.2 hc
              refine ab_aload_n' hG 134 _ _ _ _ 0 _ dX6_meet_134 rfl ?_
              refine ab_gR hG 135 _ _ _ _ 13 21 2 0 (23, 0) dX6_meet_135 (List.Mem.tail _ (List.Mem.tail _ (List.Mem.tail _ (List.Mem.tail _ (List.Mem.tail _ (List.Mem.head _)))))) rfl ?_
              refine ab_iload' hG 138 _ _ _ _ 4 _ dX6_meet_138 rfl ?_
              refine ab_iaload' hG 140 _ _ _ _ 23 0 336 _ dX6_meet_140 rfl h.1 ?_
              have h := h.2
              refine ab_aload_n' hG 141 _ _ _ _ 0 _ dX6_meet_141 rfl ?_
              refine ab_gR hG 142 _ _ _ _ 13 21 2 0 (23, 0) dX6_meet_142 (List.Mem.tail _ (List.Mem.tail _ (List.Mem.tail _ (List.Mem.tail _ (List.Mem.tail _ (List.Mem.head _)))))) rfl ?_
              refine ab_iload' hG 145 _ _ _ _ 5 _ dX6_meet_145 rfl ?_
              refine ab_iaload' hG 147 _ _ _ _ 23 0 336 _ dX6_meet_147 rfl h.1 ?_
              have h := h.2
              refine ab_aload_n' hG 148 _ _ _ _ 0 _ dX6_meet_148 rfl ?_
              refine ab_gR hG 149 _ _ _ _ 7 21 1 0 (22, 0) dX6_meet_149 (List.Mem.tail _ (List.Mem.tail _ (List.Mem.tail _ (List.Mem.head _)))) rfl ?_
              refine ab_iload' hG 152 _ _ _ _ 6 _ dX6_meet_152 rfl ?_
              refine ab_baload' hG 154 _ _ _ _ 22 0 336 _ dX6_meet_154 rfl h.1 ?_
              have h := h.2
              refine ab_aload_n' hG 155 _ _ _ _ 0 _ dX6_meet_155 rfl ?_
              refine ab_gR hG 156 _ _ _ _ 13 21 2 0 (23, 0) dX6_meet_156 (List.Mem.tail _ (List.Mem.tail _ (List.Mem.tail _ (List.Mem.tail _ (List.Mem.tail _ (List.Mem.head _)))))) rfl ?_
              refine ab_iload' hG 159 _ _ _ _ 6 _ dX6_meet_159 rfl ?_
              refine ab_iaload' hG 161 _ _ _ _ 23 0 336 _ dX6_meet_161 rfl h.1 ?_
              have h := h.2
              exact ab_invs' hG 162 [some (.inr (21, 0)), some (.inl x1), some (.inl x2), some (.inl x3), some (.inl x4), some (.inl x5), some (.inl x6), some (.inl xs0), some (.inl x5), some (.inl 0)] [(.inl ((ab_su (ab_su S 30 0 x1.toNatClampNeg (vp_nar .boolean 1)) 31 0 x1.toNatClampNeg 0) 23 0 x4.toNatClampNeg)), (.inl ((ab_su (ab_su S 30 0 x1.toNatClampNeg (vp_nar .boolean 1)) 31 0 x1.toNatClampNeg 0) 23 0 x5.toNatClampNeg)), (.inl ((ab_su (ab_su S 30 0 x1.toNatClampNeg (vp_nar .boolean 1)) 31 0 x1.toNatClampNeg 0) 22 0 x6.toNatClampNeg)), (.inl ((ab_su (ab_su S 30 0 x1.toNatClampNeg (vp_nar .boolean 1)) 31 0 x1.toNatClampNeg 0) 23 0 x6.toNatClampNeg))] [(.inl x1), (.inr (32, 0))] (ab_su (ab_su S 30 0 x1.toNatClampNeg (vp_nar .boolean 1)) 31 0 x1.toNatClampNeg 0) 0 137 _ 4 1 0 _ dX6_meet_162 rfl rfl (by decide) (by decide) h
          · have h := h.2 hc
            refine ab_aload_n' hG 107 _ _ _ _ 0 _ dX6_meet_107 rfl ?_
            refine ab_gR hG 108 _ _ _ _ 7 21 1 0 (22, 0) dX6_meet_108 (List.Mem.tail _ (List.Mem.tail _ (List.Mem.tail _ (List.Mem.head _)))) rfl ?_
            refine ab_iload' hG 111 _ _ _ _ 5 _ dX6_meet_111 rfl ?_
            refine ab_baload' hG 113 _ _ _ _ 22 0 336 _ dX6_meet_113 rfl h.1 ?_
            have h := h.2
            refine ab_if_eq' hG 114 _ _ _ _ (7) 121 _ dX6_meet_114 (by decide) (fun hc => ?_) (fun hc => ?_)
            · have h := h.1 hc
              refine ab_iconst' hG 121 _ _ _ _ 0 0 dX6_meet_121 (by decide) ?_
              refine ab_istore' hG 122 _ _ _ _ 9 _ dX6_meet_122 (by decide) ?_
              refine ab_aload_n' hG 124 _ _ _ _ 0 _ dX6_meet_124 rfl ?_
              refine ab_gR hG 125 _ _ _ _ 51 21 16 0 (32, 0) dX6_meet_125 (List.Mem.tail _ (List.Mem.tail _ (List.Mem.tail _ (List.Mem.tail _ (List.Mem.head _))))) rfl ?_
              refine ab_iload_n' hG 128 _ _ _ _ 1 _ dX6_meet_128 rfl ?_
              refine ab_iload' hG 129 _ _ _ _ 9 _ dX6_meet_129 rfl ?_
              refine ab_if_eq' hG 131 _ _ _ _ (37) 168 _ dX6_meet_131 (by decide) (fun hc => ?_) (fun hc => ?_)
              · have h := h.1 hc
                refine ab_aload_n' hG 168 _ _ _ _ 0 _ dX6_meet_168 rfl ?_
                refine ab_gR hG 169 _ _ _ _ 13 21 2 0 (23, 0) dX6_meet_169 (List.Mem.tail _ (List.Mem.tail _ (List.Mem.tail _ (List.Mem.tail _ (List.Mem.tail _ (List.Mem.head _)))))) rfl ?_
                refine ab_iload' hG 172 _ _ _ _ 8 _ dX6_meet_172 rfl ?_
                refine ab_iaload' hG 174 _ _ _ _ 23 0 336 _ dX6_meet_174 rfl h.1 ?_
                have h := h.2
                refine ab_iastore' hG 175 _ _ _ _ 32 0 24 _ _ dX6_meet_175 rfl h.1 ?_
                have h := h.2
                refine ab_aload_n' hG 176 _ _ _ _ 0 _ dX6_meet_176 rfl ?_
                refine ab_gR hG 177 _ _ _ _ 54 21 17 0 (33, 0) dX6_meet_177 (List.Mem.tail _ (List.Mem.tail _ (List.Mem.tail _ (List.Mem.tail _ (List.Mem.tail _ (List.Mem.tail _ (List.Mem.head _))))))) rfl ?_
                refine ab_iload_n' hG 180 _ _ _ _ 1 _ dX6_meet_180 rfl ?_
                refine ab_iload' hG 181 _ _ _ _ 9 _ dX6_meet_181 rfl ?_
                refine ab_if_eq' hG 183 _ _ _ _ (37) 220 _ dX6_meet_183 (by decide) (fun hc => ?_) (fun hc => ?_)
                · have h := h.1 hc
                  refine ab_aload_n' hG 220 _ _ _ _ 0 _ dX6_meet_220 rfl ?_
                  refine ab_gR hG 221 _ _ _ _ 17 21 3 0 (24, 0) dX6_meet_221 (List.Mem.tail _ (List.Mem.tail _ (List.Mem.tail _ (List.Mem.tail _ (List.Mem.tail _ (List.Mem.tail _ (List.Mem.tail _ (List.Mem.head _)))))))) rfl ?_
                  refine ab_iload' hG 224 _ _ _ _ 8 _ dX6_meet_224 rfl ?_
                  refine ab_iaload' hG 226 _ _ _ _ 24 0 336 _ dX6_meet_226 rfl h.1 ?_
                  have h := h.2
                  refine ab_iastore' hG 227 _ _ _ _ 33 0 24 _ _ dX6_meet_227 rfl h.1 ?_
                  have h := h.2
                  refine ab_aload_n' hG 228 _ _ _ _ 0 _ dX6_meet_228 rfl ?_
                  refine ab_gR hG 229 _ _ _ _ 48 21 15 0 (31, 0) dX6_meet_229 (List.Mem.tail _ (List.Mem.tail _ (List.Mem.head _))) rfl ?_
                  refine ab_iload_n' hG 232 _ _ _ _ 1 _ dX6_meet_232 rfl ?_
                  refine ab_iaload' hG 233 _ _ _ _ 31 0 24 _ dX6_meet_233 rfl h.1 ?_
                  have h := h.2
                  refine ab_if_ne' hG 234 _ _ _ _ (40) 274 _ dX6_meet_234 (by decide) (fun hc => ?_) (fun hc => ?_)
                  · have h := h.2 hc
                    exact ab_return_' hG 274 _ _ _ dX6_meet_274 rfl (by decide) h
                  · have h := h.1 hc
                    refine ab_aload_n' hG 237 _ _ _ _ 0 _ dX6_meet_237 rfl ?_
                    refine ab_gR hG 238 _ _ _ _ 48 21 15 0 (31, 0) dX6_meet_238 (List.Mem.tail _ (List.Mem.tail _ (List.Mem.head _))) rfl ?_
                    refine ab_iload_n' hG 241 _ _ _ _ 1 _ dX6_meet_241 rfl ?_
                    refine ab_aload_n' hG 242 _ _ _ _ 0 _ dX6_meet_242 rfl ?_
                    refine ab_gR hG 243 _ _ _ _ 51 21 16 0 (32, 0) dX6_meet_243 (List.Mem.tail _ (List.Mem.tail _ (List.Mem.tail _ (List.Mem.tail _ (List.Mem.head _))))) rfl ?_
                    refine ab_iload_n' hG 246 _ _ _ _ 1 _ dX6_meet_246 rfl ?_
                    refine ab_iaload' hG 247 _ _ _ _ 32 0 24 _ dX6_meet_247 rfl h.1 ?_
                    have h := h.2
                    refine ab_bipush' hG 248 _ _ _ _ (-9) (-9) dX6_meet_248 (by decide) ?_
                    refine ab_icmp_ne' hG 250 _ _ _ _ (7) 257 _ _ dX6_meet_250 (by decide) (fun hc => ?_) (fun hc => ?_)
                    · have h := h.2 hc
                      refine ab_aload_n' hG 257 _ _ _ _ 0 _ dX6_meet_257 rfl ?_
                      refine ab_gR hG 258 _ _ _ _ 54 21 17 0 (33, 0) dX6_meet_258 (List.Mem.tail _ (List.Mem.tail _ (List.Mem.tail _ (List.Mem.tail _ (List.Mem.tail _ (List.Mem.tail _ (List.Mem.head _))))))) rfl ?_
                      refine ab_iload_n' hG 261 _ _ _ _ 1 _ dX6_meet_261 rfl ?_
                      refine ab_iaload' hG 262 _ _ _ _ 33 0 24 _ dX6_meet_262 rfl h.1 ?_
                      have h := h.2
                      refine ab_bipush' hG 263 _ _ _ _ (-9) (-9) dX6_meet_263 (by decide) ?_
                      refine ab_icmp_ne' hG 265 _ _ _ _ (7) 272 _ _ dX6_meet_265 (by decide) (fun hc => ?_) (fun hc => ?_)
                      · have h := h.2 hc
                        refine ab_iconst' hG 272 _ _ _ _ 0 0 dX6_meet_272 (by decide) ?_
                        refine ab_iastore' hG 273 _ _ _ _ 31 0 24 _ _ dX6_meet_273 rfl h.1 ?_
                        have h := h.2
                        exact ab_return_' hG 274 _ _ _ dX6_meet_274 rfl (by decide) h
                      · have h := h.1 hc
                        refine ab_iconst' hG 268 _ _ _ _ 3 3 dX6_meet_268 (by decide) ?_
                        refine ab_goto' hG 269 _ _ _ _ (4) 273 dX6_meet_269 (by decide) ?_
                        refine ab_iastore' hG 273 _ _ _ _ 31 0 24 _ _ dX6_meet_273 rfl h.1 ?_
                        have h := h.2
                        exact ab_return_' hG 274 _ _ _ dX6_meet_274 rfl (by decide) h
                    · have h := h.1 hc
                      refine ab_iconst' hG 253 _ _ _ _ 2 2 dX6_meet_253 (by decide) ?_
                      refine ab_goto' hG 254 _ _ _ _ (19) 273 dX6_meet_254 (by decide) ?_
                      refine ab_iastore' hG 273 _ _ _ _ 31 0 24 _ _ dX6_meet_273 rfl h.1 ?_
                      have h := h.2
                      exact ab_return_' hG 274 _ _ _ dX6_meet_274 rfl (by decide) h
                · have h := h.2 hc
                  refine ab_aload_n' hG 186 _ _ _ _ 0 _ dX6_meet_186 rfl ?_
                  refine ab_gR hG 187 _ _ _ _ 17 21 3 0 (24, 0) dX6_meet_187 (List.Mem.tail _ (List.Mem.tail _ (List.Mem.tail _ (List.Mem.tail _ (List.Mem.tail _ (List.Mem.tail _ (List.Mem.tail _ (List.Mem.head _)))))))) rfl ?_
                  refine ab_iload' hG 190 _ _ _ _ 4 _ dX6_meet_190 rfl ?_
                  refine ab_iaload' hG 192 _ _ _ _ 24 0 336 _ dX6_meet_192 rfl h.1 ?_
                  have h := h.2
                  refine ab_aload_n' hG 193 _ _ _ _ 0 _ dX6_meet_193 rfl ?_
                  refine ab_gR hG 194 _ _ _ _ 17 21 3 0 (24, 0) dX6_meet_194 (List.Mem.tail _ (List.Mem.tail _ (List.Mem.tail _ (List.Mem.tail _ (List.Mem.tail _ (List.Mem.tail _ (List.Mem.tail _ (List.Mem.head _)))))))) rfl ?_
                  refine ab_iload' hG 197 _ _ _ _ 5 _ dX6_meet_197 rfl ?_
                  refine ab_iaload' hG 199 _ _ _ _ 24 0 336 _ dX6_meet_199 rfl h.1 ?_
                  have h := h.2
                  refine ab_aload_n' hG 200 _ _ _ _ 0 _ dX6_meet_200 rfl ?_
                  refine ab_gR hG 201 _ _ _ _ 7 21 1 0 (22, 0) dX6_meet_201 (List.Mem.tail _ (List.Mem.tail _ (List.Mem.tail _ (List.Mem.head _)))) rfl ?_
                  refine ab_iload' hG 204 _ _ _ _ 6 _ dX6_meet_204 rfl ?_
                  refine ab_baload' hG 206 _ _ _ _ 22 0 336 _ dX6_meet_206 rfl h.1 ?_
                  have h := h.2
                  refine ab_aload_n' hG 207 _ _ _ _ 0 _ dX6_meet_207 rfl ?_
                  refine ab_gR hG 208 _ _ _ _ 17 21 3 0 (24, 0) dX6_meet_208 (List.Mem.tail _ (List.Mem.tail _ (List.Mem.tail _ (List.Mem.tail _ (List.Mem.tail _ (List.Mem.tail _ (List.Mem.tail _ (List.Mem.head _)))))))) rfl ?_
                  refine ab_iload' hG 211 _ _ _ _ 6 _ dX6_meet_211 rfl ?_
                  refine ab_iaload' hG 213 _ _ _ _ 24 0 336 _ dX6_meet_213 rfl h.1 ?_
                  have h := h.2
                  exact ab_invs' hG 214 [some (.inr (21, 0)), some (.inl x1), some (.inl x2), some (.inl x3), some (.inl x4), some (.inl x5), some (.inl x6), some (.inl xs0), some (.inl x5), some (.inl 0)] [(.inl ((ab_su (ab_su (ab_su S 30 0 x1.toNatClampNeg (vp_nar .boolean 1)) 31 0 x1.toNatClampNeg 0) 32 0 x1.toNatClampNeg ((ab_su (ab_su S 30 0 x1.toNatClampNeg (vp_nar .boolean 1)) 31 0 x1.toNatClampNeg 0) 23 0 x5.toNatClampNeg)) 24 0 x4.toNatClampNeg)), (.inl ((ab_su (ab_su (ab_su S 30 0 x1.toNatClampNeg (vp_nar .boolean 1)) 31 0 x1.toNatClampNeg 0) 32 0 x1.toNatClampNeg ((ab_su (ab_su S 30 0 x1.toNatClampNeg (vp_nar .boolean 1)) 31 0 x1.toNatClampNeg 0) 23 0 x5.toNatClampNeg)) 24 0 x5.toNatClampNeg)), (.inl ((ab_su (ab_su (ab_su S 30 0 x1.toNatClampNeg (vp_nar .boolean 1)) 31 0 x1.toNatClampNeg 0) 32 0 x1.toNatClampNeg ((ab_su (ab_su S 30 0 x1.toNatClampNeg (vp_nar .boolean 1)) 31 0 x1.toNatClampNeg 0) 23 0 x5.toNatClampNeg)) 22 0 x6.toNatClampNeg)), (.inl ((ab_su (ab_su (ab_su S 30 0 x1.toNatClampNeg (vp_nar .boolean 1)) 31 0 x1.toNatClampNeg 0) 32 0 x1.toNatClampNeg ((ab_su (ab_su S 30 0 x1.toNatClampNeg (vp_nar .boolean 1)) 31 0 x1.toNatClampNeg 0) 23 0 x5.toNatClampNeg)) 24 0 x6.toNatClampNeg))] [(.inl x1), (.inr (33, 0))] (ab_su (ab_su (ab_su S 30 0 x1.toNatClampNeg (vp_nar .boolean 1)) 31 0 x1.toNatClampNeg 0) 32 0 x1.toNatClampNeg ((ab_su (ab_su S 30 0 x1.toNatClampNeg (vp_nar .boolean 1)) 31 0 x1.toNatClampNeg 0) 23 0 x5.toNatClampNeg)) 0 137 _ 4 1 0 _ dX6_meet_214 rfl rfl (by decide) (by decide) h
              · have h := h.2 hc
                refine ab_aload_n' hG 134 _ _ _ _ 0 _ dX6_meet_134 rfl ?_
                refine ab_gR hG 135 _ _ _ _ 13 21 2 0 (23, 0) dX6_meet_135 (List.Mem.tail _ (List.Mem.tail _ (List.Mem.tail _ (List.Mem.tail _ (List.Mem.tail _ (List.Mem.head _)))))) rfl ?_
                refine ab_iload' hG 138 _ _ _ _ 4 _ dX6_meet_138 rfl ?_
                refine ab_iaload' hG 140 _ _ _ _ 23 0 336 _ dX6_meet_140 rfl h.1 ?_
                have h := h.2
                refine ab_aload_n' hG 141 _ _ _ _ 0 _ dX6_meet_141 rfl ?_
                refine ab_gR hG 142 _ _ _ _ 13 21 2 0 (23, 0) dX6_meet_142 (List.Mem.tail _ (List.Mem.tail _ (List.Mem.tail _ (List.Mem.tail _ (List.Mem.tail _ (List.Mem.head _)))))) rfl ?_
                refine ab_iload' hG 145 _ _ _ _ 5 _ dX6_meet_145 rfl ?_
                refine ab_iaload' hG 147 _ _ _ _ 23 0 336 _ dX6_meet_147 rfl h.1 ?_
                have h := h.2
                refine ab_aload_n' hG 148 _ _ _ _ 0 _ dX6_meet_148 rfl ?_
                refine ab_gR hG 149 _ _ _ _ 7 21 1 0 (22, 0) dX6_meet_149 (List.Mem.tail _ (List.Mem.tail _ (List.Mem.tail _ (List.Mem.head _)))) rfl ?_
                refine ab_iload' hG 152 _ _ _ _ 6 _ dX6_meet_152 rfl ?_
                refine ab_baload' hG 154 _ _ _ _ 22 0 336 _ dX6_meet_154 rfl h.1 ?_
                have h := h.2
                refine ab_aload_n' hG 155 _ _ _ _ 0 _ dX6_meet_155 rfl ?_
                refine ab_gR hG 156 _ _ _ _ 13 21 2 0 (23, 0) dX6_meet_156 (List.Mem.tail _ (List.Mem.tail _ (List.Mem.tail _ (List.Mem.tail _ (List.Mem.tail _ (List.Mem.head _)))))) rfl ?_
                refine ab_iload' hG 159 _ _ _ _ 6 _ dX6_meet_159 rfl ?_
                refine ab_iaload' hG 161 _ _ _ _ 23 0 336 _ dX6_meet_161 rfl h.1 ?_
                have h := h.2
                exact ab_invs' hG 162 [some (.inr (21, 0)), some (.inl x1), some (.inl x2), some (.inl x3), some (.inl x4), some (.inl x5), some (.inl x6), some (.inl xs0), some (.inl x5), some (.inl 0)] [(.inl ((ab_su (ab_su S 30 0 x1.toNatClampNeg (vp_nar .boolean 1)) 31 0 x1.toNatClampNeg 0) 23 0 x4.toNatClampNeg)), (.inl ((ab_su (ab_su S 30 0 x1.toNatClampNeg (vp_nar .boolean 1)) 31 0 x1.toNatClampNeg 0) 23 0 x5.toNatClampNeg)), (.inl ((ab_su (ab_su S 30 0 x1.toNatClampNeg (vp_nar .boolean 1)) 31 0 x1.toNatClampNeg 0) 22 0 x6.toNatClampNeg)), (.inl ((ab_su (ab_su S 30 0 x1.toNatClampNeg (vp_nar .boolean 1)) 31 0 x1.toNatClampNeg 0) 23 0 x6.toNatClampNeg))] [(.inl x1), (.inr (32, 0))] (ab_su (ab_su S 30 0 x1.toNatClampNeg (vp_nar .boolean 1)) 31 0 x1.toNatClampNeg 0) 0 137 _ 4 1 0 _ dX6_meet_162 rfl rfl (by decide) (by decide) h
            · have h := h.2 hc
              refine ab_iconst' hG 117 _ _ _ _ 1 1 dX6_meet_117 (by decide) ?_
              refine ab_goto' hG 118 _ _ _ _ (4) 122 dX6_meet_118 (by decide) ?_
              refine ab_istore' hG 122 _ _ _ _ 9 _ dX6_meet_122 (by decide) ?_
              refine ab_aload_n' hG 124 _ _ _ _ 0 _ dX6_meet_124 rfl ?_
              refine ab_gR hG 125 _ _ _ _ 51 21 16 0 (32, 0) dX6_meet_125 (List.Mem.tail _ (List.Mem.tail _ (List.Mem.tail _ (List.Mem.tail _ (List.Mem.head _))))) rfl ?_
              refine ab_iload_n' hG 128 _ _ _ _ 1 _ dX6_meet_128 rfl ?_
              refine ab_iload' hG 129 _ _ _ _ 9 _ dX6_meet_129 rfl ?_
              refine ab_if_eq' hG 131 _ _ _ _ (37) 168 _ dX6_meet_131 (by decide) (fun hc => ?_) (fun hc => ?_)
              · have h := h.1 hc
                refine ab_aload_n' hG 168 _ _ _ _ 0 _ dX6_meet_168 rfl ?_
                refine ab_gR hG 169 _ _ _ _ 13 21 2 0 (23, 0) dX6_meet_169 (List.Mem.tail _ (List.Mem.tail _ (List.Mem.tail _ (List.Mem.tail _ (List.Mem.tail _ (List.Mem.head _)))))) rfl ?_
                refine ab_iload' hG 172 _ _ _ _ 8 _ dX6_meet_172 rfl ?_
                refine ab_iaload' hG 174 _ _ _ _ 23 0 336 _ dX6_meet_174 rfl h.1 ?_
                have h := h.2
                refine ab_iastore' hG 175 _ _ _ _ 32 0 24 _ _ dX6_meet_175 rfl h.1 ?_
                have h := h.2
                refine ab_aload_n' hG 176 _ _ _ _ 0 _ dX6_meet_176 rfl ?_
                refine ab_gR hG 177 _ _ _ _ 54 21 17 0 (33, 0) dX6_meet_177 (List.Mem.tail _ (List.Mem.tail _ (List.Mem.tail _ (List.Mem.tail _ (List.Mem.tail _ (List.Mem.tail _ (List.Mem.head _))))))) rfl ?_
                refine ab_iload_n' hG 180 _ _ _ _ 1 _ dX6_meet_180 rfl ?_
                refine ab_iload' hG 181 _ _ _ _ 9 _ dX6_meet_181 rfl ?_
                refine ab_if_eq' hG 183 _ _ _ _ (37) 220 _ dX6_meet_183 (by decide) (fun hc => ?_) (fun hc => ?_)
                · have h := h.1 hc
                  refine ab_aload_n' hG 220 _ _ _ _ 0 _ dX6_meet_220 rfl ?_
                  refine ab_gR hG 221 _ _ _ _ 17 21 3 0 (24, 0) dX6_meet_221 (List.Mem.tail _ (List.Mem.tail _ (List.Mem.tail _ (List.Mem.tail _ (List.Mem.tail _ (List.Mem.tail _ (List.Mem.tail _ (List.Mem.head _)))))))) rfl ?_
                  refine ab_iload' hG 224 _ _ _ _ 8 _ dX6_meet_224 rfl ?_
                  refine ab_iaload' hG 226 _ _ _ _ 24 0 336 _ dX6_meet_226 rfl h.1 ?_
                  have h := h.2
                  refine ab_iastore' hG 227 _ _ _ _ 33 0 24 _ _ dX6_meet_227 rfl h.1 ?_
                  have h := h.2
                  refine ab_aload_n' hG 228 _ _ _ _ 0 _ dX6_meet_228 rfl ?_
                  refine ab_gR hG 229 _ _ _ _ 48 21 15 0 (31, 0) dX6_meet_229 (List.Mem.tail _ (List.Mem.tail _ (List.Mem.head _))) rfl ?_
                  refine ab_iload_n' hG 232 _ _ _ _ 1 _ dX6_meet_232 rfl ?_
                  refine ab_iaload' hG 233 _ _ _ _ 31 0 24 _ dX6_meet_233 rfl h.1 ?_
                  have h := h.2
                  refine ab_if_ne' hG 234 _ _ _ _ (40) 274 _ dX6_meet_234 (by decide) (fun hc => ?_) (fun hc => ?_)
                  · have h := h.2 hc
                    exact ab_return_' hG 274 _ _ _ dX6_meet_274 rfl (by decide) h
                  · have h := h.1 hc
                    refine ab_aload_n' hG 237 _ _ _ _ 0 _ dX6_meet_237 rfl ?_
                    refine ab_gR hG 238 _ _ _ _ 48 21 15 0 (31, 0) dX6_meet_238 (List.Mem.tail _ (List.Mem.tail _ (List.Mem.head _))) rfl ?_
                    refine ab_iload_n' hG 241 _ _ _ _ 1 _ dX6_meet_241 rfl ?_
                    refine ab_aload_n' hG 242 _ _ _ _ 0 _ dX6_meet_242 rfl ?_
                    refine ab_gR hG 243 _ _ _ _ 51 21 16 0 (32, 0) dX6_meet_243 (List.Mem.tail _ (List.Mem.tail _ (List.Mem.tail _ (List.Mem.tail _ (List.Mem.head _))))) rfl ?_
                    refine ab_iload_n' hG 246 _ _ _ _ 1 _ dX6_meet_246 rfl ?_
                    refine ab_iaload' hG 247 _ _ _ _ 32 0 24 _ dX6_meet_247 rfl h.1 ?_
                    have h := h.2
                    refine ab_bipush' hG 248 _ _ _ _ (-9) (-9) dX6_meet_248 (by decide) ?_
                    refine ab_icmp_ne' hG 250 _ _ _ _ (7) 257 _ _ dX6_meet_250 (by decide) (fun hc => ?_) (fun hc => ?_)
                    · have h := h.2 hc
                      refine ab_aload_n' hG 257 _ _ _ _ 0 _ dX6_meet_257 rfl ?_
                      refine ab_gR hG 258 _ _ _ _ 54 21 17 0 (33, 0) dX6_meet_258 (List.Mem.tail _ (List.Mem.tail _ (List.Mem.tail _ (List.Mem.tail _ (List.Mem.tail _ (List.Mem.tail _ (List.Mem.head _))))))) rfl ?_
                      refine ab_iload_n' hG 261 _ _ _ _ 1 _ dX6_meet_261 rfl ?_
                      refine ab_iaload' hG 262 _ _ _ _ 33 0 24 _ dX6_meet_262 rfl h.1 ?_
                      have h := h.2
                      refine ab_bipush' hG 263 _ _ _ _ (-9) (-9) dX6_meet_263 (by decide) ?_
                      refine ab_icmp_ne' hG 265 _ _ _ _ (7) 272 _ _ dX6_meet_265 (by decide) (fun hc => ?_) (fun hc => ?_)
                      · have h := h.2 hc
                        refine ab_iconst' hG 272 _ _ _ _ 0 0 dX6_meet_272 (by decide) ?_
                        refine ab_iastore' hG 273 _ _ _ _ 31 0 24 _ _ dX6_meet_273 rfl h.1 ?_
                        have h := h.2
                        exact ab_return_' hG 274 _ _ _ dX6_meet_274 rfl (by decide) h
                      · have h := h.1 hc
                        refine ab_iconst' hG 268 _ _ _ _ 3 3 dX6_meet_268 (by decide) ?_
                        refine ab_goto' hG 269 _ _ _ _ (4) 273 dX6_meet_269 (by decide) ?_
                        refine ab_iastore' hG 273 _ _ _ _ 31 0 24 _ _ dX6_meet_273 rfl h.1 ?_
                        have h := h.2
                        exact ab_return_' hG 274 _ _ _ dX6_meet_274 rfl (by decide) h
                    · have h := h.1 hc
                      refine ab_iconst' hG 253 _ _ _ _ 2 2 dX6_meet_253 (by decide) ?_
                      refine ab_goto' hG 254 _ _ _ _ (19) 273 dX6_meet_254 (by decide) ?_
                      refine ab_iastore' hG 273 _ _ _ _ 31 0 24 _ _ dX6_meet_273 rfl h.1 ?_
                      have h := h.2
                      exact ab_return_' hG 274 _ _ _ dX6_meet_274 rfl (by decide) h
                · have h := h.2 hc
                  refine ab_aload_n' hG 186 _ _ _ _ 0 _ dX6_meet_186 rfl ?_
                  refine ab_gR hG 187 _ _ _ _ 17 21 3 0 (24, 0) dX6_meet_187 (List.Mem.tail _ (List.Mem.tail _ (List.Mem.tail _ (List.Mem.tail _ (List.Mem.tail _ (List.Mem.tail _ (List.Mem.tail _ (List.Mem.head _)))))))) rfl ?_
                  refine ab_iload' hG 190 _ _ _ _ 4 _ dX6_meet_190 rfl ?_
                  refine ab_iaload' hG 192 _ _ _ _ 24 0 336 _ dX6_meet_192 rfl h.1 ?_
                  have h := h.2
                  refine ab_aload_n' hG 193 _ _ _ _ 0 _ dX6_meet_193 rfl ?_
                  refine ab_gR hG 194 _ _ _ _ 17 21 3 0 (24, 0) dX6_meet_194 (List.Mem.tail _ (List.Mem.tail _ (List.Mem.tail _ (List.Mem.tail _ (List.Mem.tail _ (List.Mem.tail _ (List.Mem.tail _ (List.Mem.head _)))))))) rfl ?_
                  refine ab_iload' hG 197 _ _ _ _ 5 _ dX6_meet_197 rfl ?_
                  refine ab_iaload' hG 199 _ _ _ _ 24 0 336 _ dX6_meet_199 rfl h.1 ?_
                  have h := h.2
                  refine ab_aload_n' hG 200 _ _ _ _ 0 _ dX6_meet_200 rfl ?_
                  refine ab_gR hG 201 _ _ _ _ 7 21 1 0 (22, 0) dX6_meet_201 (List.Mem.tail _ (List.Mem.tail _ (List.Mem.tail _ (List.Mem.head _)))) rfl ?_
                  refine ab_iload' hG 204 _ _ _ _ 6 _ dX6_meet_204 rfl ?_
                  refine ab_baload' hG 206 _ _ _ _ 22 0 336 _ dX6_meet_206 rfl h.1 ?_
                  have h := h.2
                  refine ab_aload_n' hG 207 _ _ _ _ 0 _ dX6_meet_207 rfl ?_
                  refine ab_gR hG 208 _ _ _ _ 17 21 3 0 (24, 0) dX6_meet_208 (List.Mem.tail _ (List.Mem.tail _ (List.Mem.tail _ (List.Mem.tail _ (List.Mem.tail _ (List.Mem.tail _ (List.Mem.tail _ (List.Mem.head _)))))))) rfl ?_
                  refine ab_iload' hG 211 _ _ _ _ 6 _ dX6_meet_211 rfl ?_
                  refine ab_iaload' hG 213 _ _ _ _ 24 0 336 _ dX6_meet_213 rfl h.1 ?_
                  have h := h.2
                  exact ab_invs' hG 214 [some (.inr (21, 0)), some (.inl x1), some (.inl x2), some (.inl x3), some (.inl x4), some (.inl x5), some (.inl x6), some (.inl xs0), some (.inl x5), some (.inl 1)] [(.inl ((ab_su (ab_su (ab_su S 30 0 x1.toNatClampNeg (vp_nar .boolean 1)) 31 0 x1.toNatClampNeg 0) 32 0 x1.toNatClampNeg ((ab_su (ab_su S 30 0 x1.toNatClampNeg (vp_nar .boolean 1)) 31 0 x1.toNatClampNeg 0) 23 0 x5.toNatClampNeg)) 24 0 x4.toNatClampNeg)), (.inl ((ab_su (ab_su (ab_su S 30 0 x1.toNatClampNeg (vp_nar .boolean 1)) 31 0 x1.toNatClampNeg 0) 32 0 x1.toNatClampNeg ((ab_su (ab_su S 30 0 x1.toNatClampNeg (vp_nar .boolean 1)) 31 0 x1.toNatClampNeg 0) 23 0 x5.toNatClampNeg)) 24 0 x5.toNatClampNeg)), (.inl ((ab_su (ab_su (ab_su S 30 0 x1.toNatClampNeg (vp_nar .boolean 1)) 31 0 x1.toNatClampNeg 0) 32 0 x1.toNatClampNeg ((ab_su (ab_su S 30 0 x1.toNatClampNeg (vp_nar .boolean 1)) 31 0 x1.toNatClampNeg 0) 23 0 x5.toNatClampNeg)) 22 0 x6.toNatClampNeg)), (.inl ((ab_su (ab_su (ab_su S 30 0 x1.toNatClampNeg (vp_nar .boolean 1)) 31 0 x1.toNatClampNeg 0) 32 0 x1.toNatClampNeg ((ab_su (ab_su S 30 0 x1.toNatClampNeg (vp_nar .boolean 1)) 31 0 x1.toNatClampNeg 0) 23 0 x5.toNatClampNeg)) 24 0 x6.toNatClampNeg))] [(.inl x1), (.inr (33, 0))] (ab_su (ab_su (ab_su S 30 0 x1.toNatClampNeg (vp_nar .boolean 1)) 31 0 x1.toNatClampNeg 0) 32 0 x1.toNatClampNeg ((ab_su (ab_su S 30 0 x1.toNatClampNeg (vp_nar .boolean 1)) 31 0 x1.toNatClampNeg 0) 23 0 x5.toNatClampNeg)) 0 137 _ 4 1 0 _ dX6_meet_214 rfl rfl (by decide) (by decide) h
              · have h := h.2 hc
                refine ab_aload_n' hG 134 _ _ _ _ 0 _ dX6_meet_134 rfl ?_
                refine ab_gR hG 135 _ _ _ _ 13 21 2 0 (23, 0) dX6_meet_135 (List.Mem.tail _ (List.Mem.tail _ (List.Mem.tail _ (List.Mem.tail _ (List.Mem.tail _ (List.Mem.head _)))))) rfl ?_
                refine ab_iload' hG 138 _ _ _ _ 4 _ dX6_meet_138 rfl ?_
                refine ab_iaload' hG 140 _ _ _ _ 23 0 336 _ dX6_meet_140 rfl h.1 ?_
                have h := h.2
                refine ab_aload_n' hG 141 _ _ _ _ 0 _ dX6_meet_141 rfl ?_
                refine ab_gR hG 142 _ _ _ _ 13 21 2 0 (23, 0) dX6_meet_142 (List.Mem.tail _ (List.Mem.tail _ (List.Mem.tail _ (List.Mem.tail _ (List.Mem.tail _ (List.Mem.head _)))))) rfl ?_
                refine ab_iload' hG 145 _ _ _ _ 5 _ dX6_meet_145 rfl ?_
                refine ab_iaload' hG 147 _ _ _ _ 23 0 336 _ dX6_meet_147 rfl h.1 ?_
                have h := h.2
                refine ab_aload_n' hG 148 _ _ _ _ 0 _ dX6_meet_148 rfl ?_
                refine ab_gR hG 149 _ _ _ _ 7 21 1 0 (22, 0) dX6_meet_149 (List.Mem.tail _ (List.Mem.tail _ (List.Mem.tail _ (List.Mem.head _)))) rfl ?_
                refine ab_iload' hG 152 _ _ _ _ 6 _ dX6_meet_152 rfl ?_
                refine ab_baload' hG 154 _ _ _ _ 22 0 336 _ dX6_meet_154 rfl h.1 ?_
                have h := h.2
                refine ab_aload_n' hG 155 _ _ _ _ 0 _ dX6_meet_155 rfl ?_
                refine ab_gR hG 156 _ _ _ _ 13 21 2 0 (23, 0) dX6_meet_156 (List.Mem.tail _ (List.Mem.tail _ (List.Mem.tail _ (List.Mem.tail _ (List.Mem.tail _ (List.Mem.head _)))))) rfl ?_
                refine ab_iload' hG 159 _ _ _ _ 6 _ dX6_meet_159 rfl ?_
                refine ab_iaload' hG 161 _ _ _ _ 23 0 336 _ dX6_meet_161 rfl h.1 ?_
                have h := h.2
                exact ab_invs' hG 162 [some (.inr (21, 0)), some (.inl x1), some (.inl x2), some (.inl x3), some (.inl x4), some (.inl x5), some (.inl x6), some (.inl xs0), some (.inl x5), some (.inl 1)] [(.inl ((ab_su (ab_su S 30 0 x1.toNatClampNeg (vp_nar .boolean 1)) 31 0 x1.toNatClampNeg 0) 23 0 x4.toNatClampNeg)), (.inl ((ab_su (ab_su S 30 0 x1.toNatClampNeg (vp_nar .boolean 1)) 31 0 x1.toNatClampNeg 0) 23 0 x5.toNatClampNeg)), (.inl ((ab_su (ab_su S 30 0 x1.toNatClampNeg (vp_nar .boolean 1)) 31 0 x1.toNatClampNeg 0) 22 0 x6.toNatClampNeg)), (.inl ((ab_su (ab_su S 30 0 x1.toNatClampNeg (vp_nar .boolean 1)) 31 0 x1.toNatClampNeg 0) 23 0 x6.toNatClampNeg))] [(.inl x1), (.inr (32, 0))] (ab_su (ab_su S 30 0 x1.toNatClampNeg (vp_nar .boolean 1)) 31 0 x1.toNatClampNeg 0) 0 137 _ 4 1 0 _ dX6_meet_162 rfl rfl (by decide) (by decide) h
        · have h := h.2 hc
          refine ab_iload' hG 88 _ _ _ _ 4 _ dX6_meet_88 rfl ?_
          refine ab_goto' hG 90 _ _ _ _ (5) 95 dX6_meet_90 (by decide) ?_
          refine ab_istore' hG 95 _ _ _ _ 8 _ dX6_meet_95 (by decide) ?_
          refine ab_aload_n' hG 97 _ _ _ _ 0 _ dX6_meet_97 rfl ?_
          refine ab_gR hG 98 _ _ _ _ 7 21 1 0 (22, 0) dX6_meet_98 (List.Mem.tail _ (List.Mem.tail _ (List.Mem.tail _ (List.Mem.head _)))) rfl ?_
          refine ab_iload' hG 101 _ _ _ _ 4 _ dX6_meet_101 rfl ?_
          refine ab_baload' hG 103 _ _ _ _ 22 0 336 _ dX6_meet_103 rfl h.1 ?_
          have h := h.2
          refine ab_if_eq' hG 104 _ _ _ _ (17) 121 _ dX6_meet_104 (by decide) (fun hc => ?_) (fun hc => ?_)
          · have h := h.1 hc
            refine ab_iconst' hG 121 _ _ _ _ 0 0 dX6_meet_121 (by decide) ?_
            refine ab_istore' hG 122 _ _ _ _ 9 _ dX6_meet_122 (by decide) ?_
            refine ab_aload_n' hG 124 _ _ _ _ 0 _ dX6_meet_124 rfl ?_
            refine ab_gR hG 125 _ _ _ _ 51 21 16 0 (32, 0) dX6_meet_125 (List.Mem.tail _ (List.Mem.tail _ (List.Mem.tail _ (List.Mem.tail _ (List.Mem.head _))))) rfl ?_
            refine ab_iload_n' hG 128 _ _ _ _ 1 _ dX6_meet_128 rfl ?_
            refine ab_iload' hG 129 _ _ _ _ 9 _ dX6_meet_129 rfl ?_
            refine ab_if_eq' hG 131 _ _ _ _ (37) 168 _ dX6_meet_131 (by decide) (fun hc => ?_) (fun hc => ?_)
            · have h := h.1 hc
              refine ab_aload_n' hG 168 _ _ _ _ 0 _ dX6_meet_168 rfl ?_
              refine ab_gR hG 169 _ _ _ _ 13 21 2 0 (23, 0) dX6_meet_169 (List.Mem.tail _ (List.Mem.tail _ (List.Mem.tail _ (List.Mem.tail _ (List.Mem.tail _ (List.Mem.head _)))))) rfl ?_
              refine ab_iload' hG 172 _ _ _ _ 8 _ dX6_meet_172 rfl ?_
              refine ab_iaload' hG 174 _ _ _ _ 23 0 336 _ dX6_meet_174 rfl h.1 ?_
              have h := h.2
              refine ab_iastore' hG 175 _ _ _ _ 32 0 24 _ _ dX6_meet_175 rfl h.1 ?_
              have h := h.2
              refine ab_aload_n' hG 176 _ _ _ _ 0 _ dX6_meet_176 rfl ?_
              refine ab_gR hG 177 _ _ _ _ 54 21 17 0 (33, 0) dX6_meet_177 (List.Mem.tail _ (List.Mem.tail _ (List.Mem.tail _ (List.Mem.tail _ (List.Mem.tail _ (List.Mem.tail _ (List.Mem.head _))))))) rfl ?_
              refine ab_iload_n' hG 180 _ _ _ _ 1 _ dX6_meet_180 rfl ?_
              refine ab_iload' hG 181 _ _ _ _ 9 _ dX6_meet_181 rfl ?_
              refine ab_if_eq' hG 183 _ _ _ _ (37) 220 _ dX6_meet_183 (by decide) (fun hc => ?_) (fun hc => ?_)
              · have h := h.1 hc
                refine ab_aload_n' hG 220 _ _ _ _ 0 _ dX6_meet_220 rfl ?_
                refine ab_gR hG 221 _ _ _ _ 17 21 3 0 (24, 0) dX6_meet_221 (List.Mem.tail _ (List.Mem.tail _ (List.Mem.tail _ (List.Mem.tail _ (List.Mem.tail _ (List.Mem.tail _ (List.Mem.tail _ (List.Mem.head _)))))))) rfl ?_
                refine ab_iload' hG 224 _ _ _ _ 8 _ dX6_meet_224 rfl ?_
                refine ab_iaload' hG 226 _ _ _ _ 24 0 336 _ dX6_meet_226 rfl h.1 ?_
                have h := h.2
                refine ab_iastore' hG 227 _ _ _ _ 33 0 24 _ _ dX6_meet_227 rfl h.1 ?_
                have h := h.2
                refine ab_aload_n' hG 228 _ _ _ _ 0 _ dX6_meet_228 rfl ?_
                refine ab_gR hG 229 _ _ _ _ 48 21 15 0 (31, 0) dX6_meet_229 (List.Mem.tail _ (List.Mem.tail _ (List.Mem.head _))) rfl ?_
                refine ab_iload_n' hG 232 _ _ _ _ 1 _ dX6_meet_232 rfl ?_
                refine ab_iaload' hG 233 _ _ _ _ 31 0 24 _ dX6_meet_233 rfl h.1 ?_
                have h := h.2
                refine ab_if_ne' hG 234 _ _ _ _ (40) 274 _ dX6_meet_234 (by decide) (fun hc => ?_) (fun hc => ?_)
                · have h := h.2 hc
                  exact ab_return_' hG 274 _ _ _ dX6_meet_274 rfl (by decide) h
                · have h := h.1 hc
                  refine ab_aload_n' hG 237 _ _ _ _ 0 _ dX6_meet_237 rfl ?_
                  refine ab_gR hG 238 _ _ _ _ 48 21 15 0 (31, 0) dX6_meet_238 (List.Mem.tail _ (List.Mem.tail _ (List.Mem.head _))) rfl ?_
                  refine ab_iload_n' hG 241 _ _ _ _ 1 _ dX6_meet_241 rfl ?_
                  refine ab_aload_n' hG 242 _ _ _ _ 0 _ dX6_meet_242 rfl ?_
                  refine ab_gR hG 243 _ _ _ _ 51 21 16 0 (32, 0) dX6_meet_243 (List.Mem.tail _ (List.Mem.tail _ (List.Mem.tail _ (List.Mem.tail _ (List.Mem.head _))))) rfl ?_
                  refine ab_iload_n' hG 246 _ _ _ _ 1 _ dX6_meet_246 rfl ?_
                  refine ab_iaload' hG 247 _ _ _ _ 32 0 24 _ dX6_meet_247 rfl h.1 ?_
                  have h := h.2
                  refine ab_bipush' hG 248 _ _ _ _ (-9) (-9) dX6_meet_248 (by decide) ?_
                  refine ab_icmp_ne' hG 250 _ _ _ _ (7) 257 _ _ dX6_meet_250 (by decide) (fun hc => ?_) (fun hc => ?_)
                  · have h := h.2 hc
                    refine ab_aload_n' hG 257 _ _ _ _ 0 _ dX6_meet_257 rfl ?_
                    refine ab_gR hG 258 _ _ _ _ 54 21 17 0 (33, 0) dX6_meet_258 (List.Mem.tail _ (List.Mem.tail _ (List.Mem.tail _ (List.Mem.tail _ (List.Mem.tail _ (List.Mem.tail _ (List.Mem.head _))))))) rfl ?_
                    refine ab_iload_n' hG 261 _ _ _ _ 1 _ dX6_meet_261 rfl ?_
                    refine ab_iaload' hG 262 _ _ _ _ 33 0 24 _ dX6_meet_262 rfl h.1 ?_
                    have h := h.2
                    refine ab_bipush' hG 263 _ _ _ _ (-9) (-9) dX6_meet_263 (by decide) ?_
                    refine ab_icmp_ne' hG 265 _ _ _ _ (7) 272 _ _ dX6_meet_265 (by decide) (fun hc => ?_) (fun hc => ?_)
                    · have h := h.2 hc
                      refine ab_iconst' hG 272 _ _ _ _ 0 0 dX6_meet_272 (by decide) ?_
                      refine ab_iastore' hG 273 _ _ _ _ 31 0 24 _ _ dX6_meet_273 rfl h.1 ?_
                      have h := h.2
                      exact ab_return_' hG 274 _ _ _ dX6_meet_274 rfl (by decide) h
                    · have h := h.1 hc
                      refine ab_iconst' hG 268 _ _ _ _ 3 3 dX6_meet_268 (by decide) ?_
                      refine ab_goto' hG 269 _ _ _ _ (4) 273 dX6_meet_269 (by decide) ?_
                      refine ab_iastore' hG 273 _ _ _ _ 31 0 24 _ _ dX6_meet_273 rfl h.1 ?_
                      have h := h.2
                      exact ab_return_' hG 274 _ _ _ dX6_meet_274 rfl (by decide) h
                  · have h := h.1 hc
                    refine ab_iconst' hG 253 _ _ _ _ 2 2 dX6_meet_253 (by decide) ?_
                    refine ab_goto' hG 254 _ _ _ _ (19) 273 dX6_meet_254 (by decide) ?_
                    refine ab_iastore' hG 273 _ _ _ _ 31 0 24 _ _ dX6_meet_273 rfl h.1 ?_
                    have h := h.2
                    exact ab_return_' hG 274 _ _ _ dX6_meet_274 rfl (by decide) h
              · have h := h.2 hc
                refine ab_aload_n' hG 186 _ _ _ _ 0 _ dX6_meet_186 rfl ?_
                refine ab_gR hG 187 _ _ _ _ 17 21 3 0 (24, 0) dX6_meet_187 (List.Mem.tail _ (List.Mem.tail _ (List.Mem.tail _ (List.Mem.tail _ (List.Mem.tail _ (List.Mem.tail _ (List.Mem.tail _ (List.Mem.head _)))))))) rfl ?_
                refine ab_iload' hG 190 _ _ _ _ 4 _ dX6_meet_190 rfl ?_
                refine ab_iaload' hG 192 _ _ _ _ 24 0 336 _ dX6_meet_192 rfl h.1 ?_
                have h := h.2
                refine ab_aload_n' hG 193 _ _ _ _ 0 _ dX6_meet_193 rfl ?_
                refine ab_gR hG 194 _ _ _ _ 17 21 3 0 (24, 0) dX6_meet_194 (List.Mem.tail _ (List.Mem.tail _ (List.Mem.tail _ (List.Mem.tail _ (List.Mem.tail _ (List.Mem.tail _ (List.Mem.tail _ (List.Mem.head _)))))))) rfl ?_
                refine ab_iload' hG 197 _ _ _ _ 5 _ dX6_meet_197 rfl ?_
                refine ab_iaload' hG 199 _ _ _ _ 24 0 336 _ dX6_meet_199 rfl h.1 ?_
                have h := h.2
                refine ab_aload_n' hG 200 _ _ _ _ 0 _ dX6_meet_200 rfl ?_
                refine ab_gR hG 201 _ _ _ _ 7 21 1 0 (22, 0) dX6_meet_201 (List.Mem.tail _ (List.Mem.tail _ (List.Mem.tail _ (List.Mem.head _)))) rfl ?_
                refine ab_iload' hG 204 _ _ _ _ 6 _ dX6_meet_204 rfl ?_
                refine ab_baload' hG 206 _ _ _ _ 22 0 336 _ dX6_meet_206 rfl h.1 ?_
                have h := h.2
                refine ab_aload_n' hG 207 _ _ _ _ 0 _ dX6_meet_207 rfl ?_
                refine ab_gR hG 208 _ _ _ _ 17 21 3 0 (24, 0) dX6_meet_208 (List.Mem.tail _ (List.Mem.tail _ (List.Mem.tail _ (List.Mem.tail _ (List.Mem.tail _ (List.Mem.tail _ (List.Mem.tail _ (List.Mem.head _)))))))) rfl ?_
                refine ab_iload' hG 211 _ _ _ _ 6 _ dX6_meet_211 rfl ?_
                refine ab_iaload' hG 213 _ _ _ _ 24 0 336 _ dX6_meet_213 rfl h.1 ?_
                have h := h.2
                exact ab_invs' hG 214 [some (.inr (21, 0)), some (.inl x1), some (.inl x2), some (.inl x3), some (.inl x4), some (.inl x5), some (.inl x6), some (.inl xs0), some (.inl x4), some (.inl 0)] [(.inl ((ab_su (ab_su (ab_su S 30 0 x1.toNatClampNeg (vp_nar .boolean 1)) 31 0 x1.toNatClampNeg 0) 32 0 x1.toNatClampNeg ((ab_su (ab_su S 30 0 x1.toNatClampNeg (vp_nar .boolean 1)) 31 0 x1.toNatClampNeg 0) 23 0 x4.toNatClampNeg)) 24 0 x4.toNatClampNeg)), (.inl ((ab_su (ab_su (ab_su S 30 0 x1.toNatClampNeg (vp_nar .boolean 1)) 31 0 x1.toNatClampNeg 0) 32 0 x1.toNatClampNeg ((ab_su (ab_su S 30 0 x1.toNatClampNeg (vp_nar .boolean 1)) 31 0 x1.toNatClampNeg 0) 23 0 x4.toNatClampNeg)) 24 0 x5.toNatClampNeg)), (.inl ((ab_su (ab_su (ab_su S 30 0 x1.toNatClampNeg (vp_nar .boolean 1)) 31 0 x1.toNatClampNeg 0) 32 0 x1.toNatClampNeg ((ab_su (ab_su S 30 0 x1.toNatClampNeg (vp_nar .boolean 1)) 31 0 x1.toNatClampNeg 0) 23 0 x4.toNatClampNeg)) 22 0 x6.toNatClampNeg)), (.inl ((ab_su (ab_su (ab_su S 30 0 x1.toNatClampNeg (vp_nar .boolean 1)) 31 0 x1.toNatClampNeg 0) 32 0 x1.toNatClampNeg ((ab_su (ab_su S 30 0 x1.toNatClampNeg (vp_nar .boolean 1)) 31 0 x1.toNatClampNeg 0) 23 0 x4.toNatClampNeg)) 24 0 x6.toNatClampNeg))] [(.inl x1), (.inr (33, 0))] (ab_su (ab_su (ab_su S 30 0 x1.toNatClampNeg (vp_nar .boolean 1)) 31 0 x1.toNatClampNeg 0) 32 0 x1.toNatClampNeg ((ab_su (ab_su S 30 0 x1.toNatClampNeg (vp_nar .boolean 1)) 31 0 x1.toNatClampNeg 0) 23 0 x4.toNatClampNeg)) 0 137 _ 4 1 0 _ dX6_meet_214 rfl rfl (by decide) (by decide) h
            · have h := h.2 hc
              refine ab_aload_n' hG 134 _ _ _ _ 0 _ dX6_meet_134 rfl ?_
              refine ab_gR hG 135 _ _ _ _ 13 21 2 0 (23, 0) dX6_meet_135 (List.Mem.tail _ (List.Mem.tail _ (List.Mem.tail _ (List.Mem.tail _ (List.Mem.tail _ (List.Mem.head _)))))) rfl ?_
              refine ab_iload' hG 138 _ _ _ _ 4 _ dX6_meet_138 rfl ?_
              refine ab_iaload' hG 140 _ _ _ _ 23 0 336 _ dX6_meet_140 rfl h.1 ?_
              have h := h.2
              refine ab_aload_n' hG 141 _ _ _ _ 0 _ dX6_meet_141 rfl ?_
              refine ab_gR hG 142 _ _ _ _ 13 21 2 0 (23, 0) dX6_meet_142 (List.Mem.tail _ (List.Mem.tail _ (List.Mem.tail _ (List.Mem.tail _ (List.Mem.tail _ (List.Mem.head _)))))) rfl ?_
              refine ab_iload' hG 145 _ _ _ _ 5 _ dX6_meet_145 rfl ?_
              refine ab_iaload' hG 147 _ _ _ _ 23 0 336 _ dX6_meet_147 rfl h.1 ?_
              have h := h.2
              refine ab_aload_n' hG 148 _ _ _ _ 0 _ dX6_meet_148 rfl ?_
              refine ab_gR hG 149 _ _ _ _ 7 21 1 0 (22, 0) dX6_meet_149 (List.Mem.tail _ (List.Mem.tail _ (List.Mem.tail _ (List.Mem.head _)))) rfl ?_
              refine ab_iload' hG 152 _ _ _ _ 6 _ dX6_meet_152 rfl ?_
              refine ab_baload' hG 154 _ _ _ _ 22 0 336 _ dX6_meet_154 rfl h.1 ?_
              have h := h.2
              refine ab_aload_n' hG 155 _ _ _ _ 0 _ dX6_meet_155 rfl ?_
              refine ab_gR hG 156 _ _ _ _ 13 21 2 0 (23, 0) dX6_meet_156 (List.Mem.tail _ (List.Mem.tail _ (List.Mem.tail _ (List.Mem.tail _ (List.Mem.tail _ (List.Mem.head _)))))) rfl ?_
              refine ab_iload' hG 159 _ _ _ _ 6 _ dX6_meet_159 rfl ?_
              refine ab_iaload' hG 161 _ _ _ _ 23 0 336 _ dX6_meet_161 rfl h.1 ?_
              have h := h.2
              exact ab_invs' hG 162 [some (.inr (21, 0)), some (.inl x1), some (.inl x2), some (.inl x3), some (.inl x4), some (.inl x5), some (.inl x6), some (.inl xs0), some (.inl x4), some (.inl 0)] [(.inl ((ab_su (ab_su S 30 0 x1.toNatClampNeg (vp_nar .boolean 1)) 31 0 x1.toNatClampNeg 0) 23 0 x4.toNatClampNeg)), (.inl ((ab_su (ab_su S 30 0 x1.toNatClampNeg (vp_nar .boolean 1)) 31 0 x1.toNatClampNeg 0) 23 0 x5.toNatClampNeg)), (.inl ((ab_su (ab_su S 30 0 x1.toNatClampNeg (vp_nar .boolean 1)) 31 0 x1.toNatClampNeg 0) 22 0 x6.toNatClampNeg)), (.inl ((ab_su (ab_su S 30 0 x1.toNatClampNeg (vp_nar .boolean 1)) 31 0 x1.toNatClampNeg 0) 23 0 x6.toNatClampNeg))] [(.inl x1), (.inr (32, 0))] (ab_su (ab_su S 30 0 x1.toNatClampNeg (vp_nar .boolean 1)) 31 0 x1.toNatClampNeg 0) 0 137 _ 4 1 0 _ dX6_meet_162 rfl rfl (by decide) (by decide) h
          · have h := h.2 hc
            refine ab_aload_n' hG 107 _ _ _ _ 0 _ dX6_meet_107 rfl ?_
            refine ab_gR hG 108 _ _ _ _ 7 21 1 0 (22, 0) dX6_meet_108 (List.Mem.tail _ (List.Mem.tail _ (List.Mem.tail _ (List.Mem.head _)))) rfl ?_
            refine ab_iload' hG 111 _ _ _ _ 5 _ dX6_meet_111 rfl ?_
            refine ab_baload' hG 113 _ _ _ _ 22 0 336 _ dX6_meet_113 rfl h.1 ?_
            have h := h.2
            refine ab_if_eq' hG 114 _ _ _ _ (7) 121 _ dX6_meet_114 (by decide) (fun hc => ?_) (fun hc => ?_)
            · have h := h.1 hc
              refine ab_iconst' hG 121 _ _ _ _ 0 0 dX6_meet_121 (by decide) ?_
              refine ab_istore' hG 122 _ _ _ _ 9 _ dX6_meet_122 (by decide) ?_
              refine ab_aload_n' hG 124 _ _ _ _ 0 _ dX6_meet_124 rfl ?_
              refine ab_gR hG 125 _ _ _ _ 51 21 16 0 (32, 0) dX6_meet_125 (List.Mem.tail _ (List.Mem.tail _ (List.Mem.tail _ (List.Mem.tail _ (List.Mem.head _))))) rfl ?_
              refine ab_iload_n' hG 128 _ _ _ _ 1 _ dX6_meet_128 rfl ?_
              refine ab_iload' hG 129 _ _ _ _ 9 _ dX6_meet_129 rfl ?_
              refine ab_if_eq' hG 131 _ _ _ _ (37) 168 _ dX6_meet_131 (by decide) (fun hc => ?_) (fun hc => ?_)
              · have h := h.1 hc
                refine ab_aload_n' hG 168 _ _ _ _ 0 _ dX6_meet_168 rfl ?_
                refine ab_gR hG 169 _ _ _ _ 13 21 2 0 (23, 0) dX6_meet_169 (List.Mem.tail _ (List.Mem.tail _ (List.Mem.tail _ (List.Mem.tail _ (List.Mem.tail _ (List.Mem.head _)))))) rfl ?_
                refine ab_iload' hG 172 _ _ _ _ 8 _ dX6_meet_172 rfl ?_
                refine ab_iaload' hG 174 _ _ _ _ 23 0 336 _ dX6_meet_174 rfl h.1 ?_
                have h := h.2
                refine ab_iastore' hG 175 _ _ _ _ 32 0 24 _ _ dX6_meet_175 rfl h.1 ?_
                have h := h.2
                refine ab_aload_n' hG 176 _ _ _ _ 0 _ dX6_meet_176 rfl ?_
                refine ab_gR hG 177 _ _ _ _ 54 21 17 0 (33, 0) dX6_meet_177 (List.Mem.tail _ (List.Mem.tail _ (List.Mem.tail _ (List.Mem.tail _ (List.Mem.tail _ (List.Mem.tail _ (List.Mem.head _))))))) rfl ?_
                refine ab_iload_n' hG 180 _ _ _ _ 1 _ dX6_meet_180 rfl ?_
                refine ab_iload' hG 181 _ _ _ _ 9 _ dX6_meet_181 rfl ?_
                refine ab_if_eq' hG 183 _ _ _ _ (37) 220 _ dX6_meet_183 (by decide) (fun hc => ?_) (fun hc => ?_)
                · have h := h.1 hc
                  refine ab_aload_n' hG 220 _ _ _ _ 0 _ dX6_meet_220 rfl ?_
                  refine ab_gR hG 221 _ _ _ _ 17 21 3 0 (24, 0) dX6_meet_221 (List.Mem.tail _ (List.Mem.tail _ (List.Mem.tail _ (List.Mem.tail _ (List.Mem.tail _ (List.Mem.tail _ (List.Mem.tail _ (List.Mem.head _)))))))) rfl ?_
                  refine ab_iload' hG 224 _ _ _ _ 8 _ dX6_meet_224 rfl ?_
                  refine ab_iaload' hG 226 _ _ _ _ 24 0 336 _ dX6_meet_226 rfl h.1 ?_
                  have h := h.2
                  refine ab_iastore' hG 227 _ _ _ _ 33 0 24 _ _ dX6_meet_227 rfl h.1 ?_
                  have h := h.2
                  refine ab_aload_n' hG 228 _ _ _ _ 0 _ dX6_meet_228 rfl ?_
                  refine ab_gR hG 229 _ _ _ _ 48 21 15 0 (31, 0) dX6_meet_229 (List.Mem.tail _ (List.Mem.tail _ (List.Mem.head _))) rfl ?_
                  refine ab_iload_n' hG 232 _ _ _ _ 1 _ dX6_meet_232 rfl ?_
                  refine ab_iaload' hG 233 _ _ _ _ 31 0 24 _ dX6_meet_233 rfl h.1 ?_
                  have h := h.2
                  refine ab_if_ne' hG 234 _ _ _ _ (40) 274 _ dX6_meet_234 (by decide) (fun hc => ?_) (fun hc => ?_)
                  · have h := h.2 hc
                    exact ab_return_' hG 274 _ _ _ dX6_meet_274 rfl (by decide) h
                  · have h := h.1 hc
                    refine ab_aload_n' hG 237 _ _ _ _ 0 _ dX6_meet_237 rfl ?_
                    refine ab_gR hG 238 _ _ _ _ 48 21 15 0 (31, 0) dX6_meet_238 (List.Mem.tail _ (List.Mem.tail _ (List.Mem.head _))) rfl ?_
                    refine ab_iload_n' hG 241 _ _ _ _ 1 _ dX6_meet_241 rfl ?_
                    refine ab_aload_n' hG 242 _ _ _ _ 0 _ dX6_meet_242 rfl ?_
                    refine ab_gR hG 243 _ _ _ _ 51 21 16 0 (32, 0) dX6_meet_243 (List.Mem.tail _ (List.Mem.tail _ (List.Mem.tail _ (List.Mem.tail _ (List.Mem.head _))))) rfl ?_
                    refine ab_iload_n' hG 246 _ _ _ _ 1 _ dX6_meet_246 rfl ?_
                    refine ab_iaload' hG 247 _ _ _ _ 32 0 24 _ dX6_meet_247 rfl h.1 ?_
                    have h := h.2
                    refine ab_bipush' hG 248 _ _ _ _ (-9) (-9) dX6_meet_248 (by decide) ?_
                    refine ab_icmp_ne' hG 250 _ _ _ _ (7) 257 _ _ dX6_meet_250 (by decide) (fun hc => ?_) (fun hc => ?_)
                    · have h := h.2 hc
                      refine ab_aload_n' hG 257 _ _ _ _ 0 _ dX6_meet_257 rfl ?_
                      refine ab_gR hG 258 _ _ _ _ 54 21 17 0 (33, 0) dX6_meet_258 (List.Mem.tail _ (List.Mem.tail _ (List.Mem.tail _ (List.Mem.tail _ (List.Mem.tail _ (List.Mem.tail _ (List.Mem.head _))))))) rfl ?_
                      refine ab_iload_n' hG 261 _ _ _ _ 1 _ dX6_meet_261 rfl ?_
                      refine ab_iaload' hG 262 _ _ _ _ 33 0 24 _ dX6_meet_262 rfl h.1 ?_
                      have h := h.2
                      refine ab_bipush' hG 263 _ _ _ _ (-9) (-9) dX6_meet_263 (by decide) ?_
                      refine ab_icmp_ne' hG 265 _ _ _ _ (7) 272 _ _ dX6_meet_265 (by decide) (fun hc => ?_) (fun hc => ?_)
                      · have h := h.2 hc
                        refine ab_iconst' hG 272 _ _ _ _ 0 0 dX6_meet_272 (by decide) ?_
                        refine ab_iastore' hG 273 _ _ _ _ 31 0 24 _ _ dX6_meet_273 rfl h.1 ?_
                        have h := h.2
                        exact ab_return_' hG 274 _ _ _ dX6_meet_274 rfl (by decide) h
                      · have h := h.1 hc
                        refine ab_iconst' hG 268 _ _ _ _ 3 3 dX6_meet_268 (by decide) ?_
                        refine ab_goto' hG 269 _ _ _ _ (4) 273 dX6_meet_269 (by decide) ?_
                        refine ab_iastore' hG 273 _ _ _ _ 31 0 24 _ _ dX6_meet_273 rfl h.1 ?_
                        have h := h.2
                        exact ab_return_' hG 274 _ _ _ dX6_meet_274 rfl (by decide) h
                    · have h := h.1 hc
                      refine ab_iconst' hG 253 _ _ _ _ 2 2 dX6_meet_253 (by decide) ?_
                      refine ab_goto' hG 254 _ _ _ _ (19) 273 dX6_meet_254 (by decide) ?_
                      refine ab_iastore' hG 273 _ _ _ _ 31 0 24 _ _ dX6_meet_273 rfl h.1 ?_
                      have h := h.2
                      exact ab_return_' hG 274 _ _ _ dX6_meet_274 rfl (by decide) h
                · have h := h.2 hc
                  refine ab_aload_n' hG 186 _ _ _ _ 0 _ dX6_meet_186 rfl ?_
                  refine ab_gR hG 187 _ _ _ _ 17 21 3 0 (24, 0) dX6_meet_187 (List.Mem.tail _ (List.Mem.tail _ (List.Mem.tail _ (List.Mem.tail _ (List.Mem.tail _ (List.Mem.tail _ (List.Mem.tail _ (List.Mem.head _)))))))) rfl ?_
                  refine ab_iload' hG 190 _ _ _ _ 4 _ dX6_meet_190 rfl ?_
                  refine ab_iaload' hG 192 _ _ _ _ 24 0 336 _ dX6_meet_192 rfl h.1 ?_
                  have h := h.2
                  refine ab_aload_n' hG 193 _ _ _ _ 0 _ dX6_meet_193 rfl ?_
                  refine ab_gR hG 194 _ _ _ _ 17 21 3 0 (24, 0) dX6_meet_194 (List.Mem.tail _ (List.Mem.tail _ (List.Mem.tail _ (List.Mem.tail _ (List.Mem.tail _ (List.Mem.tail _ (List.Mem.tail _ (List.Mem.head _)))))))) rfl ?_
                  refine ab_iload' hG 197 _ _ _ _ 5 _ dX6_meet_197 rfl ?_
                  refine ab_iaload' hG 199 _ _ _ _ 24 0 336 _ dX6_meet_199 rfl h.1 ?_
                  have h := h.2
                  refine ab_aload_n' hG 200 _ _ _ _ 0 _ dX6_meet_200 rfl ?_
                  refine ab_gR hG 201 _ _ _ _ 7 21 1 0 (22, 0) dX6_meet_201 (List.Mem.tail _ (List.Mem.tail _ (List.Mem.tail _ (List.Mem.head _)))) rfl ?_
                  refine ab_iload' hG 204 _ _ _ _ 6 _ dX6_meet_204 rfl ?_
                  refine ab_baload' hG 206 _ _ _ _ 22 0 336 _ dX6_meet_206 rfl h.1 ?_
                  have h := h.2
                  refine ab_aload_n' hG 207 _ _ _ _ 0 _ dX6_meet_207 rfl ?_
                  refine ab_gR hG 208 _ _ _ _ 17 21 3 0 (24, 0) dX6_meet_208 (List.Mem.tail _ (List.Mem.tail _ (List.Mem.tail _ (List.Mem.tail _ (List.Mem.tail _ (List.Mem.tail _ (List.Mem.tail _ (List.Mem.head _)))))))) rfl ?_
                  refine ab_iload' hG 211 _ _ _ _ 6 _ dX6_meet_211 rfl ?_
                  refine ab_iaload' hG 213 _ _ _ _ 24 0 336 _ dX6_meet_213 rfl h.1 ?_
                  have h := h.2
                  exact ab_invs' hG 214 [some (.inr (21, 0)), some (.inl x1), some (.inl x2), some (.inl x3), some (.inl x4), some (.inl x5), some (.inl x6), some (.inl xs0), some (.inl x4), some (.inl 0)] [(.inl ((ab_su (ab_su (ab_su S 30 0 x1.toNatClampNeg (vp_nar .boolean 1)) 31 0 x1.toNatClampNeg 0) 32 0 x1.toNatClampNeg ((ab_su (ab_su S 30 0 x1.toNatClampNeg (vp_nar .boolean 1)) 31 0 x1.toNatClampNeg 0) 23 0 x4.toNatClampNeg)) 24 0 x4.toNatClampNeg)), (.inl ((ab_su (ab_su (ab_su S 30 0 x1.toNatClampNeg (vp_nar .boolean 1)) 31 0 x1.toNatClampNeg 0) 32 0 x1.toNatClampNeg ((ab_su (ab_su S 30 0 x1.toNatClampNeg (vp_nar .boolean 1)) 31 0 x1.toNatClampNeg 0) 23 0 x4.toNatClampNeg)) 24 0 x5.toNatClampNeg)), (.inl ((ab_su (ab_su (ab_su S 30 0 x1.toNatClampNeg (vp_nar .boolean 1)) 31 0 x1.toNatClampNeg 0) 32 0 x1.toNatClampNeg ((ab_su (ab_su S 30 0 x1.toNatClampNeg (vp_nar .boolean 1)) 31 0 x1.toNatClampNeg 0) 23 0 x4.toNatClampNeg)) 22 0 x6.toNatClampNeg)), (.inl ((ab_su (ab_su (ab_su S 30 0 x1.toNatClampNeg (vp_nar .boolean 1)) 31 0 x1.toNatClampNeg 0) 32 0 x1.toNatClampNeg ((ab_su (ab_su S 30 0 x1.toNatClampNeg (vp_nar .boolean 1)) 31 0 x1.toNatClampNeg 0) 23 0 x4.toNatClampNeg)) 24 0 x6.toNatClampNeg))] [(.inl x1), (.inr (33, 0))] (ab_su (ab_su (ab_su S 30 0 x1.toNatClampNeg (vp_nar .boolean 1)) 31 0 x1.toNatClampNeg 0) 32 0 x1.toNatClampNeg ((ab_su (ab_su S 30 0 x1.toNatClampNeg (vp_nar .boolean 1)) 31 0 x1.toNatClampNeg 0) 23 0 x4.toNatClampNeg)) 0 137 _ 4 1 0 _ dX6_meet_214 rfl rfl (by decide) (by decide) h
              · have h := h.2 hc
                refine ab_aload_n' hG 134 _ _ _ _ 0 _ dX6_meet_134 rfl ?_
                refine ab_gR hG 135 _ _ _ _ 13 21 2 0 (23, 0) dX6_meet_135 (List.Mem.tail _ (List.Mem.tail _ (List.Mem.tail _ (List.Mem.tail _ (List.Mem.tail _ (List.Mem.head _)))))) rfl ?_
                refine ab_iload' hG 138 _ _ _ _ 4 _ dX6_meet_138 rfl ?_
                refine ab_iaload' hG 140 _ _ _ _ 23 0 336 _ dX6_meet_140 rfl h.1 ?_
                have h := h.2
                refine ab_aload_n' hG 141 _ _ _ _ 0 _ dX6_meet_141 rfl ?_
                refine ab_gR hG 142 _ _ _ _ 13 21 2 0 (23, 0) dX6_meet_142 (List.Mem.tail _ (List.Mem.tail _ (List.Mem.tail _ (List.Mem.tail _ (List.Mem.tail _ (List.Mem.head _)))))) rfl ?_
                refine ab_iload' hG 145 _ _ _ _ 5 _ dX6_meet_145 rfl ?_
                refine ab_iaload' hG 147 _ _ _ _ 23 0 336 _ dX6_meet_147 rfl h.1 ?_
                have h := h.2
                refine ab_aload_n' hG 148 _ _ _ _ 0 _ dX6_meet_148 rfl ?_
                refine ab_gR hG 149 _ _ _ _ 7 21 1 0 (22, 0) dX6_meet_149 (List.Mem.tail _ (List.Mem.tail _ (List.Mem.tail _ (List.Mem.head _)))) rfl ?_
                refine ab_iload' hG 152 _ _ _ _ 6 _ dX6_meet_152 rfl ?_
                refine ab_baload' hG 154 _ _ _ _ 22 0 336 _ dX6_meet_154 rfl h.1 ?_
                have h := h.2
                refine ab_aload_n' hG 155 _ _ _ _ 0 _ dX6_meet_155 rfl ?_
                refine ab_gR hG 156 _ _ _ _ 13 21 2 0 (23, 0) dX6_meet_156 (List.Mem.tail _ (List.Mem.tail _ (List.Mem.tail _ (List.Mem.tail _ (List.Mem.tail _ (List.Mem.head _)))))) rfl ?_
                refine ab_iload' hG 159 _ _ _ _ 6 _ dX6_meet_159 rfl ?_
                refine ab_iaload' hG 161 _ _ _ _ 23 0 336 _ dX6_meet_161 rfl h.1 ?_
                have h := h.2
                exact ab_invs' hG 162 [some (.inr (21, 0)), some (.inl x1), some (.inl x2), some (.inl x3), some (.inl x4), some (.inl x5), some (.inl x6), some (.inl xs0), some (.inl x4), some (.inl 0)] [(.inl ((ab_su (ab_su S 30 0 x1.toNatClampNeg (vp_nar .boolean 1)) 31 0 x1.toNatClampNeg 0) 23 0 x4.toNatClampNeg)), (.inl ((ab_su (ab_su S 30 0 x1.toNatClampNeg (vp_nar .boolean 1)) 31 0 x1.toNatClampNeg 0) 23 0 x5.toNatClampNeg)), (.inl ((ab_su (ab_su S 30 0 x1.toNatClampNeg (vp_nar .boolean 1)) 31 0 x1.toNatClampNeg 0) 22 0 x6.toNatClampNeg)), (.inl ((ab_su (ab_su S 30 0 x1.toNatClampNeg (vp_nar .boolean 1)) 31 0 x1.toNatClampNeg 0) 23 0 x6.toNatClampNeg))] [(.inl x1), (.inr (32, 0))] (ab_su (ab_su S 30 0 x1.toNatClampNeg (vp_nar .boolean 1)) 31 0 x1.toNatClampNeg 0) 0 137 _ 4 1 0 _ dX6_meet_162 rfl rfl (by decide) (by decide) h
            · have h := h.2 hc
              refine ab_iconst' hG 117 _ _ _ _ 1 1 dX6_meet_117 (by decide) ?_
              refine ab_goto' hG 118 _ _ _ _ (4) 122 dX6_meet_118 (by decide) ?_
              refine ab_istore' hG 122 _ _ _ _ 9 _ dX6_meet_122 (by decide) ?_
              refine ab_aload_n' hG 124 _ _ _ _ 0 _ dX6_meet_124 rfl ?_
              refine ab_gR hG 125 _ _ _ _ 51 21 16 0 (32, 0) dX6_meet_125 (List.Mem.tail _ (List.Mem.tail _ (List.Mem.tail _ (List.Mem.tail _ (List.Mem.head _))))) rfl ?_
              refine ab_iload_n' hG 128 _ _ _ _ 1 _ dX6_meet_128 rfl ?_
              refine ab_iload' hG 129 _ _ _ _ 9 _ dX6_meet_129 rfl ?_
              refine ab_if_eq' hG 131 _ _ _ _ (37) 168 _ dX6_meet_131 (by decide) (fun hc => ?_) (fun hc => ?_)
              · have h := h.1 hc
                refine ab_aload_n' hG 168 _ _ _ _ 0 _ dX6_meet_168 rfl ?_
                refine ab_gR hG 169 _ _ _ _ 13 21 2 0 (23, 0) dX6_meet_169 (List.Mem.tail _ (List.Mem.tail _ (List.Mem.tail _ (List.Mem.tail _ (List.Mem.tail _ (List.Mem.head _)))))) rfl ?_
                refine ab_iload' hG 172 _ _ _ _ 8 _ dX6_meet_172 rfl ?_
                refine ab_iaload' hG 174 _ _ _ _ 23 0 336 _ dX6_meet_174 rfl h.1 ?_
                have h := h.2
                refine ab_iastore' hG 175 _ _ _ _ 32 0 24 _ _ dX6_meet_175 rfl h.1 ?_
                have h := h.2
                refine ab_aload_n' hG 176 _ _ _ _ 0 _ dX6_meet_176 rfl ?_
                refine ab_gR hG 177 _ _ _ _ 54 21 17 0 (33, 0) dX6_meet_177 (List.Mem.tail _ (List.Mem.tail _ (List.Mem.tail _ (List.Mem.tail _ (List.Mem.tail _ (List.Mem.tail _ (List.Mem.head _))))))) rfl ?_
                refine ab_iload_n' hG 180 _ _ _ _ 1 _ dX6_meet_180 rfl ?_
                refine ab_iload' hG 181 _ _ _ _ 9 _ dX6_meet_181 rfl ?_
                refine ab_if_eq' hG 183 _ _ _ _ (37) 220 _ dX6_meet_183 (by decide) (fun hc => ?_) (fun hc => ?_)
                · have h := h.1 hc
                  refine ab_aload_n' hG 220 _ _ _ _ 0 _ dX6_meet_220 rfl ?_
                  refine ab_gR hG 221 _ _ _ _ 17 21 3 0 (24, 0) dX6_meet_221 (List.Mem.tail _ (List.Mem.tail _ (List.Mem.tail _ (List.Mem.tail _ (List.Mem.tail _ (List.Mem.tail _ (List.Mem.tail _ (List.Mem.head _)))))))) rfl ?_
                  refine ab_iload' hG 224 _ _ _ _ 8 _ dX6_meet_224 rfl ?_
                  refine ab_iaload' hG 226 _ _ _ _ 24 0 336 _ dX6_meet_226 rfl h.1 ?_
                  have h := h.2
                  refine ab_iastore' hG 227 _ _ _ _ 33 0 24 _ _ dX6_meet_227 rfl h.1 ?_
                  have h := h.2
                  refine ab_aload_n' hG 228 _ _ _ _ 0 _ dX6_meet_228 rfl ?_
                  refine ab_gR hG 229 _ _ _ _ 48 21 15 0 (31, 0) dX6_meet_229 (List.Mem.tail _ (List.Mem.tail _ (List.Mem.head _))) rfl ?_
                  refine ab_iload_n' hG 232 _ _ _ _ 1 _ dX6_meet_232 rfl ?_
                  refine ab_iaload' hG 233 _ _ _ _ 31 0 24 _ dX6_meet_233 rfl h.1 ?_
                  have h := h.2
                  refine ab_if_ne' hG 234 _ _ _ _ (40) 274 _ dX6_meet_234 (by decide) (fun hc => ?_) (fun hc => ?_)
                  · have h := h.2 hc
                    exact ab_return_' hG 274 _ _ _ dX6_meet_274 rfl (by decide) h
                  · have h := h.1 hc
                    refine ab_aload_n' hG 237 _ _ _ _ 0 _ dX6_meet_237 rfl ?_
                    refine ab_gR hG 238 _ _ _ _ 48 21 15 0 (31, 0) dX6_meet_238 (List.Mem.tail _ (List.Mem.tail _ (List.Mem.head _))) rfl ?_
                    refine ab_iload_n' hG 241 _ _ _ _ 1 _ dX6_meet_241 rfl ?_
                    refine ab_aload_n' hG 242 _ _ _ _ 0 _ dX6_meet_242 rfl ?_
                    refine ab_gR hG 243 _ _ _ _ 51 21 16 0 (32, 0) dX6_meet_243 (List.Mem.tail _ (List.Mem.tail _ (List.Mem.tail _ (List.Mem.tail _ (List.Mem.head _))))) rfl ?_
                    refine ab_iload_n' hG 246 _ _ _ _ 1 _ dX6_meet_246 rfl ?_
                    refine ab_iaload' hG 247 _ _ _ _ 32 0 24 _ dX6_meet_247 rfl h.1 ?_
                    have h := h.2
                    refine ab_bipush' hG 248 _ _ _ _ (-9) (-9) dX6_meet_248 (by decide) ?_
                    refine ab_icmp_ne' hG 250 _ _ _ _ (7) 257 _ _ dX6_meet_250 (by decide) (fun hc => ?_) (fun hc => ?_)
                    · have h := h.2 hc
                      refine ab_aload_n' hG 257 _ _ _ _ 0 _ dX6_meet_257 rfl ?_
                      refine ab_gR hG 258 _ _ _ _ 54 21 17 0 (33, 0) dX6_meet_258 (List.Mem.tail _ (List.Mem.tail _ (List.Mem.tail _ (List.Mem.tail _ (List.Mem.tail _ (List.Mem.tail _ (List.Mem.head _))))))) rfl ?_
                      refine ab_iload_n' hG 261 _ _ _ _ 1 _ dX6_meet_261 rfl ?_
                      refine ab_iaload' hG 262 _ _ _ _ 33 0 24 _ dX6_meet_262 rfl h.1 ?_
                      have h := h.2
                      refine ab_bipush' hG 263 _ _ _ _ (-9) (-9) dX6_meet_263 (by decide) ?_
                      refine ab_icmp_ne' hG 265 _ _ _ _ (7) 272 _ _ dX6_meet_265 (by decide) (fun hc => ?_) (fun hc => ?_)
                      · have h := h.2 hc
                        refine ab_iconst' hG 272 _ _ _ _ 0 0 dX6_meet_272 (by decide) ?_
                        refine ab_iastore' hG 273 _ _ _ _ 31 0 24 _ _ dX6_meet_273 rfl h.1 ?_
                        have h := h.2
                        exact ab_return_' hG 274 _ _ _ dX6_meet_274 rfl (by decide) h
                      · have h := h.1 hc
                        refine ab_iconst' hG 268 _ _ _ _ 3 3 dX6_meet_268 (by decide) ?_
                        refine ab_goto' hG 269 _ _ _ _ (4) 273 dX6_meet_269 (by decide) ?_
                        refine ab_iastore' hG 273 _ _ _ _ 31 0 24 _ _ dX6_meet_273 rfl h.1 ?_
                        have h := h.2
                        exact ab_return_' hG 274 _ _ _ dX6_meet_274 rfl (by decide) h
                    · have h := h.1 hc
                      refine ab_iconst' hG 253 _ _ _ _ 2 2 dX6_meet_253 (by decide) ?_
                      refine ab_goto' hG 254 _ _ _ _ (19) 273 dX6_meet_254 (by decide) ?_
                      refine ab_iastore' hG 273 _ _ _ _ 31 0 24 _ _ dX6_meet_273 rfl h.1 ?_
                      have h := h.2
                      exact ab_return_' hG 274 _ _ _ dX6_meet_274 rfl (by decide) h
                · have h := h.2 hc
                  refine ab_aload_n' hG 186 _ _ _ _ 0 _ dX6_meet_186 rfl ?_
                  refine ab_gR hG 187 _ _ _ _ 17 21 3 0 (24, 0) dX6_meet_187 (List.Mem.tail _ (List.Mem.tail _ (List.Mem.tail _ (List.Mem.tail _ (List.Mem.tail _ (List.Mem.tail _ (List.Mem.tail _ (List.Mem.head _)))))))) rfl ?_
                  refine ab_iload' hG 190 _ _ _ _ 4 _ dX6_meet_190 rfl ?_
                  refine ab_iaload' hG 192 _ _ _ _ 24 0 336 _ dX6_meet_192 rfl h.1 ?_
                  have h := h.2
                  refine ab_aload_n' hG 193 _ _ _ _ 0 _ dX6_meet_193 rfl ?_
                  refine ab_gR hG 194 _ _ _ _ 17 21 3 0 (24, 0) dX6_meet_194 (List.Mem.tail _ (List.Mem.tail _ (List.Mem.tail _ (List.Mem.tail _ (List.Mem.tail _ (List.Mem.tail _ (List.Mem.tail _ (List.Mem.head _)))))))) rfl ?_
                  refine ab_iload' hG 197 _ _ _ _ 5 _ dX6_meet_197 rfl ?_
                  refine ab_iaload' hG 199 _ _ _ _ 24 0 336 _ dX6_meet_199 rfl h.1 ?_
                  have h := h.2
                  refine ab_aload_n' hG 200 _ _ _ _ 0 _ dX6_meet_200 rfl ?_
                  refine ab_gR hG 201 _ _ _ _ 7 21 1 0 (22, 0) dX6_meet_201 (List.Mem.tail _ (List.Mem.tail _ (List.Mem.tail _ (List.Mem.head _)))) rfl ?_
                  refine ab_iload' hG 204 _ _ _ _ 6 _ dX6_meet_204 rfl ?_
                  refine ab_baload' hG 206 _ _ _ _ 22 0 336 _ dX6_meet_206 rfl h.1 ?_
                  have h := h.2
                  refine ab_aload_n' hG 207 _ _ _ _ 0 _ dX6_meet_207 rfl ?_
                  refine ab_gR hG 208 _ _ _ _ 17 21 3 0 (24, 0) dX6_meet_208 (List.Mem.tail _ (List.Mem.tail _ (List.Mem.tail _ (List.Mem.tail _ (List.Mem.tail _ (List.Mem.tail _ (List.Mem.tail _ (List.Mem.head _)))))))) rfl ?_
                  refine ab_iload' hG 211 _ _ _ _ 6 _ dX6_meet_211 rfl ?_
                  refine ab_iaload' hG 213 _ _ _ _ 24 0 336 _ dX6_meet_213 rfl h.1 ?_
                  have h := h.2
                  exact ab_invs' hG 214 [some (.inr (21, 0)), some (.inl x1), some (.inl x2), some (.inl x3), some (.inl x4), some (.inl x5), some (.inl x6), some (.inl xs0), some (.inl x4), some (.inl 1)] [(.inl ((ab_su (ab_su (ab_su S 30 0 x1.toNatClampNeg (vp_nar .boolean 1)) 31 0 x1.toNatClampNeg 0) 32 0 x1.toNatClampNeg ((ab_su (ab_su S 30 0 x1.toNatClampNeg (vp_nar .boolean 1)) 31 0 x1.toNatClampNeg 0) 23 0 x4.toNatClampNeg)) 24 0 x4.toNatClampNeg)), (.inl ((ab_su (ab_su (ab_su S 30 0 x1.toNatClampNeg (vp_nar .boolean 1)) 31 0 x1.toNatClampNeg 0) 32 0 x1.toNatClampNeg ((ab_su (ab_su S 30 0 x1.toNatClampNeg (vp_nar .boolean 1)) 31 0 x1.toNatClampNeg 0) 23 0 x4.toNatClampNeg)) 24 0 x5.toNatClampNeg)), (.inl ((ab_su (ab_su (ab_su S 30 0 x1.toNatClampNeg (vp_nar .boolean 1)) 31 0 x1.toNatClampNeg 0) 32 0 x1.toNatClampNeg ((ab_su (ab_su S 30 0 x1.toNatClampNeg (vp_nar .boolean 1)) 31 0 x1.toNatClampNeg 0) 23 0 x4.toNatClampNeg)) 22 0 x6.toNatClampNeg)), (.inl ((ab_su (ab_su (ab_su S 30 0 x1.toNatClampNeg (vp_nar .boolean 1)) 31 0 x1.toNatClampNeg 0) 32 0 x1.toNatClampNeg ((ab_su (ab_su S 30 0 x1.toNatClampNeg (vp_nar .boolean 1)) 31 0 x1.toNatClampNeg 0) 23 0 x4.toNatClampNeg)) 24 0 x6.toNatClampNeg))] [(.inl x1), (.inr (33, 0))] (ab_su (ab_su (ab_su S 30 0 x1.toNatClampNeg (vp_nar .boolean 1)) 31 0 x1.toNatClampNeg 0) 32 0 x1.toNatClampNeg ((ab_su (ab_su S 30 0 x1.toNatClampNeg (vp_nar .boolean 1)) 31 0 x1.toNatClampNeg 0) 23 0 x4.toNatClampNeg)) 0 137 _ 4 1 0 _ dX6_meet_214 rfl rfl (by decide) (by decide) h
              · have h := h.2 hc
                refine ab_aload_n' hG 134 _ _ _ _ 0 _ dX6_meet_134 rfl ?_
                refine ab_gR hG 135 _ _ _ _ 13 21 2 0 (23, 0) dX6_meet_135 (List.Mem.tail _ (List.Mem.tail _ (List.Mem.tail _ (List.Mem.tail _ (List.Mem.tail _ (List.Mem.head _)))))) rfl ?_
                refine ab_iload' hG 138 _ _ _ _ 4 _ dX6_meet_138 rfl ?_
                refine ab_iaload' hG 140 _ _ _ _ 23 0 336 _ dX6_meet_140 rfl h.1 ?_
                have h := h.2
                refine ab_aload_n' hG 141 _ _ _ _ 0 _ dX6_meet_141 rfl ?_
                refine ab_gR hG 142 _ _ _ _ 13 21 2 0 (23, 0) dX6_meet_142 (List.Mem.tail _ (List.Mem.tail _ (List.Mem.tail _ (List.Mem.tail _ (List.Mem.tail _ (List.Mem.head _)))))) rfl ?_
                refine ab_iload' hG 145 _ _ _ _ 5 _ dX6_meet_145 rfl ?_
                refine ab_iaload' hG 147 _ _ _ _ 23 0 336 _ dX6_meet_147 rfl h.1 ?_
                have h := h.2
                refine ab_aload_n' hG 148 _ _ _ _ 0 _ dX6_meet_148 rfl ?_
                refine ab_gR hG 149 _ _ _ _ 7 21 1 0 (22, 0) dX6_meet_149 (List.Mem.tail _ (List.Mem.tail _ (List.Mem.tail _ (List.Mem.head _)))) rfl ?_
                refine ab_iload' hG 152 _ _ _ _ 6 _ dX6_meet_152 rfl ?_
                refine ab_baload' hG 154 _ _ _ _ 22 0 336 _ dX6_meet_154 rfl h.1 ?_
                have h := h.2
                refine ab_aload_n' hG 155 _ _ _ _ 0 _ dX6_meet_155 rfl ?_
                refine ab_gR hG 156 _ _ _ _ 13 21 2 0 (23, 0) dX6_meet_156 (List.Mem.tail _ (List.Mem.tail _ (List.Mem.tail _ (List.Mem.tail _ (List.Mem.tail _ (List.Mem.head _)))))) rfl ?_
                refine ab_iload' hG 159 _ _ _ _ 6 _ dX6_meet_159 rfl ?_
                refine ab_iaload' hG 161 _ _ _ _ 23 0 336 _ dX6_meet_161 rfl h.1 ?_
                have h := h.2
                exact ab_invs' hG 162 [some (.inr (21, 0)), some (.inl x1), some (.inl x2), some (.inl x3), some (.inl x4), some (.inl x5), some (.inl x6), some (.inl xs0), some (.inl x4), some (.inl 1)] [(.inl ((ab_su (ab_su S 30 0 x1.toNatClampNeg (vp_nar .boolean 1)) 31 0 x1.toNatClampNeg 0) 23 0 x4.toNatClampNeg)), (.inl ((ab_su (ab_su S 30 0 x1.toNatClampNeg (vp_nar .boolean 1)) 31 0 x1.toNatClampNeg 0) 23 0 x5.toNatClampNeg)), (.inl ((ab_su (ab_su S 30 0 x1.toNatClampNeg (vp_nar .boolean 1)) 31 0 x1.toNatClampNeg 0) 22 0 x6.toNatClampNeg)), (.inl ((ab_su (ab_su S 30 0 x1.toNatClampNeg (vp_nar .boolean 1)) 31 0 x1.toNatClampNeg 0) 23 0 x6.toNatClampNeg))] [(.inl x1), (.inr (32, 0))] (ab_su (ab_su S 30 0 x1.toNatClampNeg (vp_nar .boolean 1)) 31 0 x1.toNatClampNeg 0) 0 137 _ 4 1 0 _ dX6_meet_162 rfl rfl (by decide) (by decide) h
      · have h := h.1 hc
        exact ab_return_' hG 77 _ _ _ dX6_meet_77 rfl (by decide) h
    · have h := h.1 hc
      refine ab_iconst' hG 66 _ _ _ _ 1 1 dX6_meet_66 (by decide) ?_
      refine ab_goto' hG 67 _ _ _ _ (4) 71 dX6_meet_67 (by decide) ?_
      refine ab_iastore' hG 71 _ _ _ _ 31 0 24 _ _ dX6_meet_71 rfl h.1 ?_
      have h := h.2
      refine ab_iload' hG 72 _ _ _ _ 7 _ dX6_meet_72 rfl ?_
      refine ab_if_ne' hG 74 _ _ _ _ (4) 78 _ dX6_meet_74 (by decide) (fun hc => ?_) (fun hc => ?_)
      · have h := h.2 hc
        refine ab_aload_n' hG 78 _ _ _ _ 0 _ dX6_meet_78 rfl ?_
        refine ab_gR hG 79 _ _ _ _ 7 21 1 0 (22, 0) dX6_meet_79 (List.Mem.tail _ (List.Mem.tail _ (List.Mem.tail _ (List.Mem.head _)))) rfl ?_
        refine ab_iload' hG 82 _ _ _ _ 4 _ dX6_meet_82 rfl ?_
        refine ab_baload' hG 84 _ _ _ _ 22 0 336 _ dX6_meet_84 rfl h.1 ?_
        have h := h.2
        refine ab_if_eq' hG 85 _ _ _ _ (8) 93 _ dX6_meet_85 (by decide) (fun hc => ?_) (fun hc => ?_)
        · have h := h.1 hc
          refine ab_iload' hG 93 _ _ _ _ 5 _ dX6_meet_93 rfl ?_
          refine ab_istore' hG 95 _ _ _ _ 8 _ dX6_meet_95 (by decide) ?_
          refine ab_aload_n' hG 97 _ _ _ _ 0 _ dX6_meet_97 rfl ?_
          refine ab_gR hG 98 _ _ _ _ 7 21 1 0 (22, 0) dX6_meet_98 (List.Mem.tail _ (List.Mem.tail _ (List.Mem.tail _ (List.Mem.head _)))) rfl ?_
          refine ab_iload' hG 101 _ _ _ _ 4 _ dX6_meet_101 rfl ?_
          refine ab_baload' hG 103 _ _ _ _ 22 0 336 _ dX6_meet_103 rfl h.1 ?_
          have h := h.2
          refine ab_if_eq' hG 104 _ _ _ _ (17) 121 _ dX6_meet_104 (by decide) (fun hc => ?_) (fun hc => ?_)
          · have h := h.1 hc
            refine ab_iconst' hG 121 _ _ _ _ 0 0 dX6_meet_121 (by decide) ?_
            refine ab_istore' hG 122 _ _ _ _ 9 _ dX6_meet_122 (by decide) ?_
            refine ab_aload_n' hG 124 _ _ _ _ 0 _ dX6_meet_124 rfl ?_
            refine ab_gR hG 125 _ _ _ _ 51 21 16 0 (32, 0) dX6_meet_125 (List.Mem.tail _ (List.Mem.tail _ (List.Mem.tail _ (List.Mem.tail _ (List.Mem.head _))))) rfl ?_
            refine ab_iload_n' hG 128 _ _ _ _ 1 _ dX6_meet_128 rfl ?_
            refine ab_iload' hG 129 _ _ _ _ 9 _ dX6_meet_129 rfl ?_
            refine ab_if_eq' hG 131 _ _ _ _ (37) 168 _ dX6_meet_131 (by decide) (fun hc => ?_) (fun hc => ?_)
            · have h := h.1 hc
              refine ab_aload_n' hG 168 _ _ _ _ 0 _ dX6_meet_168 rfl ?_
              refine ab_gR hG 169 _ _ _ _ 13 21 2 0 (23, 0) dX6_meet_169 (List.Mem.tail _ (List.Mem.tail _ (List.Mem.tail _ (List.Mem.tail _ (List.Mem.tail _ (List.Mem.head _)))))) rfl ?_
              refine ab_iload' hG 172 _ _ _ _ 8 _ dX6_meet_172 rfl ?_
              refine ab_iaload' hG 174 _ _ _ _ 23 0 336 _ dX6_meet_174 rfl h.1 ?_
              have h := h.2
              refine ab_iastore' hG 175 _ _ _ _ 32 0 24 _ _ dX6_meet_175 rfl h.1 ?_
              have h := h.2
              refine ab_aload_n' hG 176 _ _ _ _ 0 _ dX6_meet_176 rfl ?_
              refine ab_gR hG 177 _ _ _ _ 54 21 17 0 (33, 0) dX6_meet_177 (List.Mem.tail _ (List.Mem.tail _ (List.Mem.tail _ (List.Mem.tail _ (List.Mem.tail _ (List.Mem.tail _ (List.Mem.head _))))))) rfl ?_
              refine ab_iload_n' hG 180 _ _ _ _ 1 _ dX6_meet_180 rfl ?_
              refine ab_iload' hG 181 _ _ _ _ 9 _ dX6_meet_181 rfl ?_
              refine ab_if_eq' hG 183 _ _ _ _ (37) 220 _ dX6_meet_183 (by decide) (fun hc => ?_) (fun hc => ?_)
              · have h := h.1 hc
                refine ab_aload_n' hG 220 _ _ _ _ 0 _ dX6_meet_220 rfl ?_
                refine ab_gR hG 221 _ _ _ _ 17 21 3 0 (24, 0) dX6_meet_221 (List.Mem.tail _ (List.Mem.tail _ (List.Mem.tail _ (List.Mem.tail _ (List.Mem.tail _ (List.Mem.tail _ (List.Mem.tail _ (List.Mem.head _)))))))) rfl ?_
                refine ab_iload' hG 224 _ _ _ _ 8 _ dX6_meet_224 rfl ?_
                refine ab_iaload' hG 226 _ _ _ _ 24 0 336 _ dX6_meet_226 rfl h.1 ?_
                have h := h.2
                refine ab_iastore' hG 227 _ _ _ _ 33 0 24 _ _ dX6_meet_227 rfl h.1 ?_
                have h := h.2
                refine ab_aload_n' hG 228 _ _ _ _ 0 _ dX6_meet_228 rfl ?_
                refine ab_gR hG 229 _ _ _ _ 48 21 15 0 (31, 0) dX6_meet_229 (List.Mem.tail _ (List.Mem.tail _ (List.Mem.head _))) rfl ?_
                refine ab_iload_n' hG 232 _ _ _ _ 1 _ dX6_meet_232 rfl ?_
                refine ab_iaload' hG 233 _ _ _ _ 31 0 24 _ dX6_meet_233 rfl h.1 ?_
                have h := h.2
                refine ab_if_ne' hG 234 _ _ _ _ (40) 274 _ dX6_meet_234 (by decide) (fun hc => ?_) (fun hc => ?_)
                · have h := h.2 hc
                  exact ab_return_' hG 274 _ _ _ dX6_meet_274 rfl (by decide) h
                · have h := h.1 hc
                  refine ab_aload_n' hG 237 _ _ _ _ 0 _ dX6_meet_237 rfl ?_
                  refine ab_gR hG 238 _ _ _ _ 48 21 15 0 (31, 0) dX6_meet_238 (List.Mem.tail _ (List.Mem.tail _ (List.Mem.head _))) rfl ?_
                  refine ab_iload_n' hG 241 _ _ _ _ 1 _ dX6_meet_241 rfl ?_
                  refine ab_aload_n' hG 242 _ _ _ _ 0 _ dX6_meet_242 rfl ?_
                  refine ab_gR hG 243 _ _ _ _ 51 21 16 0 (32, 0) dX6_meet_243 (List.Mem.tail _ (List.Mem.tail _ (List.Mem.tail _ (List.Mem.tail _ (List.Mem.head _))))) rfl ?_
                  refine ab_iload_n' hG 246 _ _ _ _ 1 _ dX6_meet_246 rfl ?_
                  refine ab_iaload' hG 247 _ _ _ _ 32 0 24 _ dX6_meet_247 rfl h.1 ?_
                  have h := h.2
                  refine ab_bipush' hG 248 _ _ _ _ (-9) (-9) dX6_meet_248 (by decide) ?_
                  refine ab_icmp_ne' hG 250 _ _ _ _ (7) 257 _ _ dX6_meet_250 (by decide) (fun hc => ?_) (fun hc => ?_)
                  · have h := h.2 hc
                    refine ab_aload_n' hG 257 _ _ _ _ 0 _ dX6_meet_257 rfl ?_
                    refine ab_gR hG 258 _ _ _ _ 54 21 17 0 (33, 0) dX6_meet_258 (List.Mem.tail _ (List.Mem.tail _ (List.Mem.tail _ (List.Mem.tail _ (List.Mem.tail _ (List.Mem.tail _ (List.Mem.head _))))))) rfl ?_
                    refine ab_iload_n' hG 261 _ _ _ _ 1 _ dX6_meet_261 rfl ?_
                    refine ab_iaload' hG 262 _ _ _ _ 33 0 24 _ dX6_meet_262 rfl h.1 ?_
                    have h := h.2
                    refine ab_bipush' hG 263 _ _ _ _ (-9) (-9) dX6_meet_263 (by decide) ?_
                    refine ab_icmp_ne' hG 265 _ _ _ _ (7) 272 _ _ dX6_meet_265 (by decide) (fun hc => ?_) (fun hc => ?_)
                    · have h := h.2 hc
                      refine ab_iconst' hG 272 _ _ _ _ 0 0 dX6_meet_272 (by decide) ?_
                      refine ab_iastore' hG 273 _ _ _ _ 31 0 24 _ _ dX6_meet_273 rfl h.1 ?_
                      have h := h.2
                      exact ab_return_' hG 274 _ _ _ dX6_meet_274 rfl (by decide) h
                    · have h := h.1 hc
                      refine ab_iconst' hG 268 _ _ _ _ 3 3 dX6_meet_268 (by decide) ?_
                      refine ab_goto' hG 269 _ _ _ _ (4) 273 dX6_meet_269 (by decide) ?_
                      refine ab_iastore' hG 273 _ _ _ _ 31 0 24 _ _ dX6_meet_273 rfl h.1 ?_
                      have h := h.2
                      exact ab_return_' hG 274 _ _ _ dX6_meet_274 rfl (by decide) h
                  · have h := h.1 hc
                    refine ab_iconst' hG 253 _ _ _ _ 2 2 dX6_meet_253 (by decide) ?_
                    refine ab_goto' hG 254 _ _ _ _ (19) 273 dX6_meet_254 (by decide) ?_
                    refine ab_iastore' hG 273 _ _ _ _ 31 0 24 _ _ dX6_meet_273 rfl h.1 ?_
                    have h := h.2
                    exact ab_return_' hG 274 _ _ _ dX6_meet_274 rfl (by decide) h
              · have h := h.2 hc
                refine ab_aload_n' hG 186 _ _ _ _ 0 _ dX6_meet_186 rfl ?_
                refine ab_gR hG 187 _ _ _ _ 17 21 3 0 (24, 0) dX6_meet_187 (List.Mem.tail _ (List.Mem.tail _ (List.Mem.tail _ (List.Mem.tail _ (List.Mem.tail _ (List.Mem.tail _ (List.Mem.tail _ (List.Mem.head _)))))))) rfl ?_
                refine ab_iload' hG 190 _ _ _ _ 4 _ dX6_meet_190 rfl ?_
                refine ab_iaload' hG 192 _ _ _ _ 24 0 336 _ dX6_meet_192 rfl h.1 ?_
                have h := h.2
                refine ab_aload_n' hG 193 _ _ _ _ 0 _ dX6_meet_193 rfl ?_
                refine ab_gR hG 194 _ _ _ _ 17 21 3 0 (24, 0) dX6_meet_194 (List.Mem.tail _ (List.Mem.tail _ (List.Mem.tail _ (List.Mem.tail _ (List.Mem.tail _ (List.Mem.tail _ (List.Mem.tail _ (List.Mem.head _)))))))) rfl ?_
                refine ab_iload' hG 197 _ _ _ _ 5 _ dX6_meet_197 rfl ?_
                refine ab_iaload' hG 199 _ _ _ _ 24 0 336 _ dX6_meet_199 rfl h.1 ?_
                have h := h.2
                refine ab_aload_n' hG 200 _ _ _ _ 0 _ dX6_meet_200 rfl ?_
                refine ab_gR hG 201 _ _ _ _ 7 21 1 0 (22, 0) dX6_meet_201 (List.Mem.tail _ (List.Mem.tail _ (List.Mem.tail _ (List.Mem.head _)))) rfl ?_
                refine ab_iload' hG 204 _ _ _ _ 6 _ dX6_meet_204 rfl ?_
                refine ab_baload' hG 206 _ _ _ _ 22 0 336 _ dX6_meet_206 rfl h.1 ?_
                have h := h.2
                refine ab_aload_n' hG 207 _ _ _ _ 0 _ dX6_meet_207 rfl ?_
                refine ab_gR hG 208 _ _ _ _ 17 21 3 0 (24, 0) dX6_meet_208 (List.Mem.tail _ (List.Mem.tail _ (List.Mem.tail _ (List.Mem.tail _ (List.Mem.tail _ (List.Mem.tail _ (List.Mem.tail _ (List.Mem.head _)))))))) rfl ?_
                refine ab_iload' hG 211 _ _ _ _ 6 _ dX6_meet_211 rfl ?_
                refine ab_iaload' hG 213 _ _ _ _ 24 0 336 _ dX6_meet_213 rfl h.1 ?_
                have h := h.2
                exact ab_invs' hG 214 [some (.inr (21, 0)), some (.inl x1), some (.inl x2), some (.inl x3), some (.inl x4), some (.inl x5), some (.inl x6), some (.inl xs0), some (.inl x5), some (.inl 0)] [(.inl ((ab_su (ab_su (ab_su S 30 0 x1.toNatClampNeg (vp_nar .boolean 1)) 31 0 x1.toNatClampNeg 1) 32 0 x1.toNatClampNeg ((ab_su (ab_su S 30 0 x1.toNatClampNeg (vp_nar .boolean 1)) 31 0 x1.toNatClampNeg 1) 23 0 x5.toNatClampNeg)) 24 0 x4.toNatClampNeg)), (.inl ((ab_su (ab_su (ab_su S 30 0 x1.toNatClampNeg (vp_nar .boolean 1)) 31 0 x1.toNatClampNeg 1) 32 0 x1.toNatClampNeg ((ab_su (ab_su S 30 0 x1.toNatClampNeg (vp_nar .boolean 1)) 31 0 x1.toNatClampNeg 1) 23 0 x5.toNatClampNeg)) 24 0 x5.toNatClampNeg)), (.inl ((ab_su (ab_su (ab_su S 30 0 x1.toNatClampNeg (vp_nar .boolean 1)) 31 0 x1.toNatClampNeg 1) 32 0 x1.toNatClampNeg ((ab_su (ab_su S 30 0 x1.toNatClampNeg (vp_nar .boolean 1)) 31 0 x1.toNatClampNeg 1) 23 0 x5.toNatClampNeg)) 22 0 x6.toNatClampNeg)), (.inl ((ab_su (ab_su (ab_su S 30 0 x1.toNatClampNeg (vp_nar .boolean 1)) 31 0 x1.toNatClampNeg 1) 32 0 x1.toNatClampNeg ((ab_su (ab_su S 30 0 x1.toNatClampNeg (vp_nar .boolean 1)) 31 0 x1.toNatClampNeg 1) 23 0 x5.toNatClampNeg)) 24 0 x6.toNatClampNeg))] [(.inl x1), (.inr (33, 0))] (ab_su (ab_su (ab_su S 30 0 x1.toNatClampNeg (vp_nar .boolean 1)) 31 0 x1.toNatClampNeg 1) 32 0 x1.toNatClampNeg ((ab_su (ab_su S 30 0 x1.toNatClampNeg (vp_nar .boolean 1)) 31 0 x1.toNatClampNeg 1) 23 0 x5.toNatClampNeg)) 0 137 _ 4 1 0 _ dX6_meet_214 rfl rfl (by decide) (by decide) h
            · have h := h.2 hc
              refine ab_aload_n' hG 134 _ _ _ _ 0 _ dX6_meet_134 rfl ?_
              refine ab_gR hG 135 _ _ _ _ 13 21 2 0 (23, 0) dX6_meet_135 (List.Mem.tail _ (List.Mem.tail _ (List.Mem.tail _ (List.Mem.tail _ (List.Mem.tail _ (List.Mem.head _)))))) rfl ?_
              refine ab_iload' hG 138 _ _ _ _ 4 _ dX6_meet_138 rfl ?_
              refine ab_iaload' hG 140 _ _ _ _ 23 0 336 _ dX6_meet_140 rfl h.1 ?_
              have h := h.2
              refine ab_aload_n' hG 141 _ _ _ _ 0 _ dX6_meet_141 rfl ?_
              refine ab_gR hG 142 _ _ _ _ 13 21 2 0 (23, 0) dX6_meet_142 (List.Mem.tail _ (List.Mem.tail _ (List.Mem.tail _ (List.Mem.tail _ (List.Mem.tail _ (List.Mem.head _)))))) rfl ?_
              refine ab_iload' hG 145 _ _ _ _ 5 _ dX6_meet_145 rfl ?_
              refine ab_iaload' hG 147 _ _ _ _ 23 0 336 _ dX6_meet_147 rfl h.1 ?_
              have h := h.2
              refine ab_aload_n' hG 148 _ _ _ _ 0 _ dX6_meet_148 rfl ?_
              refine ab_gR hG 149 _ _ _ _ 7 21 1 0 (22, 0) dX6_meet_149 (List.Mem.tail _ (List.Mem.tail _ (List.Mem.tail _ (List.Mem.head _)))) rfl ?_
              refine ab_iload' hG 152 _ _ _ _ 6 _ dX6_meet_152 rfl ?_
              refine ab_baload' hG 154 _ _ _ _ 22 0 336 _ dX6_meet_154 rfl h.1 ?_
              have h := h.2
              refine ab_aload_n' hG 155 _ _ _ _ 0 _ dX6_meet_155 rfl ?_
              refine ab_gR hG 156 _ _ _ _ 13 21 2 0 (23, 0) dX6_meet_156 (List.Mem.tail _ (List.Mem.tail _ (List.Mem.tail _ (List.Mem.tail _ (List.Mem.tail _ (List.Mem.head _)))))) rfl ?_
              refine ab_iload' hG 159 _ _ _ _ 6 _ dX6_meet_159 rfl ?_
              refine ab_iaload' hG 161 _ _ _ _ 23 0 336 _ dX6_meet_161 rfl h.1 ?_
              have h := h.2
              exact ab_invs' hG 162 [some (.inr (21, 0)), some (.inl x1), some (.inl x2), some (.inl x3), some (.inl x4), some (.inl x5), some (.inl x6), some (.inl xs0), some (.inl x5), some (.inl 0)] [(.inl ((ab_su (ab_su S 30 0 x1.toNatClampNeg (vp_nar .boolean 1)) 31 0 x1.toNatClampNeg 1) 23 0 x4.toNatClampNeg)), (.inl ((ab_su (ab_su S 30 0 x1.toNatClampNeg (vp_nar .boolean 1)) 31 0 x1.toNatClampNeg 1) 23 0 x5.toNatClampNeg)), (.inl ((ab_su (ab_su S 30 0 x1.toNatClampNeg (vp_nar .boolean 1)) 31 0 x1.toNatClampNeg 1) 22 0 x6.toNatClampNeg)), (.inl ((ab_su (ab_su S 30 0 x1.toNatClampNeg (vp_nar .boolean 1)) 31 0 x1.toNatClampNeg 1) 23 0 x6.toNatClampNeg))] [(.inl x1), (.inr (32, 0))] (ab_su (ab_su S 30 0 x1.toNatClampNeg (vp_nar .boolean 1)) 31 0 x1.toNatClampNeg 1) 0 137 _ 4 1 0 _ dX6_meet_162 rfl rfl (by decide) (by decide) h
          · have h := h.2 hc
            refine ab_aload_n' hG 107 _ _ _ _ 0 _ dX6_meet_107 rfl ?_
            refine ab_gR hG 108 _ _ _ _ 7 21 1 0 (22, 0) dX6_meet_108 (List.Mem.tail _ (List.Mem.tail _ (List.Mem.tail _ (List.Mem.head _)))) rfl ?_
            refine ab_iload' hG 111 _ _ _ _ 5 _ dX6_meet_111 rfl ?_
            refine ab_baload' hG 113 _ _ _ _ 22 0 336 _ dX6_meet_113 rfl h.1 ?_
            have h := h.2
            refine ab_if_eq' hG 114 _ _ _ _ (7) 121 _ dX6_meet_114 (by decide) (fun hc => ?_) (fun hc => ?_)
            · have h := h.1 hc
              refine ab_iconst' hG 121 _ _ _ _ 0 0 dX6_meet_121 (by decide) ?_
              refine ab_istore' hG 122 _ _ _ _ 9 _ dX6_meet_122 (by decide) ?_
              refine ab_aload_n' hG 124 _ _ _ _ 0 _ dX6_meet_124 rfl ?_
              refine ab_gR hG 125 _ _ _ _ 51 21 16 0 (32, 0) dX6_meet_125 (List.Mem.tail _ (List.Mem.tail _ (List.Mem.tail _ (List.Mem.tail _ (List.Mem.head _))))) rfl ?_
              refine ab_iload_n' hG 128 _ _ _ _ 1 _ dX6_meet_128 rfl ?_
              refine ab_iload' hG 129 _ _ _ _ 9 _ dX6_meet_129 rfl ?_
              refine ab_if_eq' hG 131 _ _ _ _ (37) 168 _ dX6_meet_131 (by decide) (fun hc => ?_) (fun hc => ?_)
              · have h := h.1 hc
                refine ab_aload_n' hG 168 _ _ _ _ 0 _ dX6_meet_168 rfl ?_
                refine ab_gR hG 169 _ _ _ _ 13 21 2 0 (23, 0) dX6_meet_169 (List.Mem.tail _ (List.Mem.tail _ (List.Mem.tail _ (List.Mem.tail _ (List.Mem.tail _ (List.Mem.head _)))))) rfl ?_
                refine ab_iload' hG 172 _ _ _ _ 8 _ dX6_meet_172 rfl ?_
                refine ab_iaload' hG 174 _ _ _ _ 23 0 336 _ dX6_meet_174 rfl h.1 ?_
                have h := h.2
                refine ab_iastore' hG 175 _ _ _ _ 32 0 24 _ _ dX6_meet_175 rfl h.1 ?_
                have h := h.2
                refine ab_aload_n' hG 176 _ _ _ _ 0 _ dX6_meet_176 rfl ?_
                refine ab_gR hG 177 _ _ _ _ 54 21 17 0 (33, 0) dX6_meet_177 (List.Mem.tail _ (List.Mem.tail _ (List.Mem.tail _ (List.Mem.tail _ (List.Mem.tail _ (List.Mem.tail _ (List.Mem.head _))))))) rfl ?_
                refine ab_iload_n' hG 180 _ _ _ _ 1 _ dX6_meet_180 rfl ?_
                refine ab_iload' hG 181 _ _ _ _ 9 _ dX6_meet_181 rfl ?_
                refine ab_if_eq' hG 183 _ _ _ _ (37) 220 _ dX6_meet_183 (by decide) (fun hc => ?_) (fun hc => ?_)
                · have h := h.1 hc
                  refine ab_aload_n' hG 220 _ _ _ _ 0 _ dX6_meet_220 rfl ?_
                  refine ab_gR hG 221 _ _ _ _ 17 21 3 0 (24, 0) dX6_meet_221 (List.Mem.tail _ (List.Mem.tail _ (List.Mem.tail _ (List.Mem.tail _ (List.Mem.tail _ (List.Mem.tail _ (List.Mem.tail _ (List.Mem.head _)))))))) rfl ?_
                  refine ab_iload' hG 224 _ _ _ _ 8 _ dX6_meet_224 rfl ?_
                  refine ab_iaload' hG 226 _ _ _ _ 24 0 336 _ dX6_meet_226 rfl h.1 ?_
                  have h := h.2
                  refine ab_iastore' hG 227 _ _ _ _ 33 0 24 _ _ dX6_meet_227 rfl h.1 ?_
                  have h := h.2
                  refine ab_aload_n' hG 228 _ _ _ _ 0 _ dX6_meet_228 rfl ?_
                  refine ab_gR hG 229 _ _ _ _ 48 21 15 0 (31, 0) dX6_meet_229 (List.Mem.tail _ (List.Mem.tail _ (List.Mem.head _))) rfl ?_
                  refine ab_iload_n' hG 232 _ _ _ _ 1 _ dX6_meet_232 rfl ?_
                  refine ab_iaload' hG 233 _ _ _ _ 31 0 24 _ dX6_meet_233 rfl h.1 ?_
                  have h := h.2
                  refine ab_if_ne' hG 234 _ _ _ _ (40) 274 _ dX6_meet_234 (by decide) (fun hc => ?_) (fun hc => ?_)
                  · have h := h.2 hc
                    exact ab_return_' hG 274 _ _ _ dX6_meet_274 rfl (by decide) h
                  · have h := h.1 hc
                    refine ab_aload_n' hG 237 _ _ _ _ 0 _ dX6_meet_237 rfl ?_
                    refine ab_gR hG 238 _ _ _ _ 48 21 15 0 (31, 0) dX6_meet_238 (List.Mem.tail _ (List.Mem.tail _ (List.Mem.head _))) rfl ?_
                    refine ab_iload_n' hG 241 _ _ _ _ 1 _ dX6_meet_241 rfl ?_
                    refine ab_aload_n' hG 242 _ _ _ _ 0 _ dX6_meet_242 rfl ?_
                    refine ab_gR hG 243 _ _ _ _ 51 21 16 0 (32, 0) dX6_meet_243 (List.Mem.tail _ (List.Mem.tail _ (List.Mem.tail _ (List.Mem.tail _ (List.Mem.head _))))) rfl ?_
                    refine ab_iload_n' hG 246 _ _ _ _ 1 _ dX6_meet_246 rfl ?_
                    refine ab_iaload' hG 247 _ _ _ _ 32 0 24 _ dX6_meet_247 rfl h.1 ?_
                    have h := h.2
                    refine ab_bipush' hG 248 _ _ _ _ (-9) (-9) dX6_meet_248 (by decide) ?_
                    refine ab_icmp_ne' hG 250 _ _ _ _ (7) 257 _ _ dX6_meet_250 (by decide) (fun hc => ?_) (fun hc => ?_)
                    · have h := h.2 hc
                      refine ab_aload_n' hG 257 _ _ _ _ 0 _ dX6_meet_257 rfl ?_
                      refine ab_gR hG 258 _ _ _ _ 54 21 17 0 (33, 0) dX6_meet_258 (List.Mem.tail _ (List.Mem.tail _ (List.Mem.tail _ (List.Mem.tail _ (List.Mem.tail _ (List.Mem.tail _ (List.Mem.head _))))))) rfl ?_
                      refine ab_iload_n' hG 261 _ _ _ _ 1 _ dX6_meet_261 rfl ?_
                      refine ab_iaload' hG 262 _ _ _ _ 33 0 24 _ dX6_meet_262 rfl h.1 ?_
                      have h := h.2
                      refine ab_bipush' hG 263 _ _ _ _ (-9) (-9) dX6_meet_263 (by decide) ?_
                      refine ab_icmp_ne' hG 265 _ _ _ _ (7) 272 _ _ dX6_meet_265 (by decide) (fun hc => ?_) (fun hc => ?_)
                      · have h := h.2 hc
                        refine ab_iconst' hG 272 _ _ _ _ 0 0 dX6_meet_272 (by decide) ?_
                        refine ab_iastore' hG 273 _ _ _ _ 31 0 24 _ _ dX6_meet_273 rfl h.1 ?_
                        have h := h.2
                        exact ab_return_' hG 274 _ _ _ dX6_meet_274 rfl (by decide) h
                      · have h := h.1 hc
                        refine ab_iconst' hG 268 _ _ _ _ 3 3 dX6_meet_268 (by decide) ?_
                        refine ab_goto' hG 269 _ _ _ _ (4) 273 dX6_meet_269 (by decide) ?_
                        refine ab_iastore' hG 273 _ _ _ _ 31 0 24 _ _ dX6_meet_273 rfl h.1 ?_
                        have h := h.2
                        exact ab_return_' hG 274 _ _ _ dX6_meet_274 rfl (by decide) h
                    · have h := h.1 hc
                      refine ab_iconst' hG 253 _ _ _ _ 2 2 dX6_meet_253 (by decide) ?_
                      refine ab_goto' hG 254 _ _ _ _ (19) 273 dX6_meet_254 (by decide) ?_
                      refine ab_iastore' hG 273 _ _ _ _ 31 0 24 _ _ dX6_meet_273 rfl h.1 ?_
                      have h := h.2
                      exact ab_return_' hG 274 _ _ _ dX6_meet_274 rfl (by decide) h
                · have h := h.2 hc
                  refine ab_aload_n' hG 186 _ _ _ _ 0 _ dX6_meet_186 rfl ?_
                  refine ab_gR hG 187 _ _ _ _ 17 21 3 0 (24, 0) dX6_meet_187 (List.Mem.tail _ (List.Mem.tail _ (List.Mem.tail _ (List.Mem.tail _ (List.Mem.tail _ (List.Mem.tail _ (List.Mem.tail _ (List.Mem.head _)))))))) rfl ?_
                  refine ab_iload' hG 190 _ _ _ _ 4 _ dX6_meet_190 rfl ?_
                  refine ab_iaload' hG 192 _ _ _ _ 24 0 336 _ dX6_meet_192 rfl h.1 ?_
                  have h := h.2
                  refine ab_aload_n' hG 193 _ _ _ _ 0 _ dX6_meet_193 rfl ?_
                  refine ab_gR hG 194 _ _ _ _ 17 21 3 0 (24, 0) dX6_meet_194 (List.Mem.tail _ (List.Mem.tail _ (List.Mem.tail _ (List.Mem.tail _ (List.Mem.tail _ (List.Mem.tail _ (List.Mem.tail _ (List.Mem.head _)))))))) rfl ?_
                  refine ab_iload' hG 197 _ _ _ _ 5 _ dX6_meet_197 rfl ?_
                  refine ab_iaload' hG 199 _ _ _ _ 24 0 336 _ dX6_meet_199 rfl h.1 ?_
                  have h := h.2
                  refine ab_aload_n' hG 200 _ _ _ _ 0 _ dX6_meet_200 rfl ?_
                  refine ab_gR hG 201 _ _ _ _ 7 21 1 0 (22, 0) dX6_meet_201 (List.Mem.tail _ (List.Mem.tail _ (List.Mem.tail _ (List.Mem.head _)))) rfl ?_
                  refine ab_iload' hG 204 _ _ _ _ 6 _ dX6_meet_204 rfl ?_
                  refine ab_baload' hG 206 _ _ _ _ 22 0 336 _ dX6_meet_206 rfl h.1 ?_
                  have h := h.2
                  refine ab_aload_n' hG 207 _ _ _ _ 0 _ dX6_meet_207 rfl ?_
                  refine ab_gR hG 208 _ _ _ _ 17 21 3 0 (24, 0) dX6_meet_208 (List.Mem.tail _ (List.Mem.tail _ (List.Mem.tail _ (List.Mem.tail _ (List.Mem.tail _ (List.Mem.tail _ (List.Mem.tail _ (List.Mem.head _)))))))) rfl ?_
                  refine ab_iload' hG 211 _ _ _ _ 6 _ dX6_meet_211 rfl ?_
                  refine ab_iaload' hG 213 _ _ _ _ 24 0 336 _ dX6_meet_213 rfl h.1 ?_
                  have h := h.2
                  exact ab_invs' hG 214 [some (.inr (21, 0)), some (.inl x1), some (.inl x2), some (.inl x3), some (.inl x4), some (.inl x5), some (.inl x6), some (.inl xs0), some (.inl x5), some (.inl 0)] [(.inl ((ab_su (ab_su (ab_su S 30 0 x1.toNatClampNeg (vp_nar .boolean 1)) 31 0 x1.toNatClampNeg 1) 32 0 x1.toNatClampNeg ((ab_su (ab_su S 30 0 x1.toNatClampNeg (vp_nar .boolean 1)) 31 0 x1.toNatClampNeg 1) 23 0 x5.toNatClampNeg)) 24 0 x4.toNatClampNeg)), (.inl ((ab_su (ab_su (ab_su S 30 0 x1.toNatClampNeg (vp_nar .boolean 1)) 31 0 x1.toNatClampNeg 1) 32 0 x1.toNatClampNeg ((ab_su (ab_su S 30 0 x1.toNatClampNeg (vp_nar .boolean 1)) 31 0 x1.toNatClampNeg 1) 23 0 x5.toNatClampNeg)) 24 0 x5.toNatClampNeg)), (.inl ((ab_su (ab_su (ab_su S 30 0 x1.toNatClampNeg (vp_nar .boolean 1)) 31 0 x1.toNatClampNeg 1) 32 0 x1.toNatClampNeg ((ab_su (ab_su S 30 0 x1.toNatClampNeg (vp_nar .boolean 1)) 31 0 x1.toNatClampNeg 1) 23 0 x5.toNatClampNeg)) 22 0 x6.toNatClampNeg)), (.inl ((ab_su (ab_su (ab_su S 30 0 x1.toNatClampNeg (vp_nar .boolean 1)) 31 0 x1.toNatClampNeg 1) 32 0 x1.toNatClampNeg ((ab_su (ab_su S 30 0 x1.toNatClampNeg (vp_nar .boolean 1)) 31 0 x1.toNatClampNeg 1) 23 0 x5.toNatClampNeg)) 24 0 x6.toNatClampNeg))] [(.inl x1), (.inr (33, 0))] (ab_su (ab_su (ab_su S 30 0 x1.toNatClampNeg (vp_nar .boolean 1)) 31 0 x1.toNatClampNeg 1) 32 0 x1.toNatClampNeg ((ab_su (ab_su S 30 0 x1.toNatClampNeg (vp_nar .boolean 1)) 31 0 x1.toNatClampNeg 1) 23 0 x5.toNatClampNeg)) 0 137 _ 4 1 0 _ dX6_meet_214 rfl rfl (by decide) (by decide) h
              · have h := h.2 hc
                refine ab_aload_n' hG 134 _ _ _ _ 0 _ dX6_meet_134 rfl ?_
                refine ab_gR hG 135 _ _ _ _ 13 21 2 0 (23, 0) dX6_meet_135 (List.Mem.tail _ (List.Mem.tail _ (List.Mem.tail _ (List.Mem.tail _ (List.Mem.tail _ (List.Mem.head _)))))) rfl ?_
                refine ab_iload' hG 138 _ _ _ _ 4 _ dX6_meet_138 rfl ?_
                refine ab_iaload' hG 140 _ _ _ _ 23 0 336 _ dX6_meet_140 rfl h.1 ?_
                have h := h.2
                refine ab_aload_n' hG 141 _ _ _ _ 0 _ dX6_meet_141 rfl ?_
                refine ab_gR hG 142 _ _ _ _ 13 21 2 0 (23, 0) dX6_meet_142 (List.Mem.tail _ (List.Mem.tail _ (List.Mem.tail _ (List.Mem.tail _ (List.Mem.tail _ (List.Mem.head _)))))) rfl ?_
                refine ab_iload' hG 145 _ _ _ _ 5 _ dX6_meet_145 rfl ?_
                refine ab_iaload' hG 147 _ _ _ _ 23 0 336 _ dX6_meet_147 rfl h.1 ?_
                have h := h.2
                refine ab_aload_n' hG 148 _ _ _ _ 0 _ dX6_meet_148 rfl ?_
                refine ab_gR hG 149 _ _ _ _ 7 21 1 0 (22, 0) dX6_meet_149 (List.Mem.tail _ (List.Mem.tail _ (List.Mem.tail _ (List.Mem.head _)))) rfl ?_
                refine ab_iload' hG 152 _ _ _ _ 6 _ dX6_meet_152 rfl ?_
                refine ab_baload' hG 154 _ _ _ _ 22 0 336 _ dX6_meet_154 rfl h.1 ?_
                have h := h.2
                refine ab_aload_n' hG 155 _ _ _ _ 0 _ dX6_meet_155 rfl ?_
                refine ab_gR hG 156 _ _ _ _ 13 21 2 0 (23, 0) dX6_meet_156 (List.Mem.tail _ (List.Mem.tail _ (List.Mem.tail _ (List.Mem.tail _ (List.Mem.tail _ (List.Mem.head _)))))) rfl ?_
                refine ab_iload' hG 159 _ _ _ _ 6 _ dX6_meet_159 rfl ?_
                refine ab_iaload' hG 161 _ _ _ _ 23 0 336 _ dX6_meet_161 rfl h.1 ?_
                have h := h.2
                exact ab_invs' hG 162 [some (.inr (21, 0)), some (.inl x1), some (.inl x2), some (.inl x3), some (.inl x4), some (.inl x5), some (.inl x6), some (.inl xs0), some (.inl x5), some (.inl 0)] [(.inl ((ab_su (ab_su S 30 0 x1.toNatClampNeg (vp_nar .boolean 1)) 31 0 x1.toNatClampNeg 1) 23 0 x4.toNatClampNeg)), (.inl ((ab_su (ab_su S 30 0 x1.toNatClampNeg (vp_nar .boolean 1)) 31 0 x1.toNatClampNeg 1) 23 0 x5.toNatClampNeg)), (.inl ((ab_su (ab_su S 30 0 x1.toNatClampNeg (vp_nar .boolean 1)) 31 0 x1.toNatClampNeg 1) 22 0 x6.toNatClampNeg)), (.inl ((ab_su (ab_su S 30 0 x1.toNatClampNeg (vp_nar .boolean 1)) 31 0 x1.toNatClampNeg 1) 23 0 x6.toNatClampNeg))] [(.inl x1), (.inr (32, 0))] (ab_su (ab_su S 30 0 x1.toNatClampNeg (vp_nar .boolean 1)) 31 0 x1.toNatClampNeg 1) 0 137 _ 4 1 0 _ dX6_meet_162 rfl rfl (by decide) (by decide) h
            · have h := h.2 hc
              refine ab_iconst' hG 117 _ _ _ _ 1 1 dX6_meet_117 (by decide) ?_
              refine ab_goto' hG 118 _ _ _ _ (4) 122 dX6_meet_118 (by decide) ?_
              refine ab_istore' hG 122 _ _ _ _ 9 _ dX6_meet_122 (by decide) ?_
              refine ab_aload_n' hG 124 _ _ _ _ 0 _ dX6_meet_124 rfl ?_
              refine ab_gR hG 125 _ _ _ _ 51 21 16 0 (32, 0) dX6_meet_125 (List.Mem.tail _ (List.Mem.tail _ (List.Mem.tail _ (List.Mem.tail _ (List.Mem.head _))))) rfl ?_
              refine ab_iload_n' hG 128 _ _ _ _ 1 _ dX6_meet_128 rfl ?_
              refine ab_iload' hG 129 _ _ _ _ 9 _ dX6_meet_129 rfl ?_
              refine ab_if_eq' hG 131 _ _ _ _ (37) 168 _ dX6_meet_131 (by decide) (fun hc => ?_) (fun hc => ?_)
              · have h := h.1 hc
                refine ab_aload_n' hG 168 _ _ _ _ 0 _ dX6_meet_168 rfl ?_
                refine ab_gR hG 169 _ _ _ _ 13 21 2 0 (23, 0) dX6_meet_169 (List.Mem.tail _ (List.Mem.tail _ (List.Mem.tail _ (List.Mem.tail _ (List.Mem.tail _ (List.Mem.head _)))))) rfl ?_
                refine ab_iload' hG 172 _ _ _ _ 8 _ dX6_meet_172 rfl ?_
                refine ab_iaload' hG 174 _ _ _ _ 23 0 336 _ dX6_meet_174 rfl h.1 ?_
                have h := h.2
                refine ab_iastore' hG 175 _ _ _ _ 32 0 24 _ _ dX6_meet_175 rfl h.1 ?_
                have h := h.2
                refine ab_aload_n' hG 176 _ _ _ _ 0 _ dX6_meet_176 rfl ?_
                refine ab_gR hG 177 _ _ _ _ 54 21 17 0 (33, 0) dX6_meet_177 (List.Mem.tail _ (List.Mem.tail _ (List.Mem.tail _ (List.Mem.tail _ (List.Mem.tail _ (List.Mem.tail _ (List.Mem.head _))))))) rfl ?_
                refine ab_iload_n' hG 180 _ _ _ _ 1 _ dX6_meet_180 rfl ?_
                refine ab_iload' hG 181 _ _ _ _ 9 _ dX6_meet_181 rfl ?_
                refine ab_if_eq' hG 183 _ _ _ _ (37) 220 _ dX6_meet_183 (by decide) (fun hc => ?_) (fun hc => ?_)
                · have h := h.1 hc
                  refine ab_aload_n' hG 220 _ _ _ _ 0 _ dX6_meet_220 rfl ?_
                  refine ab_gR hG 221 _ _ _ _ 17 21 3 0 (24, 0) dX6_meet_221 (List.Mem.tail _ (List.Mem.tail _ (List.Mem.tail _ (List.Mem.tail _ (List.Mem.tail _ (List.Mem.tail _ (List.Mem.tail _ (List.Mem.head _)))))))) rfl ?_
                  refine ab_iload' hG 224 _ _ _ _ 8 _ dX6_meet_224 rfl ?_
                  refine ab_iaload' hG 226 _ _ _ _ 24 0 336 _ dX6_meet_226 rfl h.1 ?_
                  have h := h.2
                  refine ab_iastore' hG 227 _ _ _ _ 33 0 24 _ _ dX6_meet_227 rfl h.1 ?_
                  have h := h.2
                  refine ab_aload_n' hG 228 _ _ _ _ 0 _ dX6_meet_228 rfl ?_
                  refine ab_gR hG 229 _ _ _ _ 48 21 15 0 (31, 0) dX6_meet_229 (List.Mem.tail _ (List.Mem.tail _ (List.Mem.head _))) rfl ?_
                  refine ab_iload_n' hG 232 _ _ _ _ 1 _ dX6_meet_232 rfl ?_
                  refine ab_iaload' hG 233 _ _ _ _ 31 0 24 _ dX6_meet_233 rfl h.1 ?_
                  have h := h.2
                  refine ab_if_ne' hG 234 _ _ _ _ (40) 274 _ dX6_meet_234 (by decide) (fun hc => ?_) (fun hc => ?_)
                  · have h := h.2 hc
                    exact ab_return_' hG 274 _ _ _ dX6_meet_274 rfl (by decide) h
                  · have h := h.1 hc
                    refine ab_aload_n' hG 237 _ _ _ _ 0 _ dX6_meet_237 rfl ?_
                    refine ab_gR hG 238 _ _ _ _ 48 21 15 0 (31, 0) dX6_meet_238 (List.Mem.tail _ (List.Mem.tail _ (List.Mem.head _))) rfl ?_
                    refine ab_iload_n' hG 241 _ _ _ _ 1 _ dX6_meet_241 rfl ?_
                    refine ab_aload_n' hG 242 _ _ _ _ 0 _ dX6_meet_242 rfl ?_
                    refine ab_gR hG 243 _ _ _ _ 51 21 16 0 (32, 0) dX6_meet_243 (List.Mem.tail _ (List.Mem.tail _ (List.Mem.tail _ (List.Mem.tail _ (List.Mem.head _))))) rfl ?_
                    refine ab_iload_n' hG 246 _ _ _ _ 1 _ dX6_meet_246 rfl ?_
                    refine ab_iaload' hG 247 _ _ _ _ 32 0 24 _ dX6_meet_247 rfl h.1 ?_
                    have h := h.2
                    refine ab_bipush' hG 248 _ _ _ _ (-9) (-9) dX6_meet_248 (by decide) ?_
                    refine ab_icmp_ne' hG 250 _ _ _ _ (7) 257 _ _ dX6_meet_250 (by decide) (fun hc => ?_) (fun hc => ?_)
                    · have h := h.2 hc
                      refine ab_aload_n' hG 257 _ _ _ _ 0 _ dX6_meet_257 rfl ?_
                      refine ab_gR hG 258 _ _ _ _ 54 21 17 0 (33, 0) dX6_meet_258 (List.Mem.tail _ (List.Mem.tail _ (List.Mem.tail _ (List.Mem.tail _ (List.Mem.tail _ (List.Mem.tail _ (List.Mem.head _))))))) rfl ?_
                      refine ab_iload_n' hG 261 _ _ _ _ 1 _ dX6_meet_261 rfl ?_
                      refine ab_iaload' hG 262 _ _ _ _ 33 0 24 _ dX6_meet_262 rfl h.1 ?_
                      have h := h.2
                      refine ab_bipush' hG 263 _ _ _ _ (-9) (-9) dX6_meet_263 (by decide) ?_
                      refine ab_icmp_ne' hG 265 _ _ _ _ (7) 272 _ _ dX6_meet_265 (by decide) (fun hc => ?_) (fun hc => ?_)
                      · have h := h.2 hc
                        refine ab_iconst' hG 272 _ _ _ _ 0 0 dX6_meet_272 (by decide) ?_
                        refine ab_iastore' hG 273 _ _ _ _ 31 0 24 _ _ dX6_meet_273 rfl h.1 ?_
                        have h := h.2
                        exact ab_return_' hG 274 _ _ _ dX6_meet_274 rfl (by decide) h
                      · have h := h.1 hc
                        refine ab_iconst' hG 268 _ _ _ _ 3 3 dX6_meet_268 (by decide) ?_
                        refine ab_goto' hG 269 _ _ _ _ (4) 273 dX6_meet_269 (by decide) ?_
                        refine ab_iastore' hG 273 _ _ _ _ 31 0 24 _ _ dX6_meet_273 rfl h.1 ?_
                        have h := h.2
                        exact ab_return_' hG 274 _ _ _ dX6_meet_274 rfl (by decide) h
                    · have h := h.1 hc
                      refine ab_iconst' hG 253 _ _ _ _ 2 2 dX6_meet_253 (by decide) ?_
                      refine ab_goto' hG 254 _ _ _ _ (19) 273 dX6_meet_254 (by decide) ?_
                      refine ab_iastore' hG 273 _ _ _ _ 31 0 24 _ _ dX6_meet_273 rfl h.1 ?_
                      have h := h.2
                      exact ab_return_' hG 274 _ _ _ dX6_meet_274 rfl (by decide) h
                · have h := h.2 hc
                  refine ab_aload_n' hG 186 _ _ _ _ 0 _ dX6_meet_186 rfl ?_
                  refine ab_gR hG 187 _ _ _ _ 17 21 3 0 (24, 0) dX6_meet_187 (List.Mem.tail _ (List.Mem.tail _ (List.Mem.tail _ (List.Mem.tail _ (List.Mem.tail _ (List.Mem.tail _ (List.Mem.tail _ (List.Mem.head _)))))))) rfl ?_
                  refine ab_iload' hG 190 _ _ _ _ 4 _ dX6_meet_190 rfl ?_
                  refine ab_iaload' hG 192 _ _ _ _ 24 0 336 _ dX6_meet_192 rfl h.1 ?_
                  have h := h.2
                  refine ab_aload_n' hG 193 _ _ _ _ 0 _ dX6_meet_193 rfl ?_
                  refine ab_gR hG 194 _ _ _ _ 17 21 3 0 (24, 0) dX6_meet_194 (List.Mem.tail _ (List.Mem.tail _ (List.Mem.tail _ (List.Mem.tail _ (List.Mem.tail _ (List.Mem.tail _ (List.Mem.tail _ (List.Mem.head _)))))))) rfl ?_
                  refine ab_iload' hG 197 _ _ _ _ 5 _ dX6_meet_197 rfl ?_
                  refine ab_iaload' hG 199 _ _ _ _ 24 0 336 _ dX6_meet_199 rfl h.1 ?_
                  have h := h.2
                  refine ab_aload_n' hG 200 _ _ _ _ 0 _ dX6_meet_200 rfl ?_
                  refine ab_gR hG 201 _ _ _ _ 7 21 1 0 (22, 0) dX6_meet_201 (List.Mem.tail _ (List.Mem.tail _ (List.Mem.tail _ (List.Mem.head _)))) rfl ?_
                  refine ab_iload' hG 204 _ _ _ _ 6 _ dX6_meet_204 rfl ?_
                  refine ab_baload' hG 206 _ _ _ _ 22 0 336 _ dX6_meet_206 rfl h.1 ?_
                  have h := h.2
                  refine ab_aload_n' hG 207 _ _ _ _ 0 _ dX6_meet_207 rfl ?_
                  refine ab_gR hG 208 _ _ _ _ 17 21 3 0 (24, 0) dX6_meet_208 (List.Mem.tail _ (List.Mem.tail _ (List.Mem.tail _ (List.Mem.tail _ (List.Mem.tail _ (List.Mem.tail _ (List.Mem.tail _ (List.Mem.head _)))))))) rfl ?_
                  refine ab_iload' hG 211 _ _ _ _ 6 _ dX6_meet_211 rfl ?_
                  refine ab_iaload' hG 213 _ _ _ _ 24 0 336 _ dX6_meet_213 rfl h.1 ?_
                  have h := h.2
                  exact ab_invs' hG 214 [some (.inr (21, 0)), some (.inl x1), some (.inl x2), some (.inl x3), some (.inl x4), some (.inl x5), some (.inl x6), some (.inl xs0), some (.inl x5), some (.inl 1)] [(.inl ((ab_su (ab_su (ab_su S 30 0 x1.toNatClampNeg (vp_nar .boolean 1)) 31 0 x1.toNatClampNeg 1) 32 0 x1.toNatClampNeg ((ab_su (ab_su S 30 0 x1.toNatClampNeg (vp_nar .boolean 1)) 31 0 x1.toNatClampNeg 1) 23 0 x5.toNatClampNeg)) 24 0 x4.toNatClampNeg)), (.inl ((ab_su (ab_su (ab_su S 30 0 x1.toNatClampNeg (vp_nar .boolean 1)) 31 0 x1.toNatClampNeg 1) 32 0 x1.toNatClampNeg ((ab_su (ab_su S 30 0 x1.toNatClampNeg (vp_nar .boolean 1)) 31 0 x1.toNatClampNeg 1) 23 0 x5.toNatClampNeg)) 24 0 x5.toNatClampNeg)), (.inl ((ab_su (ab_su (ab_su S 30 0 x1.toNatClampNeg (vp_nar .boolean 1)) 31 0 x1.toNatClampNeg 1) 32 0 x1.toNatClampNeg ((ab_su (ab_su S 30 0 x1.toNatClampNeg (vp_nar .boolean 1)) 31 0 x1.toNatClampNeg 1) 23 0 x5.toNatClampNeg)) 22 0 x6.toNatClampNeg)), (.inl ((ab_su (ab_su (ab_su S 30 0 x1.toNatClampNeg (vp_nar .boolean 1)) 31 0 x1.toNatClampNeg 1) 32 0 x1.toNatClampNeg ((ab_su (ab_su S 30 0 x1.toNatClampNeg (vp_nar .boolean 1)) 31 0 x1.toNatClampNeg 1) 23 0 x5.toNatClampNeg)) 24 0 x6.toNatClampNeg))] [(.inl x1), (.inr (33, 0))] (ab_su (ab_su (ab_su S 30 0 x1.toNatClampNeg (vp_nar .boolean 1)) 31 0 x1.toNatClampNeg 1) 32 0 x1.toNatClampNeg ((ab_su (ab_su S 30 0 x1.toNatClampNeg (vp_nar .boolean 1)) 31 0 x1.toNatClampNeg 1) 23 0 x5.toNatClampNeg)) 0 137 _ 4 1 0 _ dX6_meet_214 rfl rfl (by decide) (by decide) h
              · have h := h.2 hc
                refine ab_aload_n' hG 134 _ _ _ _ 0 _ dX6_meet_134 rfl ?_
                refine ab_gR hG 135 _ _ _ _ 13 21 2 0 (23, 0) dX6_meet_135 (List.Mem.tail _ (List.Mem.tail _ (List.Mem.tail _ (List.Mem.tail _ (List.Mem.tail _ (List.Mem.head _)))))) rfl ?_
                refine ab_iload' hG 138 _ _ _ _ 4 _ dX6_meet_138 rfl ?_
                refine ab_iaload' hG 140 _ _ _ _ 23 0 336 _ dX6_meet_140 rfl h.1 ?_
                have h := h.2
                refine ab_aload_n' hG 141 _ _ _ _ 0 _ dX6_meet_141 rfl ?_
                refine ab_gR hG 142 _ _ _ _ 13 21 2 0 (23, 0) dX6_meet_142 (List.Mem.tail _ (List.Mem.tail _ (List.Mem.tail _ (List.Mem.tail _ (List.Mem.tail _ (List.Mem.head _)))))) rfl ?_
                refine ab_iload' hG 145 _ _ _ _ 5 _ dX6_meet_145 rfl ?_
                refine ab_iaload' hG 147 _ _ _ _ 23 0 336 _ dX6_meet_147 rfl h.1 ?_
                have h := h.2
                refine ab_aload_n' hG 148 _ _ _ _ 0 _ dX6_meet_148 rfl ?_
                refine ab_gR hG 149 _ _ _ _ 7 21 1 0 (22, 0) dX6_meet_149 (List.Mem.tail _ (List.Mem.tail _ (List.Mem.tail _ (List.Mem.head _)))) rfl ?_
                refine ab_iload' hG 152 _ _ _ _ 6 _ dX6_meet_152 rfl ?_
                refine ab_baload' hG 154 _ _ _ _ 22 0 336 _ dX6_meet_154 rfl h.1 ?_
                have h := h.2
                refine ab_aload_n' hG 155 _ _ _ _ 0 _ dX6_meet_155 rfl ?_
                refine ab_gR hG 156 _ _ _ _ 13 21 2 0 (23, 0) dX6_meet_156 (List.Mem.tail _ (List.Mem.tail _ (List.Mem.tail _ (List.Mem.tail _ (List.Mem.tail _ (List.Mem.head _)))))) rfl ?_
                refine ab_iload' hG 159 _ _ _ _ 6 _ dX6_meet_159 rfl ?_
                refine ab_iaload' hG 161 _ _ _ _ 23 0 336 _ dX6_meet_161 rfl h.1 ?_
                have h := h.2
                exact ab_invs' hG 162 [some (.inr (21, 0)), some (.inl x1), some (.inl x2), some (.inl x3), some (.inl x4), some (.inl x5), some (.inl x6), some (.inl xs0), some (.inl x5), some (.inl 1)] [(.inl ((ab_su (ab_su S 30 0 x1.toNatClampNeg (vp_nar .boolean 1)) 31 0 x1.toNatClampNeg 1) 23 0 x4.toNatClampNeg)), (.inl ((ab_su (ab_su S 30 0 x1.toNatClampNeg (vp_nar .boolean 1)) 31 0 x1.toNatClampNeg 1) 23 0 x5.toNatClampNeg)), (.inl ((ab_su (ab_su S 30 0 x1.toNatClampNeg (vp_nar .boolean 1)) 31 0 x1.toNatClampNeg 1) 22 0 x6.toNatClampNeg)), (.inl ((ab_su (ab_su S 30 0 x1.toNatClampNeg (vp_nar .boolean 1)) 31 0 x1.toNatClampNeg 1) 23 0 x6.toNatClampNeg))] [(.inl x1), (.inr (32, 0))] (ab_su (ab_su S 30 0 x1.toNatClampNeg (vp_nar .boolean 1)) 31 0 x1.toNatClampNeg 1) 0 137 _ 4 1 0 _ dX6_meet_162 rfl rfl (by decide) (by decide) h
        · have h := h.2 hc
          refine ab_iload' hG 88 _ _ _ _ 4 _ dX6_meet_88 rfl ?_
          refine ab_goto' hG 90 _ _ _ _ (5) 95 dX6_meet_90 (by decide) ?_
          refine ab_istore' hG 95 _ _ _ _ 8 _ dX6_meet_95 (by decide) ?_
          refine ab_aload_n' hG 97 _ _ _ _ 0 _ dX6_meet_97 rfl ?_
          refine ab_gR hG 98 _ _ _ _ 7 21 1 0 (22, 0) dX6_meet_98 (List.Mem.tail _ (List.Mem.tail _ (List.Mem.tail _ (List.Mem.head _)))) rfl ?_
          refine ab_iload' hG 101 _ _ _ _ 4 _ dX6_meet_101 rfl ?_
          refine ab_baload' hG 103 _ _ _ _ 22 0 336 _ dX6_meet_103 rfl h.1 ?_
          have h := h.2
          refine ab_if_eq' hG 104 _ _ _ _ (17) 121 _ dX6_meet_104 (by decide) (fun hc => ?_) (fun hc => ?_)
          · have h := h.1 hc
            refine ab_iconst' hG 121 _ _ _ _ 0 0 dX6_meet_121 (by decide) ?_
            refine ab_istore' hG 122 _ _ _ _ 9 _ dX6_meet_122 (by decide) ?_
            refine ab_aload_n' hG 124 _ _ _ _ 0 _ dX6_meet_124 rfl ?_
            refine ab_gR hG 125 _ _ _ _ 51 21 16 0 (32, 0) dX6_meet_125 (List.Mem.tail _ (List.Mem.tail _ (List.Mem.tail _ (List.Mem.tail _ (List.Mem.head _))))) rfl ?_
            refine ab_iload_n' hG 128 _ _ _ _ 1 _ dX6_meet_128 rfl ?_
            refine ab_iload' hG 129 _ _ _ _ 9 _ dX6_meet_129 rfl ?_
            refine ab_if_eq' hG 131 _ _ _ _ (37) 168 _ dX6_meet_131 (by decide) (fun hc => ?_) (fun hc => ?_)
            · have h := h.1 hc
              refine ab_aload_n' hG 168 _ _ _ _ 0 _ dX6_meet_168 rfl ?_
              refine ab_gR hG 169 _ _ _ _ 13 21 2 0 (23, 0) dX6_meet_169 (List.Mem.tail _ (List.Mem.tail _ (List.Mem.tail _ (List.Mem.tail _ (List.Mem.tail _ (List.Mem.head _)))))) rfl ?_
              refine ab_iload' hG 172 _ _ _ _ 8 _ dX6_meet_172 rfl ?_
              refine ab_iaload' hG 174 _ _ _ _ 23 0 336 _ dX6_meet_174 rfl h.1 ?_
              have h := h.2
              refine ab_iastore' hG 175 _ _ _ _ 32 0 24 _ _ dX6_meet_175 rfl h.1 ?_
              have h := h.2
              refine ab_aload_n' hG 176 _ _ _ _ 0 _ dX6_meet_176 rfl ?_
              refine ab_gR hG 177 _ _ _ _ 54 21 17 0 (33, 0) dX6_meet_177 (List.Mem.tail _ (List.Mem.tail _ (List.Mem.tail _ (List.Mem.tail _ (List.Mem.tail _ (List.Mem.tail _ (List.Mem.head _))))))) rfl ?_
              refine ab_iload_n' hG 180 _ _ _ _ 1 _ dX6_meet_180 rfl ?_
              refine ab_iload' hG 181 _ _ _ _ 9 _ dX6_meet_181 rfl ?_
              refine ab_if_eq' hG 183 _ _ _ _ (37) 220 _ dX6_meet_183 (by decide) (fun hc => ?_) (fun hc => ?_)
              · have h := h.1 hc
                refine ab_aload_n' hG 220 _ _ _ _ 0 _ dX6_meet_220 rfl ?_
                refine ab_gR hG 221 _ _ _ _ 17 21 3 0 (24, 0) dX6_meet_221 (List.Mem.tail _ (List.Mem.tail _ (List.Mem.tail _ (List.Mem.tail _ (List.Mem.tail _ (List.Mem.tail _ (List.Mem.tail _ (List.Mem.head _)))))))) rfl ?_
                refine ab_iload' hG 224 _ _ _ _ 8 _ dX6_meet_224 rfl ?_
                refine ab_iaload' hG 226 _ _ _ _ 24 0 336 _ dX6_meet_226 rfl h.1 ?_
                have h := h.2
                refine ab_iastore' hG 227 _ _ _ _ 33 0 24 _ _ dX6_meet_227 rfl h.1 ?_
                have h := h.2
                refine ab_aload_n' hG 228 _ _ _ _ 0 _ dX6_meet_228 rfl ?_
                refine ab_gR hG 229 _ _ _ _ 48 21 15 0 (31, 0) dX6_meet_229 (List.Mem.tail _ (List.Mem.tail _ (List.Mem.head _))) rfl ?_
                refine ab_iload_n' hG 232 _ _ _ _ 1 _ dX6_meet_232 rfl ?_
                refine ab_iaload' hG 233 _ _ _ _ 31 0 24 _ dX6_meet_233 rfl h.1 ?_
                have h := h.2
                refine ab_if_ne' hG 234 _ _ _ _ (40) 274 _ dX6_meet_234 (by decide) (fun hc => ?_) (fun hc => ?_)
                · have h := h.2 hc
                  exact ab_return_' hG 274 _ _ _ dX6_meet_274 rfl (by decide) h
                · have h := h.1 hc
                  refine ab_aload_n' hG 237 _ _ _ _ 0 _ dX6_meet_237 rfl ?_
                  refine ab_gR hG 238 _ _ _ _ 48 21 15 0 (31, 0) dX6_meet_238 (List.Mem.tail _ (List.Mem.tail _ (List.Mem.head _))) rfl ?_
                  refine ab_iload_n' hG 241 _ _ _ _ 1 _ dX6_meet_241 rfl ?_
                  refine ab_aload_n' hG 242 _ _ _ _ 0 _ dX6_meet_242 rfl ?_
                  refine ab_gR hG 243 _ _ _ _ 51 21 16 0 (32, 0) dX6_meet_243 (List.Mem.tail _ (List.Mem.tail _ (List.Mem.tail _ (List.Mem.tail _ (List.Mem.head _))))) rfl ?_
                  refine ab_iload_n' hG 246 _ _ _ _ 1 _ dX6_meet_246 rfl ?_
                  refine ab_iaload' hG 247 _ _ _ _ 32 0 24 _ dX6_meet_247 rfl h.1 ?_
                  have h := h.2
                  refine ab_bipush' hG 248 _ _ _ _ (-9) (-9) dX6_meet_248 (by decide) ?_
                  refine ab_icmp_ne' hG 250 _ _ _ _ (7) 257 _ _ dX6_meet_250 (by decide) (fun hc => ?_) (fun hc => ?_)
                  · have h := h.2 hc
                    refine ab_aload_n' hG 257 _ _ _ _ 0 _ dX6_meet_257 rfl ?_
                    refine ab_gR hG 258 _ _ _ _ 54 21 17 0 (33, 0) dX6_meet_258 (List.Mem.tail _ (List.Mem.tail _ (List.Mem.tail _ (List.Mem.tail _ (List.Mem.tail _ (List.Mem.tail _ (List.Mem.head _))))))) rfl ?_
                    refine ab_iload_n' hG 261 _ _ _ _ 1 _ dX6_meet_261 rfl ?_
                    refine ab_iaload' hG 262 _ _ _ _ 33 0 24 _ dX6_meet_262 rfl h.1 ?_
                    have h := h.2
                    refine ab_bipush' hG 263 _ _ _ _ (-9) (-9) dX6_meet_263 (by decide) ?_
                    refine ab_icmp_ne' hG 265 _ _ _ _ (7) 272 _ _ dX6_meet_265 (by decide) (fun hc => ?_) (fun hc => ?_)
                    · have h := h.2 hc
                      refine ab_iconst' hG 272 _ _ _ _ 0 0 dX6_meet_272 (by decide) ?_
                      refine ab_iastore' hG 273 _ _ _ _ 31 0 24 _ _ dX6_meet_273 rfl h.1 ?_
                      have h := h.2
                      exact ab_return_' hG 274 _ _ _ dX6_meet_274 rfl (by decide) h
                    · have h := h.1 hc
                      refine ab_iconst' hG 268 _ _ _ _ 3 3 dX6_meet_268 (by decide) ?_
                      refine ab_goto' hG 269 _ _ _ _ (4) 273 dX6_meet_269 (by decide) ?_
                      refine ab_iastore' hG 273 _ _ _ _ 31 0 24 _ _ dX6_meet_273 rfl h.1 ?_
                      have h := h.2
                      exact ab_return_' hG 274 _ _ _ dX6_meet_274 rfl (by decide) h
                  · have h := h.1 hc
                    refine ab_iconst' hG 253 _ _ _ _ 2 2 dX6_meet_253 (by decide) ?_
                    refine ab_goto' hG 254 _ _ _ _ (19) 273 dX6_meet_254 (by decide) ?_
                    refine ab_iastore' hG 273 _ _ _ _ 31 0 24 _ _ dX6_meet_273 rfl h.1 ?_
                    have h := h.2
                    exact ab_return_' hG 274 _ _ _ dX6_meet_274 rfl (by decide) h
              · have h := h.2 hc
                refine ab_aload_n' hG 186 _ _ _ _ 0 _ dX6_meet_186 rfl ?_
                refine ab_gR hG 187 _ _ _ _ 17 21 3 0 (24, 0) dX6_meet_187 (List.Mem.tail _ (List.Mem.tail _ (List.Mem.tail _ (List.Mem.tail _ (List.Mem.tail _ (List.Mem.tail _ (List.Mem.tail _ (List.Mem.head _)))))))) rfl ?_
                refine ab_iload' hG 190 _ _ _ _ 4 _ dX6_meet_190 rfl ?_
                refine ab_iaload' hG 192 _ _ _ _ 24 0 336 _ dX6_meet_192 rfl h.1 ?_
                have h := h.2
                refine ab_aload_n' hG 193 _ _ _ _ 0 _ dX6_meet_193 rfl ?_
                refine ab_gR hG 194 _ _ _ _ 17 21 3 0 (24, 0) dX6_meet_194 (List.Mem.tail _ (List.Mem.tail _ (List.Mem.tail _ (List.Mem.tail _ (List.Mem.tail _ (List.Mem.tail _ (List.Mem.tail _ (List.Mem.head _)))))))) rfl ?_
                refine ab_iload' hG 197 _ _ _ _ 5 _ dX6_meet_197 rfl ?_
                refine ab_iaload' hG 199 _ _ _ _ 24 0 336 _ dX6_meet_199 rfl h.1 ?_
                have h := h.2
                refine ab_aload_n' hG 200 _ _ _ _ 0 _ dX6_meet_200 rfl ?_
                refine ab_gR hG 201 _ _ _ _ 7 21 1 0 (22, 0) dX6_meet_201 (List.Mem.tail _ (List.Mem.tail _ (List.Mem.tail _ (List.Mem.head _)))) rfl ?_
                refine ab_iload' hG 204 _ _ _ _ 6 _ dX6_meet_204 rfl ?_
                refine ab_baload' hG 206 _ _ _ _ 22 0 336 _ dX6_meet_206 rfl h.1 ?_
                have h := h.2
                refine ab_aload_n' hG 207 _ _ _ _ 0 _ dX6_meet_207 rfl ?_
                refine ab_gR hG 208 _ _ _ _ 17 21 3 0 (24, 0) dX6_meet_208 (List.Mem.tail _ (List.Mem.tail _ (List.Mem.tail _ (List.Mem.tail _ (List.Mem.tail _ (List.Mem.tail _ (List.Mem.tail _ (List.Mem.head _)))))))) rfl ?_
                refine ab_iload' hG 211 _ _ _ _ 6 _ dX6_meet_211 rfl ?_
                refine ab_iaload' hG 213 _ _ _ _ 24 0 336 _ dX6_meet_213 rfl h.1 ?_
                have h := h.2
                exact ab_invs' hG 214 [some (.inr (21, 0)), some (.inl x1), some (.inl x2), some (.inl x3), some (.inl x4), some (.inl x5), some (.inl x6), some (.inl xs0), some (.inl x4), some (.inl 0)] [(.inl ((ab_su (ab_su (ab_su S 30 0 x1.toNatClampNeg (vp_nar .boolean 1)) 31 0 x1.toNatClampNeg 1) 32 0 x1.toNatClampNeg ((ab_su (ab_su S 30 0 x1.toNatClampNeg (vp_nar .boolean 1)) 31 0 x1.toNatClampNeg 1) 23 0 x4.toNatClampNeg)) 24 0 x4.toNatClampNeg)), (.inl ((ab_su (ab_su (ab_su S 30 0 x1.toNatClampNeg (vp_nar .boolean 1)) 31 0 x1.toNatClampNeg 1) 32 0 x1.toNatClampNeg ((ab_su (ab_su S 30 0 x1.toNatClampNeg (vp_nar .boolean 1)) 31 0 x1.toNatClampNeg 1) 23 0 x4.toNatClampNeg)) 24 0 x5.toNatClampNeg)), (.inl ((ab_su (ab_su (ab_su S 30 0 x1.toNatClampNeg (vp_nar .boolean 1)) 31 0 x1.toNatClampNeg 1) 32 0 x1.toNatClampNeg ((ab_su (ab_su S 30 0 x1.toNatClampNeg (vp_nar .boolean 1)) 31 0 x1.toNatClampNeg 1) 23 0 x4.toNatClampNeg)) 22 0 x6.toNatClampNeg)), (.inl ((ab_su (ab_su (ab_su S 30 0 x1.toNatClampNeg (vp_nar .boolean 1)) 31 0 x1.toNatClampNeg 1) 32 0 x1.toNatClampNeg ((ab_su (ab_su S 30 0 x1.toNatClampNeg (vp_nar .boolean 1)) 31 0 x1.toNatClampNeg 1) 23 0 x4.toNatClampNeg)) 24 0 x6.toNatClampNeg))] [(.inl x1), (.inr (33, 0))] (ab_su (ab_su (ab_su S 30 0 x1.toNatClampNeg (vp_nar .boolean 1)) 31 0 x1.toNatClampNeg 1) 32 0 x1.toNatClampNeg ((ab_su (ab_su S 30 0 x1.toNatClampNeg (vp_nar .boolean 1)) 31 0 x1.toNatClampNeg 1) 23 0 x4.toNatClampNeg)) 0 137 _ 4 1 0 _ dX6_meet_214 rfl rfl (by decide) (by decide) h
            · have h := h.2 hc
              refine ab_aload_n' hG 134 _ _ _ _ 0 _ dX6_meet_134 rfl ?_
              refine ab_gR hG 135 _ _ _ _ 13 21 2 0 (23, 0) dX6_meet_135 (List.Mem.tail _ (List.Mem.tail _ (List.Mem.tail _ (List.Mem.tail _ (List.Mem.tail _ (List.Mem.head _)))))) rfl ?_
              refine ab_iload' hG 138 _ _ _ _ 4 _ dX6_meet_138 rfl ?_
              refine ab_iaload' hG 140 _ _ _ _ 23 0 336 _ dX6_meet_140 rfl h.1 ?_
              have h := h.2
              refine ab_aload_n' hG 141 _ _ _ _ 0 _ dX6_meet_141 rfl ?_
              refine ab_gR hG 142 _ _ _ _ 13 21 2 0 (23, 0) dX6_meet_142 (List.Mem.tail _ (List.Mem.tail _ (List.Mem.tail _ (List.Mem.tail _ (List.Mem.tail _ (List.Mem.head _)))))) rfl ?_
              refine ab_iload' hG 145 _ _ _ _ 5 _ dX6_meet_145 rfl ?_
              refine ab_iaload' hG 147 _ _ _ _ 23 0 336 _ dX6_meet_147 rfl h.1 ?_
              have h := h.2
              refine ab_aload_n' hG 148 _ _ _ _ 0 _ dX6_meet_148 rfl ?_
              refine ab_gR hG 149 _ _ _ _ 7 21 1 0 (22, 0) dX6_meet_149 (List.Mem.tail _ (List.Mem.tail _ (List.Mem.tail _ (List.Mem.head _)))) rfl ?_
              refine ab_iload' hG 152 _ _ _ _ 6 _ dX6_meet_152 rfl ?_
              refine ab_baload' hG 154 _ _ _ _ 22 0 336 _ dX6_meet_154 rfl h.1 ?_
              have h := h.2
              refine ab_aload_n' hG 155 _ _ _ _ 0 _ dX6_meet_155 rfl ?_
              refine ab_gR hG 156 _ _ _ _ 13 21 2 0 (23, 0) dX6_meet_156 (List.Mem.tail _ (List.Mem.tail _ (List.Mem.tail _ (List.Mem.tail _ (List.Mem.tail _ (List.Mem.head _)))))) rfl ?_
              refine ab_iload' hG 159 _ _ _ _ 6 _ dX6_meet_159 rfl ?_
              refine ab_iaload' hG 161 _ _ _ _ 23 0 336 _ dX6_meet_161 rfl h.1 ?_
              have h := h.2
              exact ab_invs' hG 162 [some (.inr (21, 0)), some (.inl x1), some (.inl x2), some (.inl x3), some (.inl x4), some (.inl x5), some (.inl x6), some (.inl xs0), some (.inl x4), some (.inl 0)] [(.inl ((ab_su (ab_su S 30 0 x1.toNatClampNeg (vp_nar .boolean 1)) 31 0 x1.toNatClampNeg 1) 23 0 x4.toNatClampNeg)), (.inl ((ab_su (ab_su S 30 0 x1.toNatClampNeg (vp_nar .boolean 1)) 31 0 x1.toNatClampNeg 1) 23 0 x5.toNatClampNeg)), (.inl ((ab_su (ab_su S 30 0 x1.toNatClampNeg (vp_nar .boolean 1)) 31 0 x1.toNatClampNeg 1) 22 0 x6.toNatClampNeg)), (.inl ((ab_su (ab_su S 30 0 x1.toNatClampNeg (vp_nar .boolean 1)) 31 0 x1.toNatClampNeg 1) 23 0 x6.toNatClampNeg))] [(.inl x1), (.inr (32, 0))] (ab_su (ab_su S 30 0 x1.toNatClampNeg (vp_nar .boolean 1)) 31 0 x1.toNatClampNeg 1) 0 137 _ 4 1 0 _ dX6_meet_162 rfl rfl (by decide) (by decide) h
          · have h := h.2 hc
            refine ab_aload_n' hG 107 _ _ _ _ 0 _ dX6_meet_107 rfl ?_
            refine ab_gR hG 108 _ _ _ _ 7 21 1 0 (22, 0) dX6_meet_108 (List.Mem.tail _ (List.Mem.tail _ (List.Mem.tail _ (List.Mem.head _)))) rfl ?_
            refine ab_iload' hG 111 _ _ _ _ 5 _ dX6_meet_111 rfl ?_
            refine ab_baload' hG 113 _ _ _ _ 22 0 336 _ dX6_meet_113 rfl h.1 ?_
            have h := h.2
            refine ab_if_eq' hG 114 _ _ _ _ (7) 121 _ dX6_meet_114 (by decide) (fun hc => ?_) (fun hc => ?_)
            · have h := h.1 hc
              refine ab_iconst' hG 121 _ _ _ _ 0 0 dX6_meet_121 (by decide) ?_
              refine ab_istore' hG 122 _ _ _ _ 9 _ dX6_meet_122 (by decide) ?_
              refine ab_aload_n' hG 124 _ _ _ _ 0 _ dX6_meet_124 rfl ?_
              refine ab_gR hG 125 _ _ _ _ 51 21 16 0 (32, 0) dX6_meet_125 (List.Mem.tail _ (List.Mem.tail _ (List.Mem.tail _ (List.Mem.tail _ (List.Mem.head _))))) rfl ?_
              refine ab_iload_n' hG 128 _ _ _ _ 1 _ dX6_meet_128 rfl ?_
              refine ab_iload' hG 129 _ _ _ _ 9 _ dX6_meet_129 rfl ?_
              refine ab_if_eq' hG 131 _ _ _ _ (37) 168 _ dX6_meet_131 (by decide) (fun hc => ?_) (fun hc => ?_)
              · have h := h.1 hc
                refine ab_aload_n' hG 168 _ _ _ _ 0 _ dX6_meet_168 rfl ?_
                refine ab_gR hG 169 _ _ _ _ 13 21 2 0 (23, 0) dX6_meet_169 (List.Mem.tail _ (List.Mem.tail _ (List.Mem.tail _ (List.Mem.tail _ (List.Mem.tail _ (List.Mem.head _)))))) rfl ?_
                refine ab_iload' hG 172 _ _ _ _ 8 _ dX6_meet_172 rfl ?_
                refine ab_iaload' hG 174 _ _ _ _ 23 0 336 _ dX6_meet_174 rfl h.1 ?_
                have h := h.2
                refine ab_iastore' hG 175 _ _ _ _ 32 0 24 _ _ dX6_meet_175 rfl h.1 ?_
                have h := h.2
                refine ab_aload_n' hG 176 _ _ _ _ 0 _ dX6_meet_176 rfl ?_
                refine ab_gR hG 177 _ _ _ _ 54 21 17 0 (33, 0) dX6_meet_177 (List.Mem.tail _ (List.Mem.tail _ (List.Mem.tail _ (List.Mem.tail _ (List.Mem.tail _ (List.Mem.tail _ (List.Mem.head _))))))) rfl ?_
                refine ab_iload_n' hG 180 _ _ _ _ 1 _ dX6_meet_180 rfl ?_
                refine ab_iload' hG 181 _ _ _ _ 9 _ dX6_meet_181 rfl ?_
                refine ab_if_eq' hG 183 _ _ _ _ (37) 220 _ dX6_meet_183 (by decide) (fun hc => ?_) (fun hc => ?_)
                · have h := h.1 hc
                  refine ab_aload_n' hG 220 _ _ _ _ 0 _ dX6_meet_220 rfl ?_
                  refine ab_gR hG 221 _ _ _ _ 17 21 3 0 (24, 0) dX6_meet_221 (List.Mem.tail _ (List.Mem.tail _ (List.Mem.tail _ (List.Mem.tail _ (List.Mem.tail _ (List.Mem.tail _ (List.Mem.tail _ (List.Mem.head _)))))))) rfl ?_
                  refine ab_iload' hG 224 _ _ _ _ 8 _ dX6_meet_224 rfl ?_
                  refine ab_iaload' hG 226 _ _ _ _ 24 0 336 _ dX6_meet_226 rfl h.1 ?_
                  have h := h.2
                  refine ab_iastore' hG 227 _ _ _ _ 33 0 24 _ _ dX6_meet_227 rfl h.1 ?_
                  have h := h.2
                  refine ab_aload_n' hG 228 _ _ _ _ 0 _ dX6_meet_228 rfl ?_
                  refine ab_gR hG 229 _ _ _ _ 48 21 15 0 (31, 0) dX6_meet_229 (List.Mem.tail _ (List.Mem.tail _ (List.Mem.head _))) rfl ?_
                  refine ab_iload_n' hG 232 _ _ _ _ 1 _ dX6_meet_232 rfl ?_
                  refine ab_iaload' hG 233 _ _ _ _ 31 0 24 _ dX6_meet_233 rfl h.1 ?_
                  have h := h.2
                  refine ab_if_ne' hG 234 _ _ _ _ (40) 274 _ dX6_meet_234 (by decide) (fun hc => ?_) (fun hc => ?_)
                  · have h := h.2 hc
                    exact ab_return_' hG 274 _ _ _ dX6_meet_274 rfl (by decide) h
                  · have h := h.1 hc
                    refine ab_aload_n' hG 237 _ _ _ _ 0 _ dX6_meet_237 rfl ?_
                    refine ab_gR hG 238 _ _ _ _ 48 21 15 0 (31, 0) dX6_meet_238 (List.Mem.tail _ (List.Mem.tail _ (List.Mem.head _))) rfl ?_
                    refine ab_iload_n' hG 241 _ _ _ _ 1 _ dX6_meet_241 rfl ?_
                    refine ab_aload_n' hG 242 _ _ _ _ 0 _ dX6_meet_242 rfl ?_
                    refine ab_gR hG 243 _ _ _ _ 51 21 16 0 (32, 0) dX6_meet_243 (List.Mem.tail _ (List.Mem.tail _ (List.Mem.tail _ (List.Mem.tail _ (List.Mem.head _))))) rfl ?_
                    refine ab_iload_n' hG 246 _ _ _ _ 1 _ dX6_meet_246 rfl ?_
                    refine ab_iaload' hG 247 _ _ _ _ 32 0 24 _ dX6_meet_247 rfl h.1 ?_
                    have h := h.2
                    refine ab_bipush' hG 248 _ _ _ _ (-9) (-9) dX6_meet_248 (by decide) ?_
                    refine ab_icmp_ne' hG 250 _ _ _ _ (7) 257 _ _ dX6_meet_250 (by decide) (fun hc => ?_) (fun hc => ?_)
                    · have h := h.2 hc
                      refine ab_aload_n' hG 257 _ _ _ _ 0 _ dX6_meet_257 rfl ?_
                      refine ab_gR hG 258 _ _ _ _ 54 21 17 0 (33, 0) dX6_meet_258 (List.Mem.tail _ (List.Mem.tail _ (List.Mem.tail _ (List.Mem.tail _ (List.Mem.tail _ (List.Mem.tail _ (List.Mem.head _))))))) rfl ?_
                      refine ab_iload_n' hG 261 _ _ _ _ 1 _ dX6_meet_261 rfl ?_
                      refine ab_iaload' hG 262 _ _ _ _ 33 0 24 _ dX6_meet_262 rfl h.1 ?_
                      have h := h.2
                      refine ab_bipush' hG 263 _ _ _ _ (-9) (-9) dX6_meet_263 (by decide) ?_
                      refine ab_icmp_ne' hG 265 _ _ _ _ (7) 272 _ _ dX6_meet_265 (by decide) (fun hc => ?_) (fun hc => ?_)
                      · have h := h.2 hc
                        refine ab_iconst' hG 272 _ _ _ _ 0 0 dX6_meet_272 (by decide) ?_
                        refine ab_iastore' hG 273 _ _ _ _ 31 0 24 _ _ dX6_meet_273 rfl h.1 ?_
                        have h := h.2
                        exact ab_return_' hG 274 _ _ _ dX6_meet_274 rfl (by decide) h
                      · have h := h.1 hc
                        refine ab_iconst' hG 268 _ _ _ _ 3 3 dX6_meet_268 (by decide) ?_
                        refine ab_goto' hG 269 _ _ _ _ (4) 273 dX6_meet_269 (by decide) ?_
                        refine ab_iastore' hG 273 _ _ _ _ 31 0 24 _ _ dX6_meet_273 rfl h.1 ?_
                        have h := h.2
                        exact ab_return_' hG 274 _ _ _ dX6_meet_274 rfl (by decide) h
                    · have h := h.1 hc
                      refine ab_iconst' hG 253 _ _ _ _ 2 2 dX6_meet_253 (by decide) ?_
                      refine ab_goto' hG 254 _ _ _ _ (19) 273 dX6_meet_254 (by decide) ?_
                      refine ab_iastore' hG 273 _ _ _ _ 31 0 24 _ _ dX6_meet_273 rfl h.1 ?_
                      have h := h.2
                      exact ab_return_' hG 274 _ _ _ dX6_meet_274 rfl (by decide) h
                · have h := h.2 hc
                  refine ab_aload_n' hG 186 _ _ _ _ 0 _ dX6_meet_186 rfl ?_
                  refine ab_gR hG 187 _ _ _ _ 17 21 3 0 (24, 0) dX6_meet_187 (List.Mem.tail _ (List.Mem.tail _ (List.Mem.tail _ (List.Mem.tail _ (List.Mem.tail _ (List.Mem.tail _ (List.Mem.tail _ (List.Mem.head _)))))))) rfl ?_
                  refine ab_iload' hG 190 _ _ _ _ 4 _ dX6_meet_190 rfl ?_
                  refine ab_iaload' hG 192 _ _ _ _ 24 0 336 _ dX6_meet_192 rfl h.1 ?_
                  have h := h.2
                  refine ab_aload_n' hG 193 _ _ _ _ 0 _ dX6_meet_193 rfl ?_
                  refine ab_gR hG 194 _ _ _ _ 17 21 3 0 (24, 0) dX6_meet_194 (List.Mem.tail _ (List.Mem.tail _ (List.Mem.tail _ (List.Mem.tail _ (List.Mem.tail _ (List.Mem.tail _ (List.Mem.tail _ (List.Mem.head _)))))))) rfl ?_
                  refine ab_iload' hG 197 _ _ _ _ 5 _ dX6_meet_197 rfl ?_
                  refine ab_iaload' hG 199 _ _ _ _ 24 0 336 _ dX6_meet_199 rfl h.1 ?_
                  have h := h.2
                  refine ab_aload_n' hG 200 _ _ _ _ 0 _ dX6_meet_200 rfl ?_
                  refine ab_gR hG 201 _ _ _ _ 7 21 1 0 (22, 0) dX6_meet_201 (List.Mem.tail _ (List.Mem.tail _ (List.Mem.tail _ (List.Mem.head _)))) rfl ?_
                  refine ab_iload' hG 204 _ _ _ _ 6 _ dX6_meet_204 rfl ?_
                  refine ab_baload' hG 206 _ _ _ _ 22 0 336 _ dX6_meet_206 rfl h.1 ?_
                  have h := h.2
                  refine ab_aload_n' hG 207 _ _ _ _ 0 _ dX6_meet_207 rfl ?_
                  refine ab_gR hG 208 _ _ _ _ 17 21 3 0 (24, 0) dX6_meet_208 (List.Mem.tail _ (List.Mem.tail _ (List.Mem.tail _ (List.Mem.tail _ (List.Mem.tail _ (List.Mem.tail _ (List.Mem.tail _ (List.Mem.head _)))))))) rfl ?_
                  refine ab_iload' hG 211 _ _ _ _ 6 _ dX6_meet_211 rfl ?_
                  refine ab_iaload' hG 213 _ _ _ _ 24 0 336 _ dX6_meet_213 rfl h.1 ?_
                  have h := h.2
                  exact ab_invs' hG 214 [some (.inr (21, 0)), some (.inl x1), some (.inl x2), some (.inl x3), some (.inl x4), some (.inl x5), some (.inl x6), some (.inl xs0), some (.inl x4), some (.inl 0)] [(.inl ((ab_su (ab_su (ab_su S 30 0 x1.toNatClampNeg (vp_nar .boolean 1)) 31 0 x1.toNatClampNeg 1) 32 0 x1.toNatClampNeg ((ab_su (ab_su S 30 0 x1.toNatClampNeg (vp_nar .boolean 1)) 31 0 x1.toNatClampNeg 1) 23 0 x4.toNatClampNeg)) 24 0 x4.toNatClampNeg)), (.inl ((ab_su (ab_su (ab_su S 30 0 x1.toNatClampNeg (vp_nar .boolean 1)) 31 0 x1.toNatClampNeg 1) 32 0 x1.toNatClampNeg ((ab_su (ab_su S 30 0 x1.toNatClampNeg (vp_nar .boolean 1)) 31 0 x1.toNatClampNeg 1) 23 0 x4.toNatClampNeg)) 24 0 x5.toNatClampNeg)), (.inl ((ab_su (ab_su (ab_su S 30 0 x1.toNatClampNeg (vp_nar .boolean 1)) 31 0 x1.toNatClampNeg 1) 32 0 x1.toNatClampNeg ((ab_su (ab_su S 30 0 x1.toNatClampNeg (vp_nar .boolean 1)) 31 0 x1.toNatClampNeg 1) 23 0 x4.toNatClampNeg)) 22 0 x6.toNatClampNeg)), (.inl ((ab_su (ab_su (ab_su S 30 0 x1.toNatClampNeg (vp_nar .boolean 1)) 31 0 x1.toNatClampNeg 1) 32 0 x1.toNatClampNeg ((ab_su (ab_su S 30 0 x1.toNatClampNeg (vp_nar .boolean 1)) 31 0 x1.toNatClampNeg 1) 23 0 x4.toNatClampNeg)) 24 0 x6.toNatClampNeg))] [(.inl x1), (.inr (33, 0))] (ab_su (ab_su (ab_su S 30 0 x1.toNatClampNeg (vp_nar .boolean 1)) 31 0 x1.toNatClampNeg 1) 32 0 x1.toNatClampNeg ((ab_su (ab_su S 30 0 x1.toNatClampNeg (vp_nar .boolean 1)) 31 0 x1.toNatClampNeg 1) 23 0 x4.toNatClampNeg)) 0 137 _ 4 1 0 _ dX6_meet_214 rfl rfl (by decide) (by decide) h
              · have h := h.2 hc
                refine ab_aload_n' hG 134 _ _ _ _ 0 _ dX6_meet_134 rfl ?_
                refine ab_gR hG 135 _ _ _ _ 13 21 2 0 (23, 0) dX6_meet_135 (List.Mem.tail _ (List.Mem.tail _ (List.Mem.tail _ (List.Mem.tail _ (List.Mem.tail _ (List.Mem.head _)))))) rfl ?_
                refine ab_iload' hG 138 _ _ _ _ 4 _ dX6_meet_138 rfl ?_
                refine ab_iaload' hG 140 _ _ _ _ 23 0 336 _ dX6_meet_140 rfl h.1 ?_
                have h := h.2
                refine ab_aload_n' hG 141 _ _ _ _ 0 _ dX6_meet_141 rfl ?_
                refine ab_gR hG 142 _ _ _ _ 13 21 2 0 (23, 0) dX6_meet_142 (List.Mem.tail _ (List.Mem.tail _ (List.Mem.tail _ (List.Mem.tail _ (List.Mem.tail _ (List.Mem.head _)))))) rfl ?_
                refine ab_iload' hG 145 _ _ _ _ 5 _ dX6_meet_145 rfl ?_
                refine ab_iaload' hG 147 _ _ _ _ 23 0 336 _ dX6_meet_147 rfl h.1 ?_
                have h := h.2
                refine ab_aload_n' hG 148 _ _ _ _ 0 _ dX6_meet_148 rfl ?_
                refine ab_gR hG 149 _ _ _ _ 7 21 1 0 (22, 0) dX6_meet_149 (List.Mem.tail _ (List.Mem.tail _ (List.Mem.tail _ (List.Mem.head _)))) rfl ?_
                refine ab_iload' hG 152 _ _ _ _ 6 _ dX6_meet_152 rfl ?_
                refine ab_baload' hG 154 _ _ _ _ 22 0 336 _ dX6_meet_154 rfl h.1 ?_
                have h := h.2
                refine ab_aload_n' hG 155 _ _ _ _ 0 _ dX6_meet_155 rfl ?_
                refine ab_gR hG 156 _ _ _ _ 13 21 2 0 (23, 0) dX6_meet_156 (List.Mem.tail _ (List.Mem.tail _ (List.Mem.tail _ (List.Mem.tail _ (List.Mem.tail _ (List.Mem.head _)))))) rfl ?_
                refine ab_iload' hG 159 _ _ _ _ 6 _ dX6_meet_159 rfl ?_
                refine ab_iaload' hG 161 _ _ _ _ 23 0 336 _ dX6_meet_161 rfl h.1 ?_
                have h := h.2
                exact ab_invs' hG 162 [some (.inr (21, 0)), some (.inl x1), some (.inl x2), some (.inl x3), some (.inl x4), some (.inl x5), some (.inl x6), some (.inl xs0), some (.inl x4), some (.inl 0)] [(.inl ((ab_su (ab_su S 30 0 x1.toNatClampNeg (vp_nar .boolean 1)) 31 0 x1.toNatClampNeg 1) 23 0 x4.toNatClampNeg)), (.inl ((ab_su (ab_su S 30 0 x1.toNatClampNeg (vp_nar .boolean 1)) 31 0 x1.toNatClampNeg 1) 23 0 x5.toNatClampNeg)), (.inl ((ab_su (ab_su S 30 0 x1.toNatClampNeg (vp_nar .boolean 1)) 31 0 x1.toNatClampNeg 1) 22 0 x6.toNatClampNeg)), (.inl ((ab_su (ab_su S 30 0 x1.toNatClampNeg (vp_nar .boolean 1)) 31 0 x1.toNatClampNeg 1) 23 0 x6.toNatClampNeg))] [(.inl x1), (.inr (32, 0))] (ab_su (ab_su S 30 0 x1.toNatClampNeg (vp_nar .boolean 1)) 31 0 x1.toNatClampNeg 1) 0 137 _ 4 1 0 _ dX6_meet_162 rfl rfl (by decide) (by decide) h
            · have h := h.2 hc
              refine ab_iconst' hG 117 _ _ _ _ 1 1 dX6_meet_117 (by decide) ?_
              refine ab_goto' hG 118 _ _ _ _ (4) 122 dX6_meet_118 (by decide) ?_
              refine ab_istore' hG 122 _ _ _ _ 9 _ dX6_meet_122 (by decide) ?_
              refine ab_aload_n' hG 124 _ _ _ _ 0 _ dX6_meet_124 rfl ?_
              refine ab_gR hG 125 _ _ _ _ 51 21 16 0 (32, 0) dX6_meet_125 (List.Mem.tail _ (List.Mem.tail _ (List.Mem.tail _ (List.Mem.tail _ (List.Mem.head _))))) rfl ?_
              refine ab_iload_n' hG 128 _ _ _ _ 1 _ dX6_meet_128 rfl ?_
              refine ab_iload' hG 129 _ _ _ _ 9 _ dX6_meet_129 rfl ?_
              refine ab_if_eq' hG 131 _ _ _ _ (37) 168 _ dX6_meet_131 (by decide) (fun hc => ?_) (fun hc => ?_)
              · have h := h.1 hc
                refine ab_aload_n' hG 168 _ _ _ _ 0 _ dX6_meet_168 rfl ?_
                refine ab_gR hG 169 _ _ _ _ 13 21 2 0 (23, 0) dX6_meet_169 (List.Mem.tail _ (List.Mem.tail _ (List.Mem.tail _ (List.Mem.tail _ (List.Mem.tail _ (List.Mem.head _)))))) rfl ?_
                refine ab_iload' hG 172 _ _ _ _ 8 _ dX6_meet_172 rfl ?_
                refine ab_iaload' hG 174 _ _ _ _ 23 0 336 _ dX6_meet_174 rfl h.1 ?_
                have h := h.2
                refine ab_iastore' hG 175 _ _ _ _ 32 0 24 _ _ dX6_meet_175 rfl h.1 ?_
                have h := h.2
                refine ab_aload_n' hG 176 _ _ _ _ 0 _ dX6_meet_176 rfl ?_
                refine ab_gR hG 177 _ _ _ _ 54 21 17 0 (33, 0) dX6_meet_177 (List.Mem.tail _ (List.Mem.tail _ (List.Mem.tail _ (List.Mem.tail _ (List.Mem.tail _ (List.Mem.tail _ (List.Mem.head _))))))) rfl ?_
                refine ab_iload_n' hG 180 _ _ _ _ 1 _ dX6_meet_180 rfl ?_
                refine ab_iload' hG 181 _ _ _ _ 9 _ dX6_meet_181 rfl ?_
                refine ab_if_eq' hG 183 _ _ _ _ (37) 220 _ dX6_meet_183 (by decide) (fun hc => ?_) (fun hc => ?_)
                · have h := h.1 hc
                  refine ab_aload_n' hG 220 _ _ _ _ 0 _ dX6_meet_220 rfl ?_
                  refine ab_gR hG 221 _ _ _ _ 17 21 3 0 (24, 0) dX6_meet_221 (List.Mem.tail _ (List.Mem.tail _ (List.Mem.tail _ (List.Mem.tail _ (List.Mem.tail _ (List.Mem.tail _ (List.Mem.tail _ (List.Mem.head _)))))))) rfl ?_
                  refine ab_iload' hG 224 _ _ _ _ 8 _ dX6_meet_224 rfl ?_
                  refine ab_iaload' hG 226 _ _ _ _ 24 0 336 _ dX6_meet_226 rfl h.1 ?_
                  have h := h.2
                  refine ab_iastore' hG 227 _ _ _ _ 33 0 24 _ _ dX6_meet_227 rfl h.1 ?_
                  have h := h.2
                  refine ab_aload_n' hG 228 _ _ _ _ 0 _ dX6_meet_228 rfl ?_
                  refine ab_gR hG 229 _ _ _ _ 48 21 15 0 (31, 0) dX6_meet_229 (List.Mem.tail _ (List.Mem.tail _ (List.Mem.head _))) rfl ?_
                  refine ab_iload_n' hG 232 _ _ _ _ 1 _ dX6_meet_232 rfl ?_
                  refine ab_iaload' hG 233 _ _ _ _ 31 0 24 _ dX6_meet_233 rfl h.1 ?_
                  have h := h.2
                  refine ab_if_ne' hG 234 _ _ _ _ (40) 274 _ dX6_meet_234 (by decide) (fun hc => ?_) (fun hc => ?_)
                  · have h := h.2 hc
                    exact ab_return_' hG 274 _ _ _ dX6_meet_274 rfl (by decide) h
                  · have h := h.1 hc
                    refine ab_aload_n' hG 237 _ _ _ _ 0 _ dX6_meet_237 rfl ?_
                    refine ab_gR hG 238 _ _ _ _ 48 21 15 0 (31, 0) dX6_meet_238 (List.Mem.tail _ (List.Mem.tail _ (List.Mem.head _))) rfl ?_
                    refine ab_iload_n' hG 241 _ _ _ _ 1 _ dX6_meet_241 rfl ?_
                    refine ab_aload_n' hG 242 _ _ _ _ 0 _ dX6_meet_242 rfl ?_
                    refine ab_gR hG 243 _ _ _ _ 51 21 16 0 (32, 0) dX6_meet_243 (List.Mem.tail _ (List.Mem.tail _ (List.Mem.tail _ (List.Mem.tail _ (List.Mem.head _))))) rfl ?_
                    refine ab_iload_n' hG 246 _ _ _ _ 1 _ dX6_meet_246 rfl ?_
                    refine ab_iaload' hG 247 _ _ _ _ 32 0 24 _ dX6_meet_247 rfl h.1 ?_
                    have h := h.2
                    refine ab_bipush' hG 248 _ _ _ _ (-9) (-9) dX6_meet_248 (by decide) ?_
                    refine ab_icmp_ne' hG 250 _ _ _ _ (7) 257 _ _ dX6_meet_250 (by decide) (fun hc => ?_) (fun hc => ?_)
                    · have h := h.2 hc
                      refine ab_aload_n' hG 257 _ _ _ _ 0 _ dX6_meet_257 rfl ?_
                      refine ab_gR hG 258 _ _ _ _ 54 21 17 0 (33, 0) dX6_meet_258 (List.Mem.tail _ (List.Mem.tail _ (List.Mem.tail _ (List.Mem.tail _ (List.Mem.tail _ (List.Mem.tail _ (List.Mem.head _))))))) rfl ?_
                      refine ab_iload_n' hG 261 _ _ _ _ 1 _ dX6_meet_261 rfl ?_
                      refine ab_iaload' hG 262 _ _ _ _ 33 0 24 _ dX6_meet_262 rfl h.1 ?_
                      have h := h.2
                      refine ab_bipush' hG 263 _ _ _ _ (-9) (-9) dX6_meet_263 (by decide) ?_
                      refine ab_icmp_ne' hG 265 _ _ _ _ (7) 272 _ _ dX6_meet_265 (by decide) (fun hc => ?_) (fun hc => ?_)
                      · have h := h.2 hc
                        refine ab_iconst' hG 272 _ _ _ _ 0 0 dX6_meet_272 (by decide) ?_
                        refine ab_iastore' hG 273 _ _ _ _ 31 0 24 _ _ dX6_meet_273 rfl h.1 ?_
                        have h := h.2
                        exact ab_return_' hG 274 _ _ _ dX6_meet_274 rfl (by decide) h
                      · have h := h.1 hc
                        refine ab_iconst' hG 268 _ _ _ _ 3 3 dX6_meet_268 (by decide) ?_
                        refine ab_goto' hG 269 _ _ _ _ (4) 273 dX6_meet_269 (by decide) ?_
                        refine ab_iastore' hG 273 _ _ _ _ 31 0 24 _ _ dX6_meet_273 rfl h.1 ?_
                        have h := h.2
                        exact ab_return_' hG 274 _ _ _ dX6_meet_274 rfl (by decide) h
                    · have h := h.1 hc
                      refine ab_iconst' hG 253 _ _ _ _ 2 2 dX6_meet_253 (by decide) ?_
                      refine ab_goto' hG 254 _ _ _ _ (19) 273 dX6_meet_254 (by decide) ?_
                      refine ab_iastore' hG 273 _ _ _ _ 31 0 24 _ _ dX6_meet_273 rfl h.1 ?_
                      have h := h.2
                      exact ab_return_' hG 274 _ _ _ dX6_meet_274 rfl (by decide) h
                · have h := h.2 hc
                  refine ab_aload_n' hG 186 _ _ _ _ 0 _ dX6_meet_186 rfl ?_
                  refine ab_gR hG 187 _ _ _ _ 17 21 3 0 (24, 0) dX6_meet_187 (List.Mem.tail _ (List.Mem.tail _ (List.Mem.tail _ (List.Mem.tail _ (List.Mem.tail _ (List.Mem.tail _ (List.Mem.tail _ (List.Mem.head _)))))))) rfl ?_
                  refine ab_iload' hG 190 _ _ _ _ 4 _ dX6_meet_190 rfl ?_
                  refine ab_iaload' hG 192 _ _ _ _ 24 0 336 _ dX6_meet_192 rfl h.1 ?_
                  have h := h.2
                  refine ab_aload_n' hG 193 _ _ _ _ 0 _ dX6_meet_193 rfl ?_
                  refine ab_gR hG 194 _ _ _ _ 17 21 3 0 (24, 0) dX6_meet_194 (List.Mem.tail _ (List.Mem.tail _ (List.Mem.tail _ (List.Mem.tail _ (List.Mem.tail _ (List.Mem.tail _ (List.Mem.tail _ (List.Mem.head _)))))))) rfl ?_
                  refine ab_iload' hG 197 _ _ _ _ 5 _ dX6_meet_197 rfl ?_
                  refine ab_iaload' hG 199 _ _ _ _ 24 0 336 _ dX6_meet_199 rfl h.1 ?_
                  have h := h.2
                  refine ab_aload_n' hG 200 _ _ _ _ 0 _ dX6_meet_200 rfl ?_
                  refine ab_gR hG 201 _ _ _ _ 7 21 1 0 (22, 0) dX6_meet_201 (List.Mem.tail _ (List.Mem.tail _ (List.Mem.tail _ (List.Mem.head _)))) rfl ?_
                  refine ab_iload' hG 204 _ _ _ _ 6 _ dX6_meet_204 rfl ?_
                  refine ab_baload' hG 206 _ _ _ _ 22 0 336 _ dX6_meet_206 rfl h.1 ?_
                  have h := h.2
                  refine ab_aload_n' hG 207 _ _ _ _ 0 _ dX6_meet_207 rfl ?_
                  refine ab_gR hG 208 _ _ _ _ 17 21 3 0 (24, 0) dX6_meet_208 (List.Mem.tail _ (List.Mem.tail _ (List.Mem.tail _ (List.Mem.tail _ (List.Mem.tail _ (List.Mem.tail _ (List.Mem.tail _ (List.Mem.head _)))))))) rfl ?_
                  refine ab_iload' hG 211 _ _ _ _ 6 _ dX6_meet_211 rfl ?_
                  refine ab_iaload' hG 213 _ _ _ _ 24 0 336 _ dX6_meet_213 rfl h.1 ?_
                  have h := h.2
                  exact ab_invs' hG 214 [some (.inr (21, 0)), some (.inl x1), some (.inl x2), some (.inl x3), some (.inl x4), some (.inl x5), some (.inl x6), some (.inl xs0), some (.inl x4), some (.inl 1)] [(.inl ((ab_su (ab_su (ab_su S 30 0 x1.toNatClampNeg (vp_nar .boolean 1)) 31 0 x1.toNatClampNeg 1) 32 0 x1.toNatClampNeg ((ab_su (ab_su S 30 0 x1.toNatClampNeg (vp_nar .boolean 1)) 31 0 x1.toNatClampNeg 1) 23 0 x4.toNatClampNeg)) 24 0 x4.toNatClampNeg)), (.inl ((ab_su (ab_su (ab_su S 30 0 x1.toNatClampNeg (vp_nar .boolean 1)) 31 0 x1.toNatClampNeg 1) 32 0 x1.toNatClampNeg ((ab_su (ab_su S 30 0 x1.toNatClampNeg (vp_nar .boolean 1)) 31 0 x1.toNatClampNeg 1) 23 0 x4.toNatClampNeg)) 24 0 x5.toNatClampNeg)), (.inl ((ab_su (ab_su (ab_su S 30 0 x1.toNatClampNeg (vp_nar .boolean 1)) 31 0 x1.toNatClampNeg 1) 32 0 x1.toNatClampNeg ((ab_su (ab_su S 30 0 x1.toNatClampNeg (vp_nar .boolean 1)) 31 0 x1.toNatClampNeg 1) 23 0 x4.toNatClampNeg)) 22 0 x6.toNatClampNeg)), (.inl ((ab_su (ab_su (ab_su S 30 0 x1.toNatClampNeg (vp_nar .boolean 1)) 31 0 x1.toNatClampNeg 1) 32 0 x1.toNatClampNeg ((ab_su (ab_su S 30 0 x1.toNatClampNeg (vp_nar .boolean 1)) 31 0 x1.toNatClampNeg 1) 23 0 x4.toNatClampNeg)) 24 0 x6.toNatClampNeg))] [(.inl x1), (.inr (33, 0))] (ab_su (ab_su (ab_su S 30 0 x1.toNatClampNeg (vp_nar .boolean 1)) 31 0 x1.toNatClampNeg 1) 32 0 x1.toNatClampNeg ((ab_su (ab_su S 30 0 x1.toNatClampNeg (vp_nar .boolean 1)) 31 0 x1.toNatClampNeg 1) 23 0 x4.toNatClampNeg)) 0 137 _ 4 1 0 _ dX6_meet_214 rfl rfl (by decide) (by decide) h
              · have h := h.2 hc
                refine ab_aload_n' hG 134 _ _ _ _ 0 _ dX6_meet_134 rfl ?_
                refine ab_gR hG 135 _ _ _ _ 13 21 2 0 (23, 0) dX6_meet_135 (List.Mem.tail _ (List.Mem.tail _ (List.Mem.tail _ (List.Mem.tail _ (List.Mem.tail _ (List.Mem.head _)))))) rfl ?_
                refine ab_iload' hG 138 _ _ _ _ 4 _ dX6_meet_138 rfl ?_
                refine ab_iaload' hG 140 _ _ _ _ 23 0 336 _ dX6_meet_140 rfl h.1 ?_
                have h := h.2
                refine ab_aload_n' hG 141 _ _ _ _ 0 _ dX6_meet_141 rfl ?_
                refine ab_gR hG 142 _ _ _ _ 13 21 2 0 (23, 0) dX6_meet_142 (List.Mem.tail _ (List.Mem.tail _ (List.Mem.tail _ (List.Mem.tail _ (List.Mem.tail _ (List.Mem.head _)))))) rfl ?_
                refine ab_iload' hG 145 _ _ _ _ 5 _ dX6_meet_145 rfl ?_
                refine ab_iaload' hG 147 _ _ _ _ 23 0 336 _ dX6_meet_147 rfl h.1 ?_
                have h := h.2
                refine ab_aload_n' hG 148 _ _ _ _ 0 _ dX6_meet_148 rfl ?_
                refine ab_gR hG 149 _ _ _ _ 7 21 1 0 (22, 0) dX6_meet_149 (List.Mem.tail _ (List.Mem.tail _ (List.Mem.tail _ (List.Mem.head _)))) rfl ?_
                refine ab_iload' hG 152 _ _ _ _ 6 _ dX6_meet_152 rfl ?_
                refine ab_baload' hG 154 _ _ _ _ 22 0 336 _ dX6_meet_154 rfl h.1 ?_
                have h := h.2
                refine ab_aload_n' hG 155 _ _ _ _ 0 _ dX6_meet_155 rfl ?_
                refine ab_gR hG 156 _ _ _ _ 13 21 2 0 (23, 0) dX6_meet_156 (List.Mem.tail _ (List.Mem.tail _ (List.Mem.tail _ (List.Mem.tail _ (List.Mem.tail _ (List.Mem.head _)))))) rfl ?_
                refine ab_iload' hG 159 _ _ _ _ 6 _ dX6_meet_159 rfl ?_
                refine ab_iaload' hG 161 _ _ _ _ 23 0 336 _ dX6_meet_161 rfl h.1 ?_
                have h := h.2
                exact ab_invs' hG 162 [some (.inr (21, 0)), some (.inl x1), some (.inl x2), some (.inl x3), some (.inl x4), some (.inl x5), some (.inl x6), some (.inl xs0), some (.inl x4), some (.inl 1)] [(.inl ((ab_su (ab_su S 30 0 x1.toNatClampNeg (vp_nar .boolean 1)) 31 0 x1.toNatClampNeg 1) 23 0 x4.toNatClampNeg)), (.inl ((ab_su (ab_su S 30 0 x1.toNatClampNeg (vp_nar .boolean 1)) 31 0 x1.toNatClampNeg 1) 23 0 x5.toNatClampNeg)), (.inl ((ab_su (ab_su S 30 0 x1.toNatClampNeg (vp_nar .boolean 1)) 31 0 x1.toNatClampNeg 1) 22 0 x6.toNatClampNeg)), (.inl ((ab_su (ab_su S 30 0 x1.toNatClampNeg (vp_nar .boolean 1)) 31 0 x1.toNatClampNeg 1) 23 0 x6.toNatClampNeg))] [(.inl x1), (.inr (32, 0))] (ab_su (ab_su S 30 0 x1.toNatClampNeg (vp_nar .boolean 1)) 31 0 x1.toNatClampNeg 1) 0 137 _ 4 1 0 _ dX6_meet_162 rfl rfl (by decide) (by decide) h
      · have h := h.1 hc
        exact ab_return_' hG 77 _ _ _ dX6_meet_77 rfl (by decide) h
theorem bl_X6_meet_165 {Q : ab_Po} {G : ab_Gt} (hG : ab_Cl M_X6_meet Q G) (x1 : Int32) (x2 : Int32) (x3 : Int32) (x4 : Int32) (x5 : Int32) (x6 : Int32) (x7 : Int32) (x8 : Int32) (x9 : Int32) (xs0 : Int32) (xs1 : Int32) (S : ab_S) (h : vp_in xs1 24 ∧ (x9 = 0 → vp_in x8 336 ∧ vp_in x1 24 ∧ vp_in x1 24 ∧ (((ab_su (ab_su S 32 0 xs1.toNatClampNeg xs0) 33 0 x1.toNatClampNeg ((ab_su S 32 0 xs1.toNatClampNeg xs0) 24 0 x8.toNatClampNeg)) 31 0 x1.toNatClampNeg) = 0 → vp_in x1 24 ∧ (((ab_su (ab_su S 32 0 xs1.toNatClampNeg xs0) 33 0 x1.toNatClampNeg ((ab_su S 32 0 xs1.toNatClampNeg xs0) 24 0 x8.toNatClampNeg)) 32 0 x1.toNatClampNeg) = (-9) → vp_in x1 24 ∧ Q (.inl none) (ab_su (ab_su (ab_su S 32 0 xs1.toNatClampNeg xs0) 33 0 x1.toNatClampNeg ((ab_su S 32 0 xs1.toNatClampNeg xs0) 24 0 x8.toNatClampNeg)) 31 0 x1.toNatClampNeg 2)) ∧ (¬ ((ab_su (ab_su S 32 0 xs1.toNatClampNeg xs0) 33 0 x1.toNatClampNeg ((ab_su S 32 0 xs1.toNatClampNeg xs0) 24 0 x8.toNatClampNeg)) 32 0 x1.toNatClampNeg) = (-9) → vp_in x1 24 ∧ (((ab_su (ab_su S 32 0 xs1.toNatClampNeg xs0) 33 0 x1.toNatClampNeg ((ab_su S 32 0 xs1.toNatClampNeg xs0) 24 0 x8.toNatClampNeg)) 33 0 x1.toNatClampNeg) = (-9) → vp_in x1 24 ∧ Q (.inl none) (ab_su (ab_su (ab_su S 32 0 xs1.toNatClampNeg xs0) 33 0 x1.toNatClampNeg ((ab_su S 32 0 xs1.toNatClampNeg xs0) 24 0 x8.toNatClampNeg)) 31 0 x1.toNatClampNeg 3)) ∧ (¬ ((ab_su (ab_su S 32 0 xs1.toNatClampNeg xs0) 33 0 x1.toNatClampNeg ((ab_su S 32 0 xs1.toNatClampNeg xs0) 24 0 x8.toNatClampNeg)) 33 0 x1.toNatClampNeg) = (-9) → vp_in x1 24 ∧ Q (.inl none) (ab_su (ab_su (ab_su S 32 0 xs1.toNatClampNeg xs0) 33 0 x1.toNatClampNeg ((ab_su S 32 0 xs1.toNatClampNeg xs0) 24 0 x8.toNatClampNeg)) 31 0 x1.toNatClampNeg 0)))) ∧ (¬ ((ab_su (ab_su S 32 0 xs1.toNatClampNeg xs0) 33 0 x1.toNatClampNeg ((ab_su S 32 0 xs1.toNatClampNeg xs0) 24 0 x8.toNatClampNeg)) 31 0 x1.toNatClampNeg) = 0 → Q (.inl none) (ab_su (ab_su S 32 0 xs1.toNatClampNeg xs0) 33 0 x1.toNatClampNeg ((ab_su S 32 0 xs1.toNatClampNeg xs0) 24 0 x8.toNatClampNeg)))) ∧ (¬ x9 = 0 → vp_in x4 336 ∧ vp_in x5 336 ∧ vp_in x6 336 ∧ vp_in x6 336 ∧ Sp_X6_choose [(.inl ((ab_su S 32 0 xs1.toNatClampNeg xs0) 24 0 x4.toNatClampNeg)), (.inl ((ab_su S 32 0 xs1.toNatClampNeg xs0) 24 0 x5.toNatClampNeg)), (.inl ((ab_su S 32 0 xs1.toNatClampNeg xs0) 22 0 x6.toNatClampNeg)), (.inl ((ab_su S 32 0 xs1.toNatClampNeg xs0) 24 0 x6.toNatClampNeg))] (ab_su S 32 0 xs1.toNatClampNeg xs0) (ab_back Q G 217 [some (.inr (21, 0)), some (.inl x1), some (.inl x2), some (.inl x3), some (.inl x4), some (.inl x5), some (.inl x6), some (.inl x7), some (.inl x8), some (.inl x9)] [(.inl x1), (.inr (33, 0))] 0))) : G 165 [some (.inr (21, 0)), some (.inl x1), some (.inl x2), some (.inl x3), some (.inl x4), some (.inl x5), some (.inl x6), some (.inl x7), some (.inl x8), some (.inl x9)] [(.inl xs0), (.inl xs1), (.inr (32, 0))] S 0 := by
  refine ab_goto' hG 165 _ _ _ _ (10) 175 dX6_meet_165 (by decide) ?_
  refine ab_iastore' hG 175 _ _ _ _ 32 0 24 _ _ dX6_meet_175 rfl h.1 ?_
  have h := h.2
  refine ab_aload_n' hG 176 _ _ _ _ 0 _ dX6_meet_176 rfl ?_
  refine ab_gR hG 177 _ _ _ _ 54 21 17 0 (33, 0) dX6_meet_177 (List.Mem.tail _ (List.Mem.tail _ (List.Mem.tail _ (List.Mem.tail _ (List.Mem.tail _ (List.Mem.tail _ (List.Mem.head _))))))) rfl ?_
  refine ab_iload_n' hG 180 _ _ _ _ 1 _ dX6_meet_180 rfl ?_
  refine ab_iload' hG 181 _ _ _ _ 9 _ dX6_meet_181 rfl ?_
  refine ab_if_eq' hG 183 _ _ _ _ (37) 220 _ dX6_meet_183 (by decide) (fun hc => ?_) (fun hc => ?_)
  · have h := h.1 hc
    refine ab_aload_n' hG 220 _ _ _ _ 0 _ dX6_meet_220 rfl ?_
    refine ab_gR hG 221 _ _ _ _ 17 21 3 0 (24, 0) dX6_meet_221 (List.Mem.tail _ (List.Mem.tail _ (List.Mem.tail _ (List.Mem.tail _ (List.Mem.tail _ (List.Mem.tail _ (List.Mem.tail _ (List.Mem.head _)))))))) rfl ?_
    refine ab_iload' hG 224 _ _ _ _ 8 _ dX6_meet_224 rfl ?_
    refine ab_iaload' hG 226 _ _ _ _ 24 0 336 _ dX6_meet_226 rfl h.1 ?_
    have h := h.2
    refine ab_iastore' hG 227 _ _ _ _ 33 0 24 _ _ dX6_meet_227 rfl h.1 ?_
    have h := h.2
    refine ab_aload_n' hG 228 _ _ _ _ 0 _ dX6_meet_228 rfl ?_
    refine ab_gR hG 229 _ _ _ _ 48 21 15 0 (31, 0) dX6_meet_229 (List.Mem.tail _ (List.Mem.tail _ (List.Mem.head _))) rfl ?_
    refine ab_iload_n' hG 232 _ _ _ _ 1 _ dX6_meet_232 rfl ?_
    refine ab_iaload' hG 233 _ _ _ _ 31 0 24 _ dX6_meet_233 rfl h.1 ?_
    have h := h.2
    refine ab_if_ne' hG 234 _ _ _ _ (40) 274 _ dX6_meet_234 (by decide) (fun hc => ?_) (fun hc => ?_)
    · have h := h.2 hc
      exact ab_return_' hG 274 _ _ _ dX6_meet_274 rfl (by decide) h
    · have h := h.1 hc
      refine ab_aload_n' hG 237 _ _ _ _ 0 _ dX6_meet_237 rfl ?_
      refine ab_gR hG 238 _ _ _ _ 48 21 15 0 (31, 0) dX6_meet_238 (List.Mem.tail _ (List.Mem.tail _ (List.Mem.head _))) rfl ?_
      refine ab_iload_n' hG 241 _ _ _ _ 1 _ dX6_meet_241 rfl ?_
      refine ab_aload_n' hG 242 _ _ _ _ 0 _ dX6_meet_242 rfl ?_
      refine ab_gR hG 243 _ _ _ _ 51 21 16 0 (32, 0) dX6_meet_243 (List.Mem.tail _ (List.Mem.tail _ (List.Mem.tail _ (List.Mem.tail _ (List.Mem.head _))))) rfl ?_
      refine ab_iload_n' hG 246 _ _ _ _ 1 _ dX6_meet_246 rfl ?_
      refine ab_iaload' hG 247 _ _ _ _ 32 0 24 _ dX6_meet_247 rfl h.1 ?_
      have h := h.2
      refine ab_bipush' hG 248 _ _ _ _ (-9) (-9) dX6_meet_248 (by decide) ?_
      refine ab_icmp_ne' hG 250 _ _ _ _ (7) 257 _ _ dX6_meet_250 (by decide) (fun hc => ?_) (fun hc => ?_)
      · have h := h.2 hc
        refine ab_aload_n' hG 257 _ _ _ _ 0 _ dX6_meet_257 rfl ?_
        refine ab_gR hG 258 _ _ _ _ 54 21 17 0 (33, 0) dX6_meet_258 (List.Mem.tail _ (List.Mem.tail _ (List.Mem.tail _ (List.Mem.tail _ (List.Mem.tail _ (List.Mem.tail _ (List.Mem.head _))))))) rfl ?_
        refine ab_iload_n' hG 261 _ _ _ _ 1 _ dX6_meet_261 rfl ?_
        refine ab_iaload' hG 262 _ _ _ _ 33 0 24 _ dX6_meet_262 rfl h.1 ?_
        have h := h.2
        refine ab_bipush' hG 263 _ _ _ _ (-9) (-9) dX6_meet_263 (by decide) ?_
        refine ab_icmp_ne' hG 265 _ _ _ _ (7) 272 _ _ dX6_meet_265 (by decide) (fun hc => ?_) (fun hc => ?_)
        · have h := h.2 hc
          refine ab_iconst' hG 272 _ _ _ _ 0 0 dX6_meet_272 (by decide) ?_
          refine ab_iastore' hG 273 _ _ _ _ 31 0 24 _ _ dX6_meet_273 rfl h.1 ?_
          have h := h.2
          exact ab_return_' hG 274 _ _ _ dX6_meet_274 rfl (by decide) h
        · have h := h.1 hc
          refine ab_iconst' hG 268 _ _ _ _ 3 3 dX6_meet_268 (by decide) ?_
          refine ab_goto' hG 269 _ _ _ _ (4) 273 dX6_meet_269 (by decide) ?_
          refine ab_iastore' hG 273 _ _ _ _ 31 0 24 _ _ dX6_meet_273 rfl h.1 ?_
          have h := h.2
          exact ab_return_' hG 274 _ _ _ dX6_meet_274 rfl (by decide) h
      · have h := h.1 hc
        refine ab_iconst' hG 253 _ _ _ _ 2 2 dX6_meet_253 (by decide) ?_
        refine ab_goto' hG 254 _ _ _ _ (19) 273 dX6_meet_254 (by decide) ?_
        refine ab_iastore' hG 273 _ _ _ _ 31 0 24 _ _ dX6_meet_273 rfl h.1 ?_
        have h := h.2
        exact ab_return_' hG 274 _ _ _ dX6_meet_274 rfl (by decide) h
  · have h := h.2 hc
    refine ab_aload_n' hG 186 _ _ _ _ 0 _ dX6_meet_186 rfl ?_
    refine ab_gR hG 187 _ _ _ _ 17 21 3 0 (24, 0) dX6_meet_187 (List.Mem.tail _ (List.Mem.tail _ (List.Mem.tail _ (List.Mem.tail _ (List.Mem.tail _ (List.Mem.tail _ (List.Mem.tail _ (List.Mem.head _)))))))) rfl ?_
    refine ab_iload' hG 190 _ _ _ _ 4 _ dX6_meet_190 rfl ?_
    refine ab_iaload' hG 192 _ _ _ _ 24 0 336 _ dX6_meet_192 rfl h.1 ?_
    have h := h.2
    refine ab_aload_n' hG 193 _ _ _ _ 0 _ dX6_meet_193 rfl ?_
    refine ab_gR hG 194 _ _ _ _ 17 21 3 0 (24, 0) dX6_meet_194 (List.Mem.tail _ (List.Mem.tail _ (List.Mem.tail _ (List.Mem.tail _ (List.Mem.tail _ (List.Mem.tail _ (List.Mem.tail _ (List.Mem.head _)))))))) rfl ?_
    refine ab_iload' hG 197 _ _ _ _ 5 _ dX6_meet_197 rfl ?_
    refine ab_iaload' hG 199 _ _ _ _ 24 0 336 _ dX6_meet_199 rfl h.1 ?_
    have h := h.2
    refine ab_aload_n' hG 200 _ _ _ _ 0 _ dX6_meet_200 rfl ?_
    refine ab_gR hG 201 _ _ _ _ 7 21 1 0 (22, 0) dX6_meet_201 (List.Mem.tail _ (List.Mem.tail _ (List.Mem.tail _ (List.Mem.head _)))) rfl ?_
    refine ab_iload' hG 204 _ _ _ _ 6 _ dX6_meet_204 rfl ?_
    refine ab_baload' hG 206 _ _ _ _ 22 0 336 _ dX6_meet_206 rfl h.1 ?_
    have h := h.2
    refine ab_aload_n' hG 207 _ _ _ _ 0 _ dX6_meet_207 rfl ?_
    refine ab_gR hG 208 _ _ _ _ 17 21 3 0 (24, 0) dX6_meet_208 (List.Mem.tail _ (List.Mem.tail _ (List.Mem.tail _ (List.Mem.tail _ (List.Mem.tail _ (List.Mem.tail _ (List.Mem.tail _ (List.Mem.head _)))))))) rfl ?_
    refine ab_iload' hG 211 _ _ _ _ 6 _ dX6_meet_211 rfl ?_
    refine ab_iaload' hG 213 _ _ _ _ 24 0 336 _ dX6_meet_213 rfl h.1 ?_
    have h := h.2
    exact ab_invs' hG 214 [some (.inr (21, 0)), some (.inl x1), some (.inl x2), some (.inl x3), some (.inl x4), some (.inl x5), some (.inl x6), some (.inl x7), some (.inl x8), some (.inl x9)] [(.inl ((ab_su S 32 0 xs1.toNatClampNeg xs0) 24 0 x4.toNatClampNeg)), (.inl ((ab_su S 32 0 xs1.toNatClampNeg xs0) 24 0 x5.toNatClampNeg)), (.inl ((ab_su S 32 0 xs1.toNatClampNeg xs0) 22 0 x6.toNatClampNeg)), (.inl ((ab_su S 32 0 xs1.toNatClampNeg xs0) 24 0 x6.toNatClampNeg))] [(.inl x1), (.inr (33, 0))] (ab_su S 32 0 xs1.toNatClampNeg xs0) 0 137 _ 4 1 0 _ dX6_meet_214 rfl rfl (by decide) (by decide) h
theorem bl_X6_meet_217 {Q : ab_Po} {G : ab_Gt} (hG : ab_Cl M_X6_meet Q G) (x1 : Int32) (x2 : Int32) (x3 : Int32) (x4 : Int32) (x5 : Int32) (x6 : Int32) (x7 : Int32) (x8 : Int32) (x9 : Int32) (xs0 : Int32) (xs1 : Int32) (S : ab_S) (h : vp_in xs1 24 ∧ vp_in x1 24 ∧ (((ab_su S 33 0 xs1.toNatClampNeg xs0) 31 0 x1.toNatClampNeg) = 0 → vp_in x1 24 ∧ (((ab_su S 33 0 xs1.toNatClampNeg xs0) 32 0 x1.toNatClampNeg) = (-9) → vp_in x1 24 ∧ Q (.inl none) (ab_su (ab_su S 33 0 xs1.toNatClampNeg xs0) 31 0 x1.toNatClampNeg 2)) ∧ (¬ ((ab_su S 33 0 xs1.toNatClampNeg xs0) 32 0 x1.toNatClampNeg) = (-9) → vp_in x1 24 ∧ (((ab_su S 33 0 xs1.toNatClampNeg xs0) 33 0 x1.toNatClampNeg) = (-9) → vp_in x1 24 ∧ Q (.inl none) (ab_su (ab_su S 33 0 xs1.toNatClampNeg xs0) 31 0 x1.toNatClampNeg 3)) ∧ (¬ ((ab_su S 33 0 xs1.toNatClampNeg xs0) 33 0 x1.toNatClampNeg) = (-9) → vp_in x1 24 ∧ Q (.inl none) (ab_su (ab_su S 33 0 xs1.toNatClampNeg xs0) 31 0 x1.toNatClampNeg 0)))) ∧ (¬ ((ab_su S 33 0 xs1.toNatClampNeg xs0) 31 0 x1.toNatClampNeg) = 0 → Q (.inl none) (ab_su S 33 0 xs1.toNatClampNeg xs0))) : G 217 [some (.inr (21, 0)), some (.inl x1), some (.inl x2), some (.inl x3), some (.inl x4), some (.inl x5), some (.inl x6), some (.inl x7), some (.inl x8), some (.inl x9)] [(.inl xs0), (.inl xs1), (.inr (33, 0))] S 0 := by
  refine ab_goto' hG 217 _ _ _ _ (10) 227 dX6_meet_217 (by decide) ?_
  refine ab_iastore' hG 227 _ _ _ _ 33 0 24 _ _ dX6_meet_227 rfl h.1 ?_
  have h := h.2
  refine ab_aload_n' hG 228 _ _ _ _ 0 _ dX6_meet_228 rfl ?_
  refine ab_gR hG 229 _ _ _ _ 48 21 15 0 (31, 0) dX6_meet_229 (List.Mem.tail _ (List.Mem.tail _ (List.Mem.head _))) rfl ?_
  refine ab_iload_n' hG 232 _ _ _ _ 1 _ dX6_meet_232 rfl ?_
  refine ab_iaload' hG 233 _ _ _ _ 31 0 24 _ dX6_meet_233 rfl h.1 ?_
  have h := h.2
  refine ab_if_ne' hG 234 _ _ _ _ (40) 274 _ dX6_meet_234 (by decide) (fun hc => ?_) (fun hc => ?_)
  · have h := h.2 hc
    exact ab_return_' hG 274 _ _ _ dX6_meet_274 rfl (by decide) h
  · have h := h.1 hc
    refine ab_aload_n' hG 237 _ _ _ _ 0 _ dX6_meet_237 rfl ?_
    refine ab_gR hG 238 _ _ _ _ 48 21 15 0 (31, 0) dX6_meet_238 (List.Mem.tail _ (List.Mem.tail _ (List.Mem.head _))) rfl ?_
    refine ab_iload_n' hG 241 _ _ _ _ 1 _ dX6_meet_241 rfl ?_
    refine ab_aload_n' hG 242 _ _ _ _ 0 _ dX6_meet_242 rfl ?_
    refine ab_gR hG 243 _ _ _ _ 51 21 16 0 (32, 0) dX6_meet_243 (List.Mem.tail _ (List.Mem.tail _ (List.Mem.tail _ (List.Mem.tail _ (List.Mem.head _))))) rfl ?_
    refine ab_iload_n' hG 246 _ _ _ _ 1 _ dX6_meet_246 rfl ?_
    refine ab_iaload' hG 247 _ _ _ _ 32 0 24 _ dX6_meet_247 rfl h.1 ?_
    have h := h.2
    refine ab_bipush' hG 248 _ _ _ _ (-9) (-9) dX6_meet_248 (by decide) ?_
    refine ab_icmp_ne' hG 250 _ _ _ _ (7) 257 _ _ dX6_meet_250 (by decide) (fun hc => ?_) (fun hc => ?_)
    · have h := h.2 hc
      refine ab_aload_n' hG 257 _ _ _ _ 0 _ dX6_meet_257 rfl ?_
      refine ab_gR hG 258 _ _ _ _ 54 21 17 0 (33, 0) dX6_meet_258 (List.Mem.tail _ (List.Mem.tail _ (List.Mem.tail _ (List.Mem.tail _ (List.Mem.tail _ (List.Mem.tail _ (List.Mem.head _))))))) rfl ?_
      refine ab_iload_n' hG 261 _ _ _ _ 1 _ dX6_meet_261 rfl ?_
      refine ab_iaload' hG 262 _ _ _ _ 33 0 24 _ dX6_meet_262 rfl h.1 ?_
      have h := h.2
      refine ab_bipush' hG 263 _ _ _ _ (-9) (-9) dX6_meet_263 (by decide) ?_
      refine ab_icmp_ne' hG 265 _ _ _ _ (7) 272 _ _ dX6_meet_265 (by decide) (fun hc => ?_) (fun hc => ?_)
      · have h := h.2 hc
        refine ab_iconst' hG 272 _ _ _ _ 0 0 dX6_meet_272 (by decide) ?_
        refine ab_iastore' hG 273 _ _ _ _ 31 0 24 _ _ dX6_meet_273 rfl h.1 ?_
        have h := h.2
        exact ab_return_' hG 274 _ _ _ dX6_meet_274 rfl (by decide) h
      · have h := h.1 hc
        refine ab_iconst' hG 268 _ _ _ _ 3 3 dX6_meet_268 (by decide) ?_
        refine ab_goto' hG 269 _ _ _ _ (4) 273 dX6_meet_269 (by decide) ?_
        refine ab_iastore' hG 273 _ _ _ _ 31 0 24 _ _ dX6_meet_273 rfl h.1 ?_
        have h := h.2
        exact ab_return_' hG 274 _ _ _ dX6_meet_274 rfl (by decide) h
    · have h := h.1 hc
      refine ab_iconst' hG 253 _ _ _ _ 2 2 dX6_meet_253 (by decide) ?_
      refine ab_goto' hG 254 _ _ _ _ (19) 273 dX6_meet_254 (by decide) ?_
      refine ab_iastore' hG 273 _ _ _ _ 31 0 24 _ _ dX6_meet_273 rfl h.1 ?_
      have h := h.2
      exact ab_return_' hG 274 _ _ _ dX6_meet_274 rfl (by decide) h
