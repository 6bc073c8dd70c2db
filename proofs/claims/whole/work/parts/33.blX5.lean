theorem bl_X5_isIn_0 {Q : ab_Po} {G : ab_Gt} (hG : ab_Cl M_X5_isIn Q G) (x0 : Int32) (x1 : Int32) (S : ab_S) (h : (((x0 >>> (x1 &&& 31)) &&& (1 : Int32)) = 0 → Q (.inl (some (0 : Int32))) S) ∧ (¬ ((x0 >>> (x1 &&& 31)) &&& (1 : Int32)) = 0 → Q (.inl (some (1 : Int32))) S)) : G 0 [some (.inl x0), some (.inl x1)] [] S 0 := by
  refine ab_iload_n' hG 0 _ _ _ _ 0 _ dX5_isIn_0 rfl ?_
  refine ab_iload_n' hG 1 _ _ _ _ 1 _ dX5_isIn_1 rfl ?_
  refine ab_ishr' hG 2 _ _ _ _ _ _ dX5_isIn_2 ?_
  refine ab_iconst' hG 3 _ _ _ _ 1 1 dX5_isIn_3 (by decide) ?_
  refine ab_iand' hG 4 _ _ _ _ _ _ dX5_isIn_4 ?_
  refine ab_if_eq' hG 5 _ _ _ _ (7) 12 _ dX5_isIn_5 (by decide) (fun hc => ?_) (fun hc => ?_)
  · have h := h.1 hc
    refine ab_iconst' hG 12 _ _ _ _ 0 0 dX5_isIn_12 (by decide) ?_
    exact ab_ireturn' hG 13 _ _ _ _ dX5_isIn_13 (Or.inr ⟨rfl, Or.inl rfl⟩) (by decide) h
  · have h := h.2 hc
    refine ab_iconst' hG 8 _ _ _ _ 1 1 dX5_isIn_8 (by decide) ?_
    refine ab_goto' hG 9 _ _ _ _ (4) 13 dX5_isIn_9 (by decide) ?_
    exact ab_ireturn' hG 13 _ _ _ _ dX5_isIn_13 (Or.inr ⟨rfl, Or.inr rfl⟩) (by decide) h
theorem bl_X5_requireNode_0 {Q : ab_Po} {G : ab_Gt} (hG : ab_Cl M_X5_requireNode Q G) (x1 : Int32) (S : ab_S) (h : Sp_X4_holds [(.inr (4, 0)), (.inl x1)] S (ab_back Q G 8 [some (.inr (0, 0)), some (.inl x1)] [] 0)) : G 0 [some (.inr (0, 0)), some (.inl x1)] [] S 0 := by
  refine ab_aload_n' hG 0 _ _ _ _ 0 _ dX5_requireNode_0 rfl ?_
  refine ab_gR hG 1 _ _ _ _ 10 0 0 0 (4, 0) dX5_requireNode_1 (List.Mem.head _) rfl ?_
  refine ab_iload_n' hG 4 _ _ _ _ 1 _ dX5_requireNode_4 rfl ?_
  exact ab_invv' hG 5 _ [_] _ _ 0 198 _ 1 1 0 _ (4, _) dX5_requireNode_5 rfl rfl rfl rfl (Nat.le_of_ble_eq_true rfl) (Nat.le_of_ble_eq_true rfl) h
theorem bl_X5_requireNode_8 {Q : ab_Po} {G : ab_Gt} (hG : ab_Cl M_X5_requireNode Q G) (x1 : Int32) (xs0 : Int32) (S : ab_S) (h : (xs0 = 0 → Q (.inr 0) S) ∧ (¬ xs0 = 0 → Q (.inl none) S)) : G 8 [some (.inr (0, 0)), some (.inl x1)] [(.inl xs0)] S 0 := by
  refine ab_if_ne' hG 8 _ _ _ _ (13) 21 _ dX5_requireNode_8 (by decide) (fun hc => ?_) (fun hc => ?_)
  · have h := h.2 hc
    exact ab_return_' hG 21 _ _ _ dX5_requireNode_21 rfl (by decide) h
  · have h := h.1 hc
    exact ab_throw' hG 11 _ _ _ _ 0 rfl (Nat.le_of_ble_eq_true rfl) (Nat.le_of_ble_eq_true rfl) h
theorem bl_X5_requirePlace_0 {Q : ab_Po} {G : ab_Gt} (hG : ab_Cl M_X5_requirePlace Q G) (x0 : Int32) (x1 : Int32) (S : ab_S) (h : (x0 < 0 → Q (.inr 1) S) ∧ (¬ x0 < 0 → (x0 ≤ x1 → Q (.inl none) S) ∧ (¬ x0 ≤ x1 → Q (.inr 1) S))) : G 0 [some (.inl x0), some (.inl x1)] [] S 0 := by
  refine ab_iload_n' hG 0 _ _ _ _ 0 _ dX5_requirePlace_0 rfl ?_
  refine ab_if_lt' hG 1 _ _ _ _ (8) 9 _ dX5_requirePlace_1 (by decide) (fun hc => ?_) (fun hc => ?_)
  · have h := h.1 hc
    exact ab_throw' hG 9 _ _ _ _ 1 rfl (Nat.le_of_ble_eq_true rfl) (Nat.le_of_ble_eq_true rfl) h
  · have h := h.2 hc
    refine ab_iload_n' hG 4 _ _ _ _ 0 _ dX5_requirePlace_4 rfl ?_
    refine ab_iload_n' hG 5 _ _ _ _ 1 _ dX5_requirePlace_5 rfl ?_
    refine ab_icmp_le' hG 6 _ _ _ _ (13) 19 _ _ dX5_requirePlace_6 (by decide) (fun hc => ?_) (fun hc => ?_)
    · have h := h.1 hc
      exact ab_return_' hG 19 _ _ _ dX5_requirePlace_19 rfl (by decide) h
    · have h := h.2 hc
      exact ab_throw' hG 9 _ _ _ _ 1 rfl (Nat.le_of_ble_eq_true rfl) (Nat.le_of_ble_eq_true rfl) h
theorem bl_X5_requireLabel_0 {Q : ab_Po} {G : ab_Gt} (hG : ab_Cl M_X5_requireLabel Q G) (x0 : Int32) (S : ab_S) (h : (x0 < 0 → Q (.inr 2) S) ∧ (¬ x0 < 0 → (x0 < (6 : Int32) → Q (.inl none) S) ∧ (¬ x0 < (6 : Int32) → Q (.inr 2) S))) : G 0 [some (.inl x0)] [] S 0 := by
  refine ab_iload_n' hG 0 _ _ _ _ 0 _ dX5_requireLabel_0 rfl ?_
  refine ab_if_lt' hG 1 _ _ _ _ (9) 10 _ dX5_requireLabel_1 (by decide) (fun hc => ?_) (fun hc => ?_)
  · have h := h.1 hc
    exact ab_throw' hG 10 _ _ _ _ 2 rfl (Nat.le_of_ble_eq_true rfl) (Nat.le_of_ble_eq_true rfl) h
  · have h := h.2 hc
    refine ab_iload_n' hG 4 _ _ _ _ 0 _ dX5_requireLabel_4 rfl ?_
    refine ab_bipush' hG 5 _ _ _ _ 6 6 dX5_requireLabel_5 (by decide) ?_
    refine ab_icmp_lt' hG 7 _ _ _ _ (13) 20 _ _ dX5_requireLabel_7 (by decide) (fun hc => ?_) (fun hc => ?_)
    · have h := h.1 hc
      exact ab_return_' hG 20 _ _ _ dX5_requireLabel_20 rfl (by decide) h
    · have h := h.2 hc
      exact ab_throw' hG 10 _ _ _ _ 2 rfl (Nat.le_of_ble_eq_true rfl) (Nat.le_of_ble_eq_true rfl) h
theorem bl_X5_insert_0 {Q : ab_Po} {G : ab_Gt} (hG : ab_Cl M_X5_insert Q G) (x1 : Int32) (x2 : Int32) (x3 : Int32) (S : ab_S) (h : Sp_X5_requireNode [(.inr (0, 0)), (.inl x1)] S (ab_back Q G 5 [some (.inr (0, 0)), some (.inl x1), some (.inl x2), some (.inl x3), none] [] 1)) : G 0 [some (.inr (0, 0)), some (.inl x1), some (.inl x2), some (.inl x3), none] [] S 0 := by
  refine ab_aload_n' hG 0 _ _ _ _ 0 _ dX5_insert_0 rfl ?_
  refine ab_iload_n' hG 1 _ _ _ _ 1 _ dX5_insert_1 rfl ?_
  exact ab_invv' hG 2 _ [_] _ _ 0 55 _ 1 0 1 _ (0, _) dX5_insert_2 rfl rfl rfl rfl (Nat.le_of_ble_eq_true rfl) (Nat.le_of_ble_eq_true rfl) h
theorem bl_X5_insert_5 {Q : ab_Po} {G : ab_Gt} (hG : ab_Cl M_X5_insert Q G) (x1 : Int32) (x2 : Int32) (x3 : Int32) (S : ab_S) (h : Sp_X4_childCount [(.inr (4, 0)), (.inl x1)] S (ab_back Q G 14 [some (.inr (0, 0)), some (.inl x1), some (.inl x2), some (.inl x3), none] [(.inl x2)] 1)) : G 5 [some (.inr (0, 0)), some (.inl x1), some (.inl x2), some (.inl x3), none] [] S 1 := by
  refine ab_iload_n' hG 5 _ _ _ _ 2 _ dX5_insert_5 rfl ?_
  refine ab_aload_n' hG 6 _ _ _ _ 0 _ dX5_insert_6 rfl ?_
  refine ab_gR hG 7 _ _ _ _ 10 0 0 0 (4, 0) dX5_insert_7 (List.Mem.head _) rfl ?_
  refine ab_iload_n' hG 10 _ _ _ _ 1 _ dX5_insert_10 rfl ?_
  exact ab_invv' hG 11 _ [_] _ _ 1 59 _ 1 1 0 _ (4, _) dX5_insert_11 rfl rfl rfl rfl (Nat.le_of_ble_eq_true rfl) (Nat.le_of_ble_eq_true rfl) h
theorem bl_X5_insert_14 {Q : ab_Po} {G : ab_Gt} (hG : ab_Cl M_X5_insert Q G) (x1 : Int32) (x2 : Int32) (x3 : Int32) (xs0 : Int32) (xs1 : Int32) (S : ab_S) (h : Sp_X5_requirePlace [(.inl xs1), (.inl xs0)] S (ab_back Q G 17 [some (.inr (0, 0)), some (.inl x1), some (.inl x2), some (.inl x3), none] [] 2)) : G 14 [some (.inr (0, 0)), some (.inl x1), some (.inl x2), some (.inl x3), none] [(.inl xs0), (.inl xs1)] S 1 := by
  exact ab_invs' hG 14 _ [_, _] _ _ 1 63 _ 2 0 1 _ dX5_insert_14 rfl rfl (Nat.le_of_ble_eq_true rfl) (Nat.le_of_ble_eq_true rfl) h
theorem bl_X5_insert_17 {Q : ab_Po} {G : ab_Gt} (hG : ab_Cl M_X5_insert Q G) (x1 : Int32) (x2 : Int32) (x3 : Int32) (S : ab_S) (h : Sp_X5_requireLabel [(.inl x3)] S (ab_back Q G 21 [some (.inr (0, 0)), some (.inl x1), some (.inl x2), some (.inl x3), none] [] 3)) : G 17 [some (.inr (0, 0)), some (.inl x1), some (.inl x2), some (.inl x3), none] [] S 2 := by
  refine ab_iload_n' hG 17 _ _ _ _ 3 _ dX5_insert_17 rfl ?_
  exact ab_invs' hG 18 _ [_] _ _ 2 66 _ 1 0 1 _ dX5_insert_18 rfl rfl (Nat.le_of_ble_eq_true rfl) (Nat.le_of_ble_eq_true rfl) h
theorem bl_X5_insert_21 {Q : ab_Po} {G : ab_Gt} (hG : ab_Cl M_X5_insert Q G) (x1 : Int32) (x2 : Int32) (x3 : Int32) (S : ab_S) (h : ((S 0 0 4) < (24 : Int32) → (∀ S1 : ab_S, S1 = ab_su S 0 0 4 ((S 0 0 4) + (1 : Int32)) → Sp_X4_attach [(.inr (4, 0)), (.inl (S 0 0 4)), (.inl x3), (.inl x1), (.inl x2)] S1 (ab_back Q G 68 [some (.inr (0, 0)), some (.inl x1), some (.inl x2), some (.inl x3), some (.inl (S 0 0 4))] [] 3))) ∧ (¬ (S 0 0 4) < (24 : Int32) → Q (.inr 3) S)) : G 21 [some (.inr (0, 0)), some (.inl x1), some (.inl x2), some (.inl x3), none] [] S 3 := by
  refine ab_aload_n' hG 21 _ _ _ _ 0 _ dX5_insert_21 rfl ?_
  refine ab_gI hG 22 _ _ _ _ 41 0 4 0 dX5_insert_22 (List.Mem.tail _ (List.Mem.head _)) rfl ?_
  refine ab_bipush' hG 25 _ _ _ _ 24 24 dX5_insert_25 (by decide) ?_
  refine ab_icmp_lt' hG 27 _ _ _ _ (13) 40 _ _ dX5_insert_27 (by decide) (fun hc => ?_) (fun hc => ?_)
  · have h := h.1 hc
    refine ab_aload_n' hG 40 _ _ _ _ 0 _ dX5_insert_40 rfl ?_
    refine ab_gI hG 41 _ _ _ _ 41 0 4 0 dX5_insert_41 (List.Mem.tail _ (List.Mem.head _)) rfl ?_
    refine ab_istore' hG 44 _ _ _ _ 4 _ dX5_insert_44 (Nat.le_of_ble_eq_true rfl) ?_
    refine ab_aload_n' hG 46 _ _ _ _ 0 _ dX5_insert_46 rfl ?_
    refine ab_dup' hG 47 _ _ _ _ _ dX5_insert_47 ?_
    refine ab_gI hG 48 _ _ _ _ 41 0 4 0 dX5_insert_48 (List.Mem.tail _ (List.Mem.head _)) rfl ?_
    refine ab_iconst' hG 51 _ _ _ _ 1 1 dX5_insert_51 (by decide) ?_
    refine ab_iadd' hG 52 _ _ _ _ _ _ dX5_insert_52 ?_
    refine ab_putfield' hG 53 _ _ _ _ 41 0 4 0 _ dX5_insert_53 (List.Mem.head _) ?_
    have h := h _ rfl
    refine ab_aload_n' hG 56 _ _ _ _ 0 _ dX5_insert_56 rfl ?_
    refine ab_gR hG 57 _ _ _ _ 10 0 0 0 (4, 0) dX5_insert_57 (List.Mem.head _) rfl ?_
    refine ab_iload' hG 60 _ _ _ _ 4 _ dX5_insert_60 rfl ?_
    refine ab_iload_n' hG 62 _ _ _ _ 3 _ dX5_insert_62 rfl ?_
    refine ab_iload_n' hG 63 _ _ _ _ 1 _ dX5_insert_63 rfl ?_
    refine ab_iload_n' hG 64 _ _ _ _ 2 _ dX5_insert_64 rfl ?_
    exact ab_invv' hG 65 _ [_, _, _, _] _ _ 3 76 _ 4 0 0 _ (4, _) dX5_insert_65 rfl rfl rfl rfl (Nat.le_of_ble_eq_true rfl) (Nat.le_of_ble_eq_true rfl) h
  · have h := h.2 hc
    exact ab_throw' hG 30 _ _ _ _ 3 rfl (Nat.le_of_ble_eq_true rfl) (Nat.le_of_ble_eq_true rfl) h
theorem bl_X5_insert_68 {Q : ab_Po} {G : ab_Gt} (hG : ab_Cl M_X5_insert Q G) (x1 : Int32) (x2 : Int32) (x3 : Int32) (x4 : Int32) (S : ab_S) (h : Q (.inl (some x4)) S) : G 68 [some (.inr (0, 0)), some (.inl x1), some (.inl x2), some (.inl x3), some (.inl x4)] [] S 3 := by
  refine ab_iload' hG 68 _ _ _ _ 4 _ dX5_insert_68 rfl ?_
  exact ab_ireturn' hG 70 _ _ _ _ dX5_insert_70 (Or.inl rfl) (by decide) h
theorem bl_X5_delete_0 {Q : ab_Po} {G : ab_Gt} (hG : ab_Cl M_X5_delete Q G) (x1 : Int32) (S : ab_S) (h : Sp_X5_requireNode [(.inr (0, 0)), (.inl x1)] S (ab_back Q G 5 [some (.inr (0, 0)), some (.inl x1)] [] 1)) : G 0 [some (.inr (0, 0)), some (.inl x1)] [] S 0 := by
  refine ab_aload_n' hG 0 _ _ _ _ 0 _ dX5_delete_0 rfl ?_
  refine ab_iload_n' hG 1 _ _ _ _ 1 _ dX5_delete_1 rfl ?_
  exact ab_invv' hG 2 _ [_] _ _ 0 55 _ 1 0 1 _ (0, _) dX5_delete_2 rfl rfl rfl rfl (Nat.le_of_ble_eq_true rfl) (Nat.le_of_ble_eq_true rfl) h
theorem bl_X5_delete_5 {Q : ab_Po} {G : ab_Gt} (hG : ab_Cl M_X5_delete Q G) (x1 : Int32) (S : ab_S) (h : (x1 = 0 → Q (.inr 2) S) ∧ (¬ x1 = 0 → Sp_X4_prune [(.inr (4, 0)), (.inl x1)] S (ab_back Q G 27 [some (.inr (0, 0)), some (.inl x1)] [] 1))) : G 5 [some (.inr (0, 0)), some (.inl x1)] [] S 1 := by
  refine ab_iload_n' hG 5 _ _ _ _ 1 _ dX5_delete_5 rfl ?_
  refine ab_if_ne' hG 6 _ _ _ _ (13) 19 _ dX5_delete_6 (by decide) (fun hc => ?_) (fun hc => ?_)
  · have h := h.2 hc
    refine ab_aload_n' hG 19 _ _ _ _ 0 _ dX5_delete_19 rfl ?_
    refine ab_gR hG 20 _ _ _ _ 10 0 0 0 (4, 0) dX5_delete_20 (List.Mem.head _) rfl ?_
    refine ab_iload_n' hG 23 _ _ _ _ 1 _ dX5_delete_23 rfl ?_
    exact ab_invv' hG 24 _ [_] _ _ 1 85 _ 1 1 0 _ (4, _) dX5_delete_24 rfl rfl rfl rfl (Nat.le_of_ble_eq_true rfl) (Nat.le_of_ble_eq_true rfl) h
  · have h := h.1 hc
    exact ab_throw' hG 9 _ _ _ _ 2 rfl (Nat.le_of_ble_eq_true rfl) (Nat.le_of_ble_eq_true rfl) h
theorem bl_X5_delete_27 {Q : ab_Po} {G : ab_Gt} (hG : ab_Cl M_X5_delete Q G) (x1 : Int32) (xs0 : Int32) (S : ab_S) (h : Q (.inl (some xs0)) S) : G 27 [some (.inr (0, 0)), some (.inl x1)] [(.inl xs0)] S 1 := by
  exact ab_ireturn' hG 27 _ _ _ _ dX5_delete_27 (Or.inl rfl) (by decide) h
theorem bl_X5_move_0 {Q : ab_Po} {G : ab_Gt} (hG : ab_Cl M_X5_move Q G) (x1 : Int32) (x2 : Int32) (x3 : Int32) (S : ab_S) (h : Sp_X5_requireNode [(.inr (0, 0)), (.inl x1)] S (ab_back Q G 5 [some (.inr (0, 0)), some (.inl x1), some (.inl x2), some (.inl x3)] [] 1)) : G 0 [some (.inr (0, 0)), some (.inl x1), some (.inl x2), some (.inl x3)] [] S 0 := by
  refine ab_aload_n' hG 0 _ _ _ _ 0 _ dX5_move_0 rfl ?_
  refine ab_iload_n' hG 1 _ _ _ _ 1 _ dX5_move_1 rfl ?_
  exact ab_invv' hG 2 _ [_] _ _ 0 55 _ 1 0 1 _ (0, _) dX5_move_2 rfl rfl rfl rfl (Nat.le_of_ble_eq_true rfl) (Nat.le_of_ble_eq_true rfl) h
theorem bl_X5_move_5 {Q : ab_Po} {G : ab_Gt} (hG : ab_Cl M_X5_move Q G) (x1 : Int32) (x2 : Int32) (x3 : Int32) (S : ab_S) (h : Sp_X5_requireNode [(.inr (0, 0)), (.inl x2)] S (ab_back Q G 10 [some (.inr (0, 0)), some (.inl x1), some (.inl x2), some (.inl x3)] [] 2)) : G 5 [some (.inr (0, 0)), some (.inl x1), some (.inl x2), some (.inl x3)] [] S 1 := by
  refine ab_aload_n' hG 5 _ _ _ _ 0 _ dX5_move_5 rfl ?_
  refine ab_iload_n' hG 6 _ _ _ _ 2 _ dX5_move_6 rfl ?_
  exact ab_invv' hG 7 _ [_] _ _ 1 55 _ 1 0 1 _ (0, _) dX5_move_7 rfl rfl rfl rfl (Nat.le_of_ble_eq_true rfl) (Nat.le_of_ble_eq_true rfl) h
theorem bl_X5_move_10 {Q : ab_Po} {G : ab_Gt} (hG : ab_Cl M_X5_move Q G) (x1 : Int32) (x2 : Int32) (x3 : Int32) (S : ab_S) (h : Sp_X4_isWithin [(.inr (4, 0)), (.inl x2), (.inl x1)] S (ab_back Q G 19 [some (.inr (0, 0)), some (.inl x1), some (.inl x2), some (.inl x3)] [] 2)) : G 10 [some (.inr (0, 0)), some (.inl x1), some (.inl x2), some (.inl x3)] [] S 2 := by
  refine ab_aload_n' hG 10 _ _ _ _ 0 _ dX5_move_10 rfl ?_
  refine ab_gR hG 11 _ _ _ _ 10 0 0 0 (4, 0) dX5_move_11 (List.Mem.head _) rfl ?_
  refine ab_iload_n' hG 14 _ _ _ _ 2 _ dX5_move_14 rfl ?_
  refine ab_iload_n' hG 15 _ _ _ _ 1 _ dX5_move_15 rfl ?_
  exact ab_invv' hG 16 _ [_, _] _ _ 2 88 _ 2 1 0 _ (4, _) dX5_move_16 rfl rfl rfl rfl (Nat.le_of_ble_eq_true rfl) (Nat.le_of_ble_eq_true rfl) h
theorem bl_X5_move_19 {Q : ab_Po} {G : ab_Gt} (hG : ab_Cl M_X5_move Q G) (x1 : Int32) (x2 : Int32) (x3 : Int32) (xs0 : Int32) (S : ab_S) (h : (xs0 = 0 → Sp_X4_childCount [(.inr (4, 0)), (.inl x2)] S (ab_back Q G 41 [some (.inr (0, 0)), some (.inl x1), some (.inl x2), some (.inl x3)] [(.inl x3)] 2)) ∧ (¬ xs0 = 0 → Q (.inr 2) S)) : G 19 [some (.inr (0, 0)), some (.inl x1), some (.inl x2), some (.inl x3)] [(.inl xs0)] S 2 := by
  refine ab_if_eq' hG 19 _ _ _ _ (13) 32 _ dX5_move_19 (by decide) (fun hc => ?_) (fun hc => ?_)
  · have h := h.1 hc
    refine ab_iload_n' hG 32 _ _ _ _ 3 _ dX5_move_32 rfl ?_
    refine ab_aload_n' hG 33 _ _ _ _ 0 _ dX5_move_33 rfl ?_
    refine ab_gR hG 34 _ _ _ _ 10 0 0 0 (4, 0) dX5_move_34 (List.Mem.head _) rfl ?_
    refine ab_iload_n' hG 37 _ _ _ _ 2 _ dX5_move_37 rfl ?_
    exact ab_invv' hG 38 _ [_] _ _ 2 59 _ 1 1 0 _ (4, _) dX5_move_38 rfl rfl rfl rfl (Nat.le_of_ble_eq_true rfl) (Nat.le_of_ble_eq_true rfl) h
  · have h := h.2 hc
    exact ab_throw' hG 22 _ _ _ _ 2 rfl (Nat.le_of_ble_eq_true rfl) (Nat.le_of_ble_eq_true rfl) h
theorem bl_X5_move_41 {Q : ab_Po} {G : ab_Gt} (hG : ab_Cl M_X5_move Q G) (x1 : Int32) (x2 : Int32) (x3 : Int32) (xs0 : Int32) (xs1 : Int32) (S : ab_S) (h : vp_in x1 24 ∧ ((S 7 0 x1.toNatClampNeg) = x2 → Sp_X5_requirePlace [(.inl xs1), (.inl (xs0 - (1 : Int32)))] S (ab_back Q G 63 [some (.inr (0, 0)), some (.inl x1), some (.inl x2), some (.inl x3)] [] 3)) ∧ (¬ (S 7 0 x1.toNatClampNeg) = x2 → Sp_X5_requirePlace [(.inl xs1), (.inl (xs0 - (0 : Int32)))] S (ab_back Q G 63 [some (.inr (0, 0)), some (.inl x1), some (.inl x2), some (.inl x3)] [] 3))) : G 41 [some (.inr (0, 0)), some (.inl x1), some (.inl x2), some (.inl x3)] [(.inl xs0), (.inl xs1)] S 2 := by
  refine ab_aload_n' hG 41 _ _ _ _ 0 _ dX5_move_41 rfl ?_
  refine ab_gR hG 42 _ _ _ _ 10 0 0 0 (4, 0) dX5_move_42 (List.Mem.head _) rfl ?_
  refine ab_gR hG 45 _ _ _ _ 94 4 2 0 (7, 0) dX5_move_45 (List.Mem.tail _ (List.Mem.head _)) rfl ?_
  refine ab_iload_n' hG 48 _ _ _ _ 1 _ dX5_move_48 rfl ?_
  refine ab_iaload' hG 49 _ _ _ _ 7 0 24 _ dX5_move_49 rfl h.1 ?_
  have h := h.2
  refine ab_iload_n' hG 50 _ _ _ _ 2 _ dX5_move_50 rfl ?_
  refine ab_icmp_ne' hG 51 _ _ _ _ (7) 58 _ _ dX5_move_51 (by decide) (fun hc => ?_) (fun hc => ?_)
  · have h := h.2 hc
    refine ab_iconst' hG 58 _ _ _ _ 0 0 dX5_move_58 (by decide) ?_
    refine ab_isub' hG 59 _ _ _ _ _ _ dX5_move_59 ?_
    exact ab_invs' hG 60 _ [_, _] _ _ 2 63 _ 2 0 1 _ dX5_move_60 rfl rfl (Nat.le_of_ble_eq_true rfl) (Nat.le_of_ble_eq_true rfl) h
  · have h := h.1 hc
    refine ab_iconst' hG 54 _ _ _ _ 1 1 dX5_move_54 (by decide) ?_
    refine ab_goto' hG 55 _ _ _ _ (4) 59 dX5_move_55 (by decide) ?_
    refine ab_isub' hG 59 _ _ _ _ _ _ dX5_move_59 ?_
    exact ab_invs' hG 60 _ [_, _] _ _ 2 63 _ 2 0 1 _ dX5_move_60 rfl rfl (Nat.le_of_ble_eq_true rfl) (Nat.le_of_ble_eq_true rfl) h
theorem bl_X5_move_63 {Q : ab_Po} {G : ab_Gt} (hG : ab_Cl M_X5_move Q G) (x1 : Int32) (x2 : Int32) (x3 : Int32) (S : ab_S) (h : Sp_X4_transplant [(.inr (4, 0)), (.inl x1), (.inl x2), (.inl x3)] S (ab_back Q G 73 [some (.inr (0, 0)), some (.inl x1), some (.inl x2), some (.inl x3)] [] 3)) : G 63 [some (.inr (0, 0)), some (.inl x1), some (.inl x2), some (.inl x3)] [] S 3 := by
  refine ab_aload_n' hG 63 _ _ _ _ 0 _ dX5_move_63 rfl ?_
  refine ab_gR hG 64 _ _ _ _ 10 0 0 0 (4, 0) dX5_move_64 (List.Mem.head _) rfl ?_
  refine ab_iload_n' hG 67 _ _ _ _ 1 _ dX5_move_67 rfl ?_
  refine ab_iload_n' hG 68 _ _ _ _ 2 _ dX5_move_68 rfl ?_
  refine ab_iload_n' hG 69 _ _ _ _ 3 _ dX5_move_69 rfl ?_
  exact ab_invv' hG 70 _ [_, _, _] _ _ 3 98 _ 3 0 0 _ (4, _) dX5_move_70 rfl rfl rfl rfl (Nat.le_of_ble_eq_true rfl) (Nat.le_of_ble_eq_true rfl) h
theorem bl_X5_move_73 {Q : ab_Po} {G : ab_Gt} (hG : ab_Cl M_X5_move Q G) (x1 : Int32) (x2 : Int32) (x3 : Int32) (S : ab_S) (h : Q (.inl none) S) : G 73 [some (.inr (0, 0)), some (.inl x1), some (.inl x2), some (.inl x3)] [] S 3 := by
  exact ab_return_' hG 73 _ _ _ dX5_move_73 rfl (by decide) h
theorem bl_X5_relabel_0 {Q : ab_Po} {G : ab_Gt} (hG : ab_Cl M_X5_relabel Q G) (x1 : Int32) (x2 : Int32) (S : ab_S) (h : Sp_X5_requireNode [(.inr (0, 0)), (.inl x1)] S (ab_back Q G 5 [some (.inr (0, 0)), some (.inl x1), some (.inl x2)] [] 1)) : G 0 [some (.inr (0, 0)), some (.inl x1), some (.inl x2)] [] S 0 := by
  refine ab_aload_n' hG 0 _ _ _ _ 0 _ dX5_relabel_0 rfl ?_
  refine ab_iload_n' hG 1 _ _ _ _ 1 _ dX5_relabel_1 rfl ?_
  exact ab_invv' hG 2 _ [_] _ _ 0 55 _ 1 0 1 _ (0, _) dX5_relabel_2 rfl rfl rfl rfl (Nat.le_of_ble_eq_true rfl) (Nat.le_of_ble_eq_true rfl) h
theorem bl_X5_relabel_5 {Q : ab_Po} {G : ab_Gt} (hG : ab_Cl M_X5_relabel Q G) (x1 : Int32) (x2 : Int32) (S : ab_S) (h : Sp_X5_requireLabel [(.inl x2)] S (ab_back Q G 9 [some (.inr (0, 0)), some (.inl x1), some (.inl x2)] [] 2)) : G 5 [some (.inr (0, 0)), some (.inl x1), some (.inl x2)] [] S 1 := by
  refine ab_iload_n' hG 5 _ _ _ _ 2 _ dX5_relabel_5 rfl ?_
  exact ab_invs' hG 6 _ [_] _ _ 1 66 _ 1 0 1 _ dX5_relabel_6 rfl rfl (Nat.le_of_ble_eq_true rfl) (Nat.le_of_ble_eq_true rfl) h
theorem bl_X5_relabel_9 {Q : ab_Po} {G : ab_Gt} (hG : ab_Cl M_X5_relabel Q G) (x1 : Int32) (x2 : Int32) (S : ab_S) (h : vp_in x1 24 ∧ (∀ S1 : ab_S, S1 = ab_su S 8 0 x1.toNatClampNeg x2 → Q (.inl none) S1)) : G 9 [some (.inr (0, 0)), some (.inl x1), some (.inl x2)] [] S 2 := by
  refine ab_aload_n' hG 9 _ _ _ _ 0 _ dX5_relabel_9 rfl ?_
  refine ab_gR hG 10 _ _ _ _ 10 0 0 0 (4, 0) dX5_relabel_10 (List.Mem.head _) rfl ?_
  refine ab_gR hG 13 _ _ _ _ 102 4 3 0 (8, 0) dX5_relabel_13 (List.Mem.tail _ (List.Mem.head _)) rfl ?_
  refine ab_iload_n' hG 16 _ _ _ _ 1 _ dX5_relabel_16 rfl ?_
  refine ab_iload_n' hG 17 _ _ _ _ 2 _ dX5_relabel_17 rfl ?_
  refine ab_iastore' hG 18 _ _ _ _ 8 0 24 _ _ dX5_relabel_18 rfl h.1 ?_
  have h := h.2
  have h := h _ rfl
  exact ab_return_' hG 19 _ _ _ dX5_relabel_19 rfl (by decide) h
theorem bl_X5_commit_0 {Q : ab_Po} {G : ab_Gt} (hG : ab_Cl M_X5_commit Q G)  (S : ab_S) (h : ((S 1 0 3) < (12 : Int32) → Sp_X1_record [(.inr (1, 0)), (.inr (4, 0)), (.inl (S 0 0 5)), (.inl (S 0 0 6))] S (ab_back Q G 42 [some (.inr (0, 0))] [(.inr (0, 0))] 0)) ∧ (¬ (S 1 0 3) < (12 : Int32) → Q (.inr 3) S)) : G 0 [some (.inr (0, 0))] [] S 0 := by
  refine ab_aload_n' hG 0 _ _ _ _ 0 _ dX5_commit_0 rfl ?_
  refine ab_gR hG 1 _ _ _ _ 19 0 1 0 (1, 0) dX5_commit_1 (List.Mem.head _) rfl ?_
  refine ab_gI hG 4 _ _ _ _ 105 1 3 0 dX5_commit_4 (List.Mem.tail _ (List.Mem.head _)) rfl ?_
  refine ab_bipush' hG 7 _ _ _ _ 12 12 dX5_commit_7 (by decide) ?_
  refine ab_icmp_lt' hG 9 _ _ _ _ (13) 22 _ _ dX5_commit_9 (by decide) (fun hc => ?_) (fun hc => ?_)
  · have h := h.1 hc
    refine ab_aload_n' hG 22 _ _ _ _ 0 _ dX5_commit_22 rfl ?_
    refine ab_aload_n' hG 23 _ _ _ _ 0 _ dX5_commit_23 rfl ?_
    refine ab_gR hG 24 _ _ _ _ 19 0 1 0 (1, 0) dX5_commit_24 (List.Mem.head _) rfl ?_
    refine ab_aload_n' hG 27 _ _ _ _ 0 _ dX5_commit_27 rfl ?_
    refine ab_gR hG 28 _ _ _ _ 10 0 0 0 (4, 0) dX5_commit_28 (List.Mem.tail _ (List.Mem.tail _ (List.Mem.head _))) rfl ?_
    refine ab_aload_n' hG 31 _ _ _ _ 0 _ dX5_commit_31 rfl ?_
    refine ab_gI hG 32 _ _ _ _ 49 0 5 0 dX5_commit_32 (List.Mem.tail _ (List.Mem.tail _ (List.Mem.tail _ (List.Mem.head _)))) rfl ?_
    refine ab_aload_n' hG 35 _ _ _ _ 0 _ dX5_commit_35 rfl ?_
    refine ab_gI hG 36 _ _ _ _ 52 0 6 0 dX5_commit_36 (List.Mem.tail _ (List.Mem.tail _ (List.Mem.tail _ (List.Mem.tail _ (List.Mem.head _))))) rfl ?_
    exact ab_invv' hG 39 _ [_, _, _] _ _ 0 45 _ 3 1 0 _ (1, _) dX5_commit_39 rfl rfl rfl rfl (Nat.le_of_ble_eq_true rfl) (Nat.le_of_ble_eq_true rfl) h
  · have h := h.2 hc
    exact ab_throw' hG 12 _ _ _ _ 3 rfl (Nat.le_of_ble_eq_true rfl) (Nat.le_of_ble_eq_true rfl) h
theorem bl_X5_commit_42 {Q : ab_Po} {G : ab_Gt} (hG : ab_Cl M_X5_commit Q G) (xs0 : Int32) (S : ab_S) (h : (∀ S1 : ab_S, S1 = ab_su S 0 0 5 xs0 → (∀ S2 : ab_S, S2 = ab_su S1 0 0 6 (-1 : Int32) → Q (.inl (some (S2 0 0 5))) S2))) : G 42 [some (.inr (0, 0))] [(.inl xs0), (.inr (0, 0))] S 0 := by
  refine ab_putfield' hG 42 _ _ _ _ 49 0 5 0 _ dX5_commit_42 (List.Mem.head _) ?_
  have h := h _ rfl
  refine ab_aload_n' hG 45 _ _ _ _ 0 _ dX5_commit_45 rfl ?_
  refine ab_iconst' hG 46 _ _ _ _ (-1) (-1) dX5_commit_46 (by decide) ?_
  refine ab_putfield' hG 47 _ _ _ _ 52 0 6 0 _ dX5_commit_47 (List.Mem.tail _ (List.Mem.head _)) ?_
  have h := h _ rfl
  refine ab_aload_n' hG 50 _ _ _ _ 0 _ dX5_commit_50 rfl ?_
  refine ab_gI hG 51 _ _ _ _ 49 0 5 0 dX5_commit_51 (List.Mem.tail _ (List.Mem.tail _ (List.Mem.tail _ (List.Mem.head _)))) rfl ?_
  exact ab_ireturn' hG 54 _ _ _ _ dX5_commit_54 (Or.inl rfl) (by decide) h
theorem bl_X5_requireCommit_0 {Q : ab_Po} {G : ab_Gt} (hG : ab_Cl M_X5_requireCommit Q G) (x1 : Int32) (S : ab_S) (h : (x1 < 0 → Q (.inr 0) S) ∧ (¬ x1 < 0 → (x1 < (S 1 0 3) → Q (.inl none) S) ∧ (¬ x1 < (S 1 0 3) → Q (.inr 0) S))) : G 0 [some (.inr (0, 0)), some (.inl x1)] [] S 0 := by
  refine ab_iload_n' hG 0 _ _ _ _ 1 _ dX5_requireCommit_0 rfl ?_
  refine ab_if_lt' hG 1 _ _ _ _ (14) 15 _ dX5_requireCommit_1 (by decide) (fun hc => ?_) (fun hc => ?_)
  · have h := h.1 hc
    exact ab_throw' hG 15 _ _ _ _ 0 rfl (Nat.le_of_ble_eq_true rfl) (Nat.le_of_ble_eq_true rfl) h
  · have h := h.2 hc
    refine ab_iload_n' hG 4 _ _ _ _ 1 _ dX5_requireCommit_4 rfl ?_
    refine ab_aload_n' hG 5 _ _ _ _ 0 _ dX5_requireCommit_5 rfl ?_
    refine ab_gR hG 6 _ _ _ _ 19 0 1 0 (1, 0) dX5_requireCommit_6 (List.Mem.head _) rfl ?_
    refine ab_gI hG 9 _ _ _ _ 105 1 3 0 dX5_requireCommit_9 (List.Mem.tail _ (List.Mem.head _)) rfl ?_
    refine ab_icmp_lt' hG 12 _ _ _ _ (13) 25 _ _ dX5_requireCommit_12 (by decide) (fun hc => ?_) (fun hc => ?_)
    · have h := h.1 hc
      exact ab_return_' hG 25 _ _ _ dX5_requireCommit_25 rfl (by decide) h
    · have h := h.2 hc
      exact ab_throw' hG 15 _ _ _ _ 0 rfl (Nat.le_of_ble_eq_true rfl) (Nat.le_of_ble_eq_true rfl) h
theorem bl_X5_checkout_0 {Q : ab_Po} {G : ab_Gt} (hG : ab_Cl M_X5_checkout Q G) (x1 : Int32) (S : ab_S) (h : Sp_X5_requireCommit [(.inr (0, 0)), (.inl x1)] S (ab_back Q G 5 [some (.inr (0, 0)), some (.inl x1)] [] 1)) : G 0 [some (.inr (0, 0)), some (.inl x1)] [] S 0 := by
  refine ab_aload_n' hG 0 _ _ _ _ 0 _ dX5_checkout_0 rfl ?_
  refine ab_iload_n' hG 1 _ _ _ _ 1 _ dX5_checkout_1 rfl ?_
  exact ab_invv' hG 2 _ [_] _ _ 0 110 _ 1 0 1 _ (0, _) dX5_checkout_2 rfl rfl rfl rfl (Nat.le_of_ble_eq_true rfl) (Nat.le_of_ble_eq_true rfl) h
theorem bl_X5_checkout_5 {Q : ab_Po} {G : ab_Gt} (hG : ab_Cl M_X5_checkout Q G) (x1 : Int32) (S : ab_S) (h : vp_in x1 12 ∧ Sp_X4_copyFrom [(.inr (4, 0)), (.inr (4, x1.toNatClampNeg + 1))] S (ab_back Q G 21 [some (.inr (0, 0)), some (.inl x1)] [] 1)) : G 5 [some (.inr (0, 0)), some (.inl x1)] [] S 1 := by
  refine ab_aload_n' hG 5 _ _ _ _ 0 _ dX5_checkout_5 rfl ?_
  refine ab_gR hG 6 _ _ _ _ 10 0 0 0 (4, 0) dX5_checkout_6 (List.Mem.head _) rfl ?_
  refine ab_aload_n' hG 9 _ _ _ _ 0 _ dX5_checkout_9 rfl ?_
  refine ab_gR hG 10 _ _ _ _ 19 0 1 0 (1, 0) dX5_checkout_10 (List.Mem.tail _ (List.Mem.head _)) rfl ?_
  refine ab_gR hG 13 _ _ _ _ 113 1 0 0 (10, 0) dX5_checkout_13 (List.Mem.tail _ (List.Mem.tail _ (List.Mem.head _))) rfl ?_
  refine ab_iload_n' hG 16 _ _ _ _ 1 _ dX5_checkout_16 rfl ?_
  refine ab_aaload2' hG 17 _ _ _ _ 10 0 12 _ dX5_checkout_17 rfl h.1 ?_
  have h := h.2
  exact ab_invv' hG 18 _ [_] _ _ 1 117 _ 1 0 0 _ (4, _) dX5_checkout_18 rfl rfl rfl rfl (Nat.le_of_ble_eq_true rfl) (Nat.le_of_ble_eq_true rfl) h
theorem bl_X5_checkout_21 {Q : ab_Po} {G : ab_Gt} (hG : ab_Cl M_X5_checkout Q G) (x1 : Int32) (S : ab_S) (h : (∀ S1 : ab_S, S1 = ab_su S 0 0 5 x1 → (∀ S2 : ab_S, S2 = ab_su S1 0 0 6 (-1 : Int32) → Q (.inl none) S2))) : G 21 [some (.inr (0, 0)), some (.inl x1)] [] S 1 := by
  refine ab_aload_n' hG 21 _ _ _ _ 0 _ dX5_checkout_21 rfl ?_
  refine ab_iload_n' hG 22 _ _ _ _ 1 _ dX5_checkout_22 rfl ?_
  refine ab_putfield' hG 23 _ _ _ _ 49 0 5 0 _ dX5_checkout_23 (List.Mem.head _) ?_
  have h := h _ rfl
  refine ab_aload_n' hG 26 _ _ _ _ 0 _ dX5_checkout_26 rfl ?_
  refine ab_iconst' hG 27 _ _ _ _ (-1) (-1) dX5_checkout_27 (by decide) ?_
  refine ab_putfield' hG 28 _ _ _ _ 52 0 6 0 _ dX5_checkout_28 (List.Mem.tail _ (List.Mem.head _)) ?_
  have h := h _ rfl
  exact ab_return_' hG 31 _ _ _ dX5_checkout_31 rfl (by decide) h
theorem bl_X5_base_0 {Q : ab_Po} {G : ab_Gt} (hG : ab_Cl M_X5_base Q G) (x1 : Int32) (x2 : Int32) (S : ab_S) (h : Sp_X5_requireCommit [(.inr (0, 0)), (.inl x1)] S (ab_back Q G 5 [some (.inr (0, 0)), some (.inl x1), some (.inl x2)] [] 1)) : G 0 [some (.inr (0, 0)), some (.inl x1), some (.inl x2)] [] S 0 := by
  refine ab_aload_n' hG 0 _ _ _ _ 0 _ dX5_base_0 rfl ?_
  refine ab_iload_n' hG 1 _ _ _ _ 1 _ dX5_base_1 rfl ?_
  exact ab_invv' hG 2 _ [_] _ _ 0 110 _ 1 0 1 _ (0, _) dX5_base_2 rfl rfl rfl rfl (Nat.le_of_ble_eq_true rfl) (Nat.le_of_ble_eq_true rfl) h
theorem bl_X5_base_5 {Q : ab_Po} {G : ab_Gt} (hG : ab_Cl M_X5_base Q G) (x1 : Int32) (x2 : Int32) (S : ab_S) (h : Sp_X5_requireCommit [(.inr (0, 0)), (.inl x2)] S (ab_back Q G 10 [some (.inr (0, 0)), some (.inl x1), some (.inl x2)] [] 2)) : G 5 [some (.inr (0, 0)), some (.inl x1), some (.inl x2)] [] S 1 := by
  refine ab_aload_n' hG 5 _ _ _ _ 0 _ dX5_base_5 rfl ?_
  refine ab_iload_n' hG 6 _ _ _ _ 2 _ dX5_base_6 rfl ?_
  exact ab_invv' hG 7 _ [_] _ _ 1 110 _ 1 0 1 _ (0, _) dX5_base_7 rfl rfl rfl rfl (Nat.le_of_ble_eq_true rfl) (Nat.le_of_ble_eq_true rfl) h
theorem bl_X5_base_10 {Q : ab_Po} {G : ab_Gt} (hG : ab_Cl M_X5_base Q G) (x1 : Int32) (x2 : Int32) (S : ab_S) (h : Sp_X1_baseOf [(.inr (1, 0)), (.inl x1), (.inl x2)] S (ab_back Q G 19 [some (.inr (0, 0)), some (.inl x1), some (.inl x2)] [] 2)) : G 10 [some (.inr (0, 0)), some (.inl x1), some (.inl x2)] [] S 2 := by
  refine ab_aload_n' hG 10 _ _ _ _ 0 _ dX5_base_10 rfl ?_
  refine ab_gR hG 11 _ _ _ _ 19 0 1 0 (1, 0) dX5_base_11 (List.Mem.head _) rfl ?_
  refine ab_iload_n' hG 14 _ _ _ _ 1 _ dX5_base_14 rfl ?_
  refine ab_iload_n' hG 15 _ _ _ _ 2 _ dX5_base_15 rfl ?_
  exact ab_invv' hG 16 _ [_, _] _ _ 2 121 _ 2 1 0 _ (1, _) dX5_base_16 rfl rfl rfl rfl (Nat.le_of_ble_eq_true rfl) (Nat.le_of_ble_eq_true rfl) h
theorem bl_X5_base_19 {Q : ab_Po} {G : ab_Gt} (hG : ab_Cl M_X5_base Q G) (x1 : Int32) (x2 : Int32) (xs0 : Int32) (S : ab_S) (h : Q (.inl (some xs0)) S) : G 19 [some (.inr (0, 0)), some (.inl x1), some (.inl x2)] [(.inl xs0)] S 2 := by
  exact ab_ireturn' hG 19 _ _ _ _ dX5_base_19 (Or.inl rfl) (by decide) h
theorem bl_X5_merge_0 {Q : ab_Po} {G : ab_Gt} (hG : ab_Cl M_X5_merge Q G) (x1 : Int32) (S : ab_S) (h : Sp_X5_requireCommit [(.inr (0, 0)), (.inl x1)] S (ab_back Q G 5 [some (.inr (0, 0)), some (.inl x1), none, none] [] 1)) : G 0 [some (.inr (0, 0)), some (.inl x1), none, none] [] S 0 := by
  refine ab_aload_n' hG 0 _ _ _ _ 0 _ dX5_merge_0 rfl ?_
  refine ab_iload_n' hG 1 _ _ _ _ 1 _ dX5_merge_1 rfl ?_
  exact ab_invv' hG 2 _ [_] _ _ 0 110 _ 1 0 1 _ (0, _) dX5_merge_2 rfl rfl rfl rfl (Nat.le_of_ble_eq_true rfl) (Nat.le_of_ble_eq_true rfl) h
theorem bl_X5_merge_5 {Q : ab_Po} {G : ab_Gt} (hG : ab_Cl M_X5_merge Q G) (x1 : Int32) (S : ab_S) (h : vp_in (S 0 0 5) 12 ∧ ((S 0 0 6) = (-1 : Int32) → Sp_X4_isSameAs [(.inr (4, 0)), (.inr (4, (S 0 0 5).toNatClampNeg + 1))] S (ab_back Q G 34 [some (.inr (0, 0)), some (.inl x1), some (.inr (4, (S 0 0 5).toNatClampNeg + 1)), none] [] 1)) ∧ (¬ (S 0 0 6) = (-1 : Int32) → Q (.inr 4) S)) : G 5 [some (.inr (0, 0)), some (.inl x1), none, none] [] S 1 := by
  refine ab_aload_n' hG 5 _ _ _ _ 0 _ dX5_merge_5 rfl ?_
  refine ab_gR hG 6 _ _ _ _ 19 0 1 0 (1, 0) dX5_merge_6 (List.Mem.head _) rfl ?_
  refine ab_gR hG 9 _ _ _ _ 113 1 0 0 (10, 0) dX5_merge_9 (List.Mem.tail _ (List.Mem.head _)) rfl ?_
  refine ab_aload_n' hG 12 _ _ _ _ 0 _ dX5_merge_12 rfl ?_
  refine ab_gI hG 13 _ _ _ _ 49 0 5 0 dX5_merge_13 (List.Mem.tail _ (List.Mem.tail _ (List.Mem.head _))) rfl ?_
  refine ab_aaload2' hG 16 _ _ _ _ 10 0 12 _ dX5_merge_16 rfl h.1 ?_
  have h := h.2
  refine ab_astore_n' hG 17 _ _ _ _ 2 _ dX5_merge_17 (Nat.le_of_ble_eq_true rfl) ?_
  refine ab_aload_n' hG 18 _ _ _ _ 0 _ dX5_merge_18 rfl ?_
  refine ab_gI hG 19 _ _ _ _ 52 0 6 0 dX5_merge_19 (List.Mem.tail _ (List.Mem.tail _ (List.Mem.tail _ (List.Mem.head _)))) rfl ?_
  refine ab_iconst' hG 22 _ _ _ _ (-1) (-1) dX5_merge_22 (by decide) ?_
  refine ab_icmp_ne' hG 23 _ _ _ _ (14) 37 _ _ dX5_merge_23 (by decide) (fun hc => ?_) (fun hc => ?_)
  · have h := h.2 hc
    exact ab_throw' hG 37 _ _ _ _ 4 rfl (Nat.le_of_ble_eq_true rfl) (Nat.le_of_ble_eq_true rfl) h
  · have h := h.1 hc
    refine ab_aload_n' hG 26 _ _ _ _ 0 _ dX5_merge_26 rfl ?_
    refine ab_gR hG 27 _ _ _ _ 10 0 0 0 (4, 0) dX5_merge_27 (List.Mem.tail _ (List.Mem.tail _ (List.Mem.tail _ (List.Mem.tail _ (List.Mem.head _))))) rfl ?_
    refine ab_aload_n' hG 30 _ _ _ _ 2 _ dX5_merge_30 rfl ?_
    exact ab_invv' hG 31 _ [_] _ _ 1 125 _ 1 1 0 _ (4, _) dX5_merge_31 rfl rfl rfl rfl (Nat.le_of_ble_eq_true rfl) (Nat.le_of_ble_eq_true rfl) h
theorem bl_X5_merge_34 {Q : ab_Po} {G : ab_Gt} (hG : ab_Cl M_X5_merge Q G) (x1 : Int32) (t2 : Nat) (xs0 : Int32) (S : ab_S) (h : (xs0 = 0 → Q (.inr 4) S) ∧ (¬ xs0 = 0 → vp_in x1 12 ∧ Sp_X1_baseOf [(.inr (1, 0)), (.inl (S 0 0 5)), (.inl x1)] S (ab_back Q G 80 [some (.inr (0, 0)), some (.inl x1), some (.inr (4, t2)), none] [(.inr (10, 0)), (.inr (4, x1.toNatClampNeg + 1)), (.inr (4, t2)), (.inr (2, 0))] 1))) : G 34 [some (.inr (0, 0)), some (.inl x1), some (.inr (4, t2)), none] [(.inl xs0)] S 1 := by
  refine ab_if_ne' hG 34 _ _ _ _ (13) 47 _ dX5_merge_34 (by decide) (fun hc => ?_) (fun hc => ?_)
  · have h := h.2 hc
    refine ab_aload_n' hG 47 _ _ _ _ 0 _ dX5_merge_47 rfl ?_
    refine ab_gR hG 48 _ _ _ _ 26 0 2 0 (2, 0) dX5_merge_48 (List.Mem.tail _ (List.Mem.tail _ (List.Mem.tail _ (List.Mem.tail _ (List.Mem.tail _ (List.Mem.head _)))))) rfl ?_
    refine ab_aload_n' hG 51 _ _ _ _ 2 _ dX5_merge_51 rfl ?_
    refine ab_aload_n' hG 52 _ _ _ _ 0 _ dX5_merge_52 rfl ?_
    refine ab_gR hG 53 _ _ _ _ 19 0 1 0 (1, 0) dX5_merge_53 (List.Mem.head _) rfl ?_
    refine ab_gR hG 56 _ _ _ _ 113 1 0 0 (10, 0) dX5_merge_56 (List.Mem.tail _ (List.Mem.head _)) rfl ?_
    refine ab_iload_n' hG 59 _ _ _ _ 1 _ dX5_merge_59 rfl ?_
    refine ab_aaload2' hG 60 _ _ _ _ 10 0 12 _ dX5_merge_60 rfl h.1 ?_
    have h := h.2
    refine ab_aload_n' hG 61 _ _ _ _ 0 _ dX5_merge_61 rfl ?_
    refine ab_gR hG 62 _ _ _ _ 19 0 1 0 (1, 0) dX5_merge_62 (List.Mem.head _) rfl ?_
    refine ab_gR hG 65 _ _ _ _ 113 1 0 0 (10, 0) dX5_merge_65 (List.Mem.tail _ (List.Mem.head _)) rfl ?_
    refine ab_aload_n' hG 68 _ _ _ _ 0 _ dX5_merge_68 rfl ?_
    refine ab_gR hG 69 _ _ _ _ 19 0 1 0 (1, 0) dX5_merge_69 (List.Mem.head _) rfl ?_
    refine ab_aload_n' hG 72 _ _ _ _ 0 _ dX5_merge_72 rfl ?_
    refine ab_gI hG 73 _ _ _ _ 49 0 5 0 dX5_merge_73 (List.Mem.tail _ (List.Mem.tail _ (List.Mem.head _))) rfl ?_
    refine ab_iload_n' hG 76 _ _ _ _ 1 _ dX5_merge_76 rfl ?_
    exact ab_invv' hG 77 _ [_, _] _ _ 1 121 _ 2 1 0 _ (1, _) dX5_merge_77 rfl rfl rfl rfl (Nat.le_of_ble_eq_true rfl) (Nat.le_of_ble_eq_true rfl) h
  · have h := h.1 hc
    exact ab_throw' hG 37 _ _ _ _ 4 rfl (Nat.le_of_ble_eq_true rfl) (Nat.le_of_ble_eq_true rfl) h
theorem bl_X5_merge_80 {Q : ab_Po} {G : ab_Gt} (hG : ab_Cl M_X5_merge Q G) (x1 : Int32) (t2 : Nat) (xs0 : Int32) (ts2 : Nat) (ts3 : Nat) (S : ab_S) (h : vp_in xs0 12 ∧ Sp_X2_run [(.inr (2, 0)), (.inr (4, ts3)), (.inr (4, ts2)), (.inr (4, xs0.toNatClampNeg + 1))] S (ab_back Q G 84 [some (.inr (0, 0)), some (.inl x1), some (.inr (4, t2)), none] [] 1)) : G 80 [some (.inr (0, 0)), some (.inl x1), some (.inr (4, t2)), none] [(.inl xs0), (.inr (10, 0)), (.inr (4, ts2)), (.inr (4, ts3)), (.inr (2, 0))] S 1 := by
  refine ab_aaload2' hG 80 _ _ _ _ 10 0 12 _ dX5_merge_80 rfl h.1 ?_
  have h := h.2
  exact ab_invv' hG 81 _ [_, _, _] _ _ 1 134 _ 3 1 0 _ (2, _) dX5_merge_81 rfl rfl rfl rfl (Nat.le_of_ble_eq_true rfl) (Nat.le_of_ble_eq_true rfl) h
theorem bl_X5_merge_84 {Q : ab_Po} {G : ab_Gt} (hG : ab_Cl M_X5_merge Q G) (x1 : Int32) (t2 : Nat) (xs0 : Int32) (S : ab_S) (h : (xs0 = 0 → Sp_X4_copyFrom [(.inr (4, 0)), (.inr (4, 13))] S (ab_back Q G 103 [some (.inr (0, 0)), some (.inl x1), some (.inr (4, t2)), some (.inl xs0)] [] 1)) ∧ (¬ xs0 = 0 → Q (.inl (some xs0)) S)) : G 84 [some (.inr (0, 0)), some (.inl x1), some (.inr (4, t2)), none] [(.inl xs0)] S 1 := by
  refine ab_istore_n' hG 84 _ _ _ _ 3 _ dX5_merge_84 (Nat.le_of_ble_eq_true rfl) ?_
  refine ab_iload_n' hG 85 _ _ _ _ 3 _ dX5_merge_85 rfl ?_
  refine ab_if_ne' hG 86 _ _ _ _ (22) 108 _ dX5_merge_86 (by decide) (fun hc => ?_) (fun hc => ?_)
  · have h := h.2 hc
    refine ab_iload_n' hG 108 _ _ _ _ 3 _ dX5_merge_108 rfl ?_
    exact ab_ireturn' hG 109 _ _ _ _ dX5_merge_109 (Or.inl rfl) (by decide) h
  · have h := h.1 hc
    refine ab_aload_n' hG 89 _ _ _ _ 0 _ dX5_merge_89 rfl ?_
    refine ab_gR hG 90 _ _ _ _ 10 0 0 0 (4, 0) dX5_merge_90 (List.Mem.tail _ (List.Mem.tail _ (List.Mem.tail _ (List.Mem.tail _ (List.Mem.head _))))) rfl ?_
    refine ab_aload_n' hG 93 _ _ _ _ 0 _ dX5_merge_93 rfl ?_
    refine ab_gR hG 94 _ _ _ _ 26 0 2 0 (2, 0) dX5_merge_94 (List.Mem.tail _ (List.Mem.tail _ (List.Mem.tail _ (List.Mem.tail _ (List.Mem.tail _ (List.Mem.head _)))))) rfl ?_
    refine ab_gR hG 97 _ _ _ _ 138 2 0 0 (4, 13) dX5_merge_97 (List.Mem.tail _ (List.Mem.tail _ (List.Mem.tail _ (List.Mem.tail _ (List.Mem.tail _ (List.Mem.tail _ (List.Mem.head _))))))) rfl ?_
    exact ab_invv' hG 100 _ [_] _ _ 1 117 _ 1 0 0 _ (4, _) dX5_merge_100 rfl rfl rfl rfl (Nat.le_of_ble_eq_true rfl) (Nat.le_of_ble_eq_true rfl) h
theorem bl_X5_merge_103 {Q : ab_Po} {G : ab_Gt} (hG : ab_Cl M_X5_merge Q G) (x1 : Int32) (t2 : Nat) (x3 : Int32) (S : ab_S) (h : (∀ S1 : ab_S, S1 = ab_su S 0 0 6 x1 → Q (.inl (some x3)) S1)) : G 103 [some (.inr (0, 0)), some (.inl x1), some (.inr (4, t2)), some (.inl x3)] [] S 1 := by
  refine ab_aload_n' hG 103 _ _ _ _ 0 _ dX5_merge_103 rfl ?_
  refine ab_iload_n' hG 104 _ _ _ _ 1 _ dX5_merge_104 rfl ?_
  refine ab_putfield' hG 105 _ _ _ _ 52 0 6 0 _ dX5_merge_105 (List.Mem.head _) ?_
  have h := h _ rfl
  refine ab_iload_n' hG 108 _ _ _ _ 3 _ dX5_merge_108 rfl ?_
  exact ab_ireturn' hG 109 _ _ _ _ dX5_merge_109 (Or.inl rfl) (by decide) h
theorem bl_X5_conflict_0 {Q : ab_Po} {G : ab_Gt} (hG : ab_Cl M_X5_conflict Q G) (x1 : Int32) (S : ab_S) (h : (x1 < 0 → Q (.inr 0) S) ∧ (¬ x1 < 0 → (x1 < (S 2 0 2) → vp_in x1 24 ∧ Q (.inl (some (S 14 0 x1.toNatClampNeg))) S) ∧ (¬ x1 < (S 2 0 2) → Q (.inr 0) S))) : G 0 [some (.inr (0, 0)), some (.inl x1)] [] S 0 := by
  refine ab_iload_n' hG 0 _ _ _ _ 1 _ dX5_conflict_0 rfl ?_
  refine ab_if_lt' hG 1 _ _ _ _ (14) 15 _ dX5_conflict_1 (by decide) (fun hc => ?_) (fun hc => ?_)
  · have h := h.1 hc
    exact ab_throw' hG 15 _ _ _ _ 0 rfl (Nat.le_of_ble_eq_true rfl) (Nat.le_of_ble_eq_true rfl) h
  · have h := h.2 hc
    refine ab_iload_n' hG 4 _ _ _ _ 1 _ dX5_conflict_4 rfl ?_
    refine ab_aload_n' hG 5 _ _ _ _ 0 _ dX5_conflict_5 rfl ?_
    refine ab_gR hG 6 _ _ _ _ 26 0 2 0 (2, 0) dX5_conflict_6 (List.Mem.head _) rfl ?_
    refine ab_gI hG 9 _ _ _ _ 141 2 2 0 dX5_conflict_9 (List.Mem.tail _ (List.Mem.head _)) rfl ?_
    refine ab_icmp_lt' hG 12 _ _ _ _ (13) 25 _ _ dX5_conflict_12 (by decide) (fun hc => ?_) (fun hc => ?_)
    · have h := h.1 hc
      refine ab_aload_n' hG 25 _ _ _ _ 0 _ dX5_conflict_25 rfl ?_
      refine ab_gR hG 26 _ _ _ _ 26 0 2 0 (2, 0) dX5_conflict_26 (List.Mem.head _) rfl ?_
      refine ab_gR hG 29 _ _ _ _ 149 2 1 0 (14, 0) dX5_conflict_29 (List.Mem.tail _ (List.Mem.tail _ (List.Mem.head _))) rfl ?_
      refine ab_iload_n' hG 32 _ _ _ _ 1 _ dX5_conflict_32 rfl ?_
      refine ab_iaload' hG 33 _ _ _ _ 14 0 24 _ dX5_conflict_33 rfl h.1 ?_
      have h := h.2
      exact ab_ireturn' hG 34 _ _ _ _ dX5_conflict_34 (Or.inl rfl) (by decide) h
    · have h := h.2 hc
      exact ab_throw' hG 15 _ _ _ _ 0 rfl (Nat.le_of_ble_eq_true rfl) (Nat.le_of_ble_eq_true rfl) h
theorem bl_X5_about_0 {Q : ab_Po} {G : ab_Gt} (hG : ab_Cl M_X5_about Q G) (x1 : Int32) (x2 : Int32) (S : ab_S) (h : Sp_X5_requireNode [(.inr (0, 0)), (.inl x1)] S (ab_back Q G 5 [some (.inr (0, 0)), some (.inl x1), some (.inl x2)] [] 1)) : G 0 [some (.inr (0, 0)), some (.inl x1), some (.inl x2)] [] S 0 := by
  refine ab_aload_n' hG 0 _ _ _ _ 0 _ dX5_about_0 rfl ?_
  refine ab_iload_n' hG 1 _ _ _ _ 1 _ dX5_about_1 rfl ?_
  exact ab_invv' hG 2 _ [_] _ _ 0 55 _ 1 0 1 _ (0, _) dX5_about_2 rfl rfl rfl rfl (Nat.le_of_ble_eq_true rfl) (Nat.le_of_ble_eq_true rfl) h
theorem bl_X5_about_5 {Q : ab_Po} {G : ab_Gt} (hG : ab_Cl M_X5_about Q G) (x1 : Int32) (x2 : Int32) (S : ab_S) (h : G 6 [some (.inr (0, 0)), some (.inl x1), some (.inl x2)] [(.inl x2)] S 1) : G 5 [some (.inr (0, 0)), some (.inl x1), some (.inl x2)] [] S 1 := by
  refine ab_iload_n' hG 5 _ _ _ _ 2 _ dX5_about_5 rfl ?_
  exact h
theorem bl_X5_about_6 {Q : ab_Po} {G : ab_Gt} (hG : ab_Cl M_X5_about Q G) (x1 : Int32) (x2 : Int32) (xs0 : Int32) (S : ab_S) (h : (xs0 = 0 → G 36 [some (.inr (0, 0)), some (.inl x1), some (.inl x2)] [] S 1) ∧ (xs0 = 1 → G 46 [some (.inr (0, 0)), some (.inl x1), some (.inl x2)] [] S 1) ∧ (xs0 = 2 → G 56 [some (.inr (0, 0)), some (.inl x1), some (.inl x2)] [] S 1) ∧ (xs0 = 3 → G 65 [some (.inr (0, 0)), some (.inl x1), some (.inl x2)] [] S 1) ∧ (¬ xs0 = 0 → ¬ xs0 = 1 → ¬ xs0 = 2 → ¬ xs0 = 3 → G 75 [some (.inr (0, 0)), some (.inl x1), some (.inl x2)] [] S 1)) : G 6 [some (.inr (0, 0)), some (.inl x1), some (.inl x2)] [(.inl xs0)] S 1 := by
  by_cases e0 : xs0 = 0
  · have h := h.1 e0
    rw [e0]
    refine ab_swI' hG 6 _ _ _ _ (69) 0 3 _ _ _ (30) 36 dX5_about_6 (by decide) (by decide) rfl (by decide) ?_
    exact h
  by_cases e1 : xs0 = 1
  · have h := h.2.1 e1
    rw [e1]
    refine ab_swI' hG 6 _ _ _ _ (69) 0 3 _ _ _ (40) 46 dX5_about_6 (by decide) (by decide) rfl (by decide) ?_
    exact h
  by_cases e2 : xs0 = 2
  · have h := h.2.2.1 e2
    rw [e2]
    refine ab_swI' hG 6 _ _ _ _ (69) 0 3 _ _ _ (50) 56 dX5_about_6 (by decide) (by decide) rfl (by decide) ?_
    exact h
  by_cases e3 : xs0 = 3
  · have h := h.2.2.2.1 e3
    rw [e3]
    refine ab_swI' hG 6 _ _ _ _ (69) 0 3 _ _ _ (59) 65 dX5_about_6 (by decide) (by decide) rfl (by decide) ?_
    exact h
  have h := h.2.2.2.2 e0 e1 e2 e3
  refine ab_swO' hG 6 _ _ _ _ (69) 0 3 _ _ _ 75 dX5_about_6 (ab_swx 4 3 (by decide) (by intro j hj; match j, hj with | 0, _ => exact e0 | 1, _ => exact e1 | 2, _ => exact e2 | 3, _ => exact e3)) (by decide) ?_
  exact h
theorem bl_X5_about_36 {Q : ab_Po} {G : ab_Gt} (hG : ab_Cl M_X5_about Q G) (x1 : Int32) (x2 : Int32) (S : ab_S) (h : vp_in x1 24 ∧ Q (.inl (some (S 8 0 x1.toNatClampNeg))) S) : G 36 [some (.inr (0, 0)), some (.inl x1), some (.inl x2)] [] S 1 := by
  refine ab_aload_n' hG 36 _ _ _ _ 0 _ dX5_about_36 rfl ?_
  refine ab_gR hG 37 _ _ _ _ 10 0 0 0 (4, 0) dX5_about_37 (List.Mem.head _) rfl ?_
  refine ab_gR hG 40 _ _ _ _ 102 4 3 0 (8, 0) dX5_about_40 (List.Mem.tail _ (List.Mem.head _)) rfl ?_
  refine ab_iload_n' hG 43 _ _ _ _ 1 _ dX5_about_43 rfl ?_
  refine ab_iaload' hG 44 _ _ _ _ 8 0 24 _ dX5_about_44 rfl h.1 ?_
  have h := h.2
  exact ab_ireturn' hG 45 _ _ _ _ dX5_about_45 (Or.inl rfl) (by decide) h
theorem bl_X5_about_46 {Q : ab_Po} {G : ab_Gt} (hG : ab_Cl M_X5_about Q G) (x1 : Int32) (x2 : Int32) (S : ab_S) (h : vp_in x1 24 ∧ Q (.inl (some (S 7 0 x1.toNatClampNeg))) S) : G 46 [some (.inr (0, 0)), some (.inl x1), some (.inl x2)] [] S 1 := by
  refine ab_aload_n' hG 46 _ _ _ _ 0 _ dX5_about_46 rfl ?_
  refine ab_gR hG 47 _ _ _ _ 10 0 0 0 (4, 0) dX5_about_47 (List.Mem.head _) rfl ?_
  refine ab_gR hG 50 _ _ _ _ 94 4 2 0 (7, 0) dX5_about_50 (List.Mem.tail _ (List.Mem.tail _ (List.Mem.head _))) rfl ?_
  refine ab_iload_n' hG 53 _ _ _ _ 1 _ dX5_about_53 rfl ?_
  refine ab_iaload' hG 54 _ _ _ _ 7 0 24 _ dX5_about_54 rfl h.1 ?_
  have h := h.2
  exact ab_ireturn' hG 55 _ _ _ _ dX5_about_55 (Or.inl rfl) (by decide) h
theorem bl_X5_about_56 {Q : ab_Po} {G : ab_Gt} (hG : ab_Cl M_X5_about Q G) (x1 : Int32) (x2 : Int32) (S : ab_S) (h : Sp_X4_childCount [(.inr (4, 0)), (.inl x1)] S (ab_back Q G 64 [some (.inr (0, 0)), some (.inl x1), some (.inl x2)] [] 1)) : G 56 [some (.inr (0, 0)), some (.inl x1), some (.inl x2)] [] S 1 := by
  refine ab_aload_n' hG 56 _ _ _ _ 0 _ dX5_about_56 rfl ?_
  refine ab_gR hG 57 _ _ _ _ 10 0 0 0 (4, 0) dX5_about_57 (List.Mem.head _) rfl ?_
  refine ab_iload_n' hG 60 _ _ _ _ 1 _ dX5_about_60 rfl ?_
  exact ab_invv' hG 61 _ [_] _ _ 1 59 _ 1 1 0 _ (4, _) dX5_about_61 rfl rfl rfl rfl (Nat.le_of_ble_eq_true rfl) (Nat.le_of_ble_eq_true rfl) h
theorem bl_X5_about_64 {Q : ab_Po} {G : ab_Gt} (hG : ab_Cl M_X5_about Q G) (x1 : Int32) (x2 : Int32) (xs0 : Int32) (S : ab_S) (h : Q (.inl (some xs0)) S) : G 64 [some (.inr (0, 0)), some (.inl x1), some (.inl x2)] [(.inl xs0)] S 1 := by
  exact ab_ireturn' hG 64 _ _ _ _ dX5_about_64 (Or.inl rfl) (by decide) h
theorem bl_X5_about_65 {Q : ab_Po} {G : ab_Gt} (hG : ab_Cl M_X5_about Q G) (x1 : Int32) (x2 : Int32) (S : ab_S) (h : vp_in x1 24 ∧ Q (.inl (some (S 6 0 x1.toNatClampNeg))) S) : G 65 [some (.inr (0, 0)), some (.inl x1), some (.inl x2)] [] S 1 := by
  refine ab_aload_n' hG 65 _ _ _ _ 0 _ dX5_about_65 rfl ?_
  refine ab_gR hG 66 _ _ _ _ 10 0 0 0 (4, 0) dX5_about_66 (List.Mem.head _) rfl ?_
  refine ab_gR hG 69 _ _ _ _ 152 4 1 0 (6, 0) dX5_about_69 (List.Mem.tail _ (List.Mem.tail _ (List.Mem.tail _ (List.Mem.head _)))) rfl ?_
  refine ab_iload_n' hG 72 _ _ _ _ 1 _ dX5_about_72 rfl ?_
  refine ab_iaload' hG 73 _ _ _ _ 6 0 24 _ dX5_about_73 rfl h.1 ?_
  have h := h.2
  exact ab_ireturn' hG 74 _ _ _ _ dX5_about_74 (Or.inl rfl) (by decide) h
theorem bl_X5_about_75 {Q : ab_Po} {G : ab_Gt} (hG : ab_Cl M_X5_about Q G) (x1 : Int32) (x2 : Int32) (S : ab_S) (h : Q (.inr 1) S) : G 75 [some (.inr (0, 0)), some (.inl x1), some (.inl x2)] [] S 1 := by
  exact ab_throw' hG 75 _ _ _ _ 1 rfl (Nat.le_of_ble_eq_true rfl) (Nat.le_of_ble_eq_true rfl) h
theorem bl_X5_child_0 {Q : ab_Po} {G : ab_Gt} (hG : ab_Cl M_X5_child Q G) (x1 : Int32) (x2 : Int32) (S : ab_S) (h : Sp_X5_requireNode [(.inr (0, 0)), (.inl x1)] S (ab_back Q G 5 [some (.inr (0, 0)), some (.inl x1), some (.inl x2)] [] 1)) : G 0 [some (.inr (0, 0)), some (.inl x1), some (.inl x2)] [] S 0 := by
  refine ab_aload_n' hG 0 _ _ _ _ 0 _ dX5_child_0 rfl ?_
  refine ab_iload_n' hG 1 _ _ _ _ 1 _ dX5_child_1 rfl ?_
  exact ab_invv' hG 2 _ [_] _ _ 0 55 _ 1 0 1 _ (0, _) dX5_child_2 rfl rfl rfl rfl (Nat.le_of_ble_eq_true rfl) (Nat.le_of_ble_eq_true rfl) h
theorem bl_X5_child_5 {Q : ab_Po} {G : ab_Gt} (hG : ab_Cl M_X5_child Q G) (x1 : Int32) (x2 : Int32) (S : ab_S) (h : Sp_X4_childCount [(.inr (4, 0)), (.inl x1)] S (ab_back Q G 14 [some (.inr (0, 0)), some (.inl x1), some (.inl x2)] [(.inl x2)] 1)) : G 5 [some (.inr (0, 0)), some (.inl x1), some (.inl x2)] [] S 1 := by
  refine ab_iload_n' hG 5 _ _ _ _ 2 _ dX5_child_5 rfl ?_
  refine ab_aload_n' hG 6 _ _ _ _ 0 _ dX5_child_6 rfl ?_
  refine ab_gR hG 7 _ _ _ _ 10 0 0 0 (4, 0) dX5_child_7 (List.Mem.head _) rfl ?_
  refine ab_iload_n' hG 10 _ _ _ _ 1 _ dX5_child_10 rfl ?_
  exact ab_invv' hG 11 _ [_] _ _ 1 59 _ 1 1 0 _ (4, _) dX5_child_11 rfl rfl rfl rfl (Nat.le_of_ble_eq_true rfl) (Nat.le_of_ble_eq_true rfl) h
theorem bl_X5_child_14 {Q : ab_Po} {G : ab_Gt} (hG : ab_Cl M_X5_child Q G) (x1 : Int32) (x2 : Int32) (xs0 : Int32) (xs1 : Int32) (S : ab_S) (h : Sp_X5_requirePlace [(.inl xs1), (.inl (xs0 - (1 : Int32)))] S (ab_back Q G 19 [some (.inr (0, 0)), some (.inl x1), some (.inl x2)] [] 2)) : G 14 [some (.inr (0, 0)), some (.inl x1), some (.inl x2)] [(.inl xs0), (.inl xs1)] S 1 := by
  refine ab_iconst' hG 14 _ _ _ _ 1 1 dX5_child_14 (by decide) ?_
  refine ab_isub' hG 15 _ _ _ _ _ _ dX5_child_15 ?_
  exact ab_invs' hG 16 _ [_, _] _ _ 1 63 _ 2 0 1 _ dX5_child_16 rfl rfl (Nat.le_of_ble_eq_true rfl) (Nat.le_of_ble_eq_true rfl) h
theorem bl_X5_child_19 {Q : ab_Po} {G : ab_Gt} (hG : ab_Cl M_X5_child Q G) (x1 : Int32) (x2 : Int32) (S : ab_S) (h : Sp_X4_slotFor [(.inr (4, 0)), (.inl x1), (.inl x2)] S (ab_back Q G 35 [some (.inr (0, 0)), some (.inl x1), some (.inl x2)] [(.inr (5, 0))] 2)) : G 19 [some (.inr (0, 0)), some (.inl x1), some (.inl x2)] [] S 2 := by
  refine ab_aload_n' hG 19 _ _ _ _ 0 _ dX5_child_19 rfl ?_
  refine ab_gR hG 20 _ _ _ _ 10 0 0 0 (4, 0) dX5_child_20 (List.Mem.head _) rfl ?_
  refine ab_gR hG 23 _ _ _ _ 160 4 0 0 (5, 0) dX5_child_23 (List.Mem.tail _ (List.Mem.head _)) rfl ?_
  refine ab_aload_n' hG 26 _ _ _ _ 0 _ dX5_child_26 rfl ?_
  refine ab_gR hG 27 _ _ _ _ 10 0 0 0 (4, 0) dX5_child_27 (List.Mem.head _) rfl ?_
  refine ab_iload_n' hG 30 _ _ _ _ 1 _ dX5_child_30 rfl ?_
  refine ab_iload_n' hG 31 _ _ _ _ 2 _ dX5_child_31 rfl ?_
  exact ab_invv' hG 32 _ [_, _] _ _ 2 163 _ 2 1 0 _ (4, _) dX5_child_32 rfl rfl rfl rfl (Nat.le_of_ble_eq_true rfl) (Nat.le_of_ble_eq_true rfl) h
theorem bl_X5_child_35 {Q : ab_Po} {G : ab_Gt} (hG : ab_Cl M_X5_child Q G) (x1 : Int32) (x2 : Int32) (xs0 : Int32) (S : ab_S) (h : vp_in xs0 24 ∧ Q (.inl (some (S 5 0 xs0.toNatClampNeg))) S) : G 35 [some (.inr (0, 0)), some (.inl x1), some (.inl x2)] [(.inl xs0), (.inr (5, 0))] S 2 := by
  refine ab_iaload' hG 35 _ _ _ _ 5 0 24 _ dX5_child_35 rfl h.1 ?_
  have h := h.2
  exact ab_ireturn' hG 36 _ _ _ _ dX5_child_36 (Or.inl rfl) (by decide) h
theorem bl_X5_nodes_0 {Q : ab_Po} {G : ab_Gt} (hG : ab_Cl M_X5_nodes Q G) (x1 : Int32) (S : ab_S) (h : (x1 = 0 → Q (.inl (some (S 4 0 4))) S) ∧ (¬ x1 = 0 → Q (.inl (some (S 0 0 4))) S)) : G 0 [some (.inr (0, 0)), some (.inl x1)] [] S 0 := by
  refine ab_iload_n' hG 0 _ _ _ _ 1 _ dX5_nodes_0 rfl ?_
  refine ab_if_eq' hG 1 _ _ _ _ (10) 11 _ dX5_nodes_1 (by decide) (fun hc => ?_) (fun hc => ?_)
  · have h := h.1 hc
    refine ab_aload_n' hG 11 _ _ _ _ 0 _ dX5_nodes_11 rfl ?_
    refine ab_gR hG 12 _ _ _ _ 10 0 0 0 (4, 0) dX5_nodes_12 (List.Mem.tail _ (List.Mem.head _)) rfl ?_
    refine ab_gI hG 15 _ _ _ _ 166 4 4 0 dX5_nodes_15 (List.Mem.tail _ (List.Mem.tail _ (List.Mem.head _))) rfl ?_
    exact ab_ireturn' hG 18 _ _ _ _ dX5_nodes_18 (Or.inl rfl) (by decide) h
  · have h := h.2 hc
    refine ab_aload_n' hG 4 _ _ _ _ 0 _ dX5_nodes_4 rfl ?_
    refine ab_gI hG 5 _ _ _ _ 41 0 4 0 dX5_nodes_5 (List.Mem.head _) rfl ?_
    refine ab_goto' hG 8 _ _ _ _ (10) 18 dX5_nodes_8 (by decide) ?_
    exact ab_ireturn' hG 18 _ _ _ _ dX5_nodes_18 (Or.inl rfl) (by decide) h
theorem bl_X5_count_0 {Q : ab_Po} {G : ab_Gt} (hG : ab_Cl M_X5_count Q G) (x1 : Int32) (S : ab_S) (h : Sp_X3_follow [(.inl x1), (.inr (4, 0))] S (ab_back Q G 8 [some (.inr (0, 0)), some (.inl x1)] [] 0)) : G 0 [some (.inr (0, 0)), some (.inl x1)] [] S 0 := by
  refine ab_iload_n' hG 0 _ _ _ _ 1 _ dX5_count_0 rfl ?_
  refine ab_aload_n' hG 1 _ _ _ _ 0 _ dX5_count_1 rfl ?_
  refine ab_gR hG 2 _ _ _ _ 10 0 0 0 (4, 0) dX5_count_2 (List.Mem.head _) rfl ?_
  exact ab_invs' hG 5 _ [_, _] _ _ 0 167 _ 2 1 0 _ dX5_count_5 rfl rfl (Nat.le_of_ble_eq_true rfl) (Nat.le_of_ble_eq_true rfl) h
theorem bl_X5_count_8 {Q : ab_Po} {G : ab_Gt} (hG : ab_Cl M_X5_count Q G) (x1 : Int32) (xs0 : Int32) (S : ab_S) (h : Sp_J6_bitCount_0f7a4 [(.inl xs0)] S (ab_back Q G 11 [some (.inr (0, 0)), some (.inl x1)] [] 0)) : G 8 [some (.inr (0, 0)), some (.inl x1)] [(.inl xs0)] S 0 := by
  exact ab_invs' hG 8 _ [_] _ _ 0 173 _ 1 1 0 _ dX5_count_8 rfl rfl (Nat.le_of_ble_eq_true rfl) (Nat.le_of_ble_eq_true rfl) h
theorem bl_X5_count_11 {Q : ab_Po} {G : ab_Gt} (hG : ab_Cl M_X5_count Q G) (x1 : Int32) (xs0 : Int32) (S : ab_S) (h : Q (.inl (some xs0)) S) : G 11 [some (.inr (0, 0)), some (.inl x1)] [(.inl xs0)] S 0 := by
  exact ab_ireturn' hG 11 _ _ _ _ dX5_count_11 (Or.inl rfl) (by decide) h
theorem bl_X5_find_0 {Q : ab_Po} {G : ab_Gt} (hG : ab_Cl M_X5_find Q G) (x1 : Int32) (x2 : Int32) (S : ab_S) (h : Sp_X3_follow [(.inl x1), (.inr (4, 0))] S (ab_back Q G 8 [some (.inr (0, 0)), some (.inl x1), some (.inl x2), none] [] 0)) : G 0 [some (.inr (0, 0)), some (.inl x1), some (.inl x2), none] [] S 0 := by
  refine ab_iload_n' hG 0 _ _ _ _ 1 _ dX5_find_0 rfl ?_
  refine ab_aload_n' hG 1 _ _ _ _ 0 _ dX5_find_1 rfl ?_
  refine ab_gR hG 2 _ _ _ _ 10 0 0 0 (4, 0) dX5_find_2 (List.Mem.head _) rfl ?_
  exact ab_invs' hG 5 _ [_, _] _ _ 0 167 _ 2 1 0 _ dX5_find_5 rfl rfl (Nat.le_of_ble_eq_true rfl) (Nat.le_of_ble_eq_true rfl) h
theorem bl_X5_find_8 {Q : ab_Po} {G : ab_Gt} (hG : ab_Cl M_X5_find Q G) (x1 : Int32) (x2 : Int32) (xs0 : Int32) (S : ab_S) (h : (x2 < 0 → Q (.inr 0) S) ∧ (¬ x2 < 0 → Sp_J6_bitCount_0f7a4 [(.inl xs0)] S (ab_back Q G 18 [some (.inr (0, 0)), some (.inl x1), some (.inl x2), some (.inl xs0)] [(.inl x2)] 0))) : G 8 [some (.inr (0, 0)), some (.inl x1), some (.inl x2), none] [(.inl xs0)] S 0 := by
  refine ab_istore_n' hG 8 _ _ _ _ 3 _ dX5_find_8 (Nat.le_of_ble_eq_true rfl) ?_
  refine ab_iload_n' hG 9 _ _ _ _ 2 _ dX5_find_9 rfl ?_
  refine ab_if_lt' hG 10 _ _ _ _ (11) 21 _ dX5_find_10 (by decide) (fun hc => ?_) (fun hc => ?_)
  · have h := h.1 hc
    exact ab_throw' hG 21 _ _ _ _ 0 rfl (Nat.le_of_ble_eq_true rfl) (Nat.le_of_ble_eq_true rfl) h
  · have h := h.2 hc
    refine ab_iload_n' hG 13 _ _ _ _ 2 _ dX5_find_13 rfl ?_
    refine ab_iload_n' hG 14 _ _ _ _ 3 _ dX5_find_14 rfl ?_
    exact ab_invs' hG 15 _ [_] _ _ 0 173 _ 1 1 0 _ dX5_find_15 rfl rfl (Nat.le_of_ble_eq_true rfl) (Nat.le_of_ble_eq_true rfl) h
theorem bl_X5_find_18 {Q : ab_Po} {G : ab_Gt} (hG : ab_Cl M_X5_find Q G) (x1 : Int32) (x2 : Int32) (x3 : Int32) (xs0 : Int32) (xs1 : Int32) (S : ab_S) (h : (xs1 < xs0 → Sp_X4_pick [(.inr (4, 0)), (.inl x3), (.inl x2)] S (ab_back Q G 40 [some (.inr (0, 0)), some (.inl x1), some (.inl x2), some (.inl x3)] [] 0)) ∧ (¬ xs1 < xs0 → Q (.inr 0) S)) : G 18 [some (.inr (0, 0)), some (.inl x1), some (.inl x2), some (.inl x3)] [(.inl xs0), (.inl xs1)] S 0 := by
  refine ab_icmp_lt' hG 18 _ _ _ _ (13) 31 _ _ dX5_find_18 (by decide) (fun hc => ?_) (fun hc => ?_)
  · have h := h.1 hc
    refine ab_aload_n' hG 31 _ _ _ _ 0 _ dX5_find_31 rfl ?_
    refine ab_gR hG 32 _ _ _ _ 10 0 0 0 (4, 0) dX5_find_32 (List.Mem.head _) rfl ?_
    refine ab_iload_n' hG 35 _ _ _ _ 3 _ dX5_find_35 rfl ?_
    refine ab_iload_n' hG 36 _ _ _ _ 2 _ dX5_find_36 rfl ?_
    exact ab_invv' hG 37 _ [_, _] _ _ 0 180 _ 2 1 0 _ (4, _) dX5_find_37 rfl rfl rfl rfl (Nat.le_of_ble_eq_true rfl) (Nat.le_of_ble_eq_true rfl) h
  · have h := h.2 hc
    exact ab_throw' hG 21 _ _ _ _ 0 rfl (Nat.le_of_ble_eq_true rfl) (Nat.le_of_ble_eq_true rfl) h
theorem bl_X5_find_40 {Q : ab_Po} {G : ab_Gt} (hG : ab_Cl M_X5_find Q G) (x1 : Int32) (x2 : Int32) (x3 : Int32) (xs0 : Int32) (S : ab_S) (h : Q (.inl (some xs0)) S) : G 40 [some (.inr (0, 0)), some (.inl x1), some (.inl x2), some (.inl x3)] [(.inl xs0)] S 0 := by
  exact ab_ireturn' hG 40 _ _ _ _ dX5_find_40 (Or.inl rfl) (by decide) h
theorem bl_X5_alike_0 {Q : ab_Po} {G : ab_Gt} (hG : ab_Cl M_X5_alike Q G) (x1 : Int32) (S : ab_S) (h : Sp_X5_requireNode [(.inr (0, 0)), (.inl x1)] S (ab_back Q G 5 [some (.inr (0, 0)), some (.inl x1)] [] 1)) : G 0 [some (.inr (0, 0)), some (.inl x1)] [] S 0 := by
  refine ab_aload_n' hG 0 _ _ _ _ 0 _ dX5_alike_0 rfl ?_
  refine ab_iload_n' hG 1 _ _ _ _ 1 _ dX5_alike_1 rfl ?_
  exact ab_invv' hG 2 _ [_] _ _ 0 55 _ 1 0 1 _ (0, _) dX5_alike_2 rfl rfl rfl rfl (Nat.le_of_ble_eq_true rfl) (Nat.le_of_ble_eq_true rfl) h
theorem bl_X5_alike_5 {Q : ab_Po} {G : ab_Gt} (hG : ab_Cl M_X5_alike Q G) (x1 : Int32) (S : ab_S) (h : Sp_X4_firstAlike [(.inr (4, 0)), (.inl x1)] S (ab_back Q G 13 [some (.inr (0, 0)), some (.inl x1)] [] 1)) : G 5 [some (.inr (0, 0)), some (.inl x1)] [] S 1 := by
  refine ab_aload_n' hG 5 _ _ _ _ 0 _ dX5_alike_5 rfl ?_
  refine ab_gR hG 6 _ _ _ _ 10 0 0 0 (4, 0) dX5_alike_6 (List.Mem.head _) rfl ?_
  refine ab_iload_n' hG 9 _ _ _ _ 1 _ dX5_alike_9 rfl ?_
  exact ab_invv' hG 10 _ [_] _ _ 1 183 _ 1 1 0 _ (4, _) dX5_alike_10 rfl rfl rfl rfl (Nat.le_of_ble_eq_true rfl) (Nat.le_of_ble_eq_true rfl) h
theorem bl_X5_alike_13 {Q : ab_Po} {G : ab_Gt} (hG : ab_Cl M_X5_alike Q G) (x1 : Int32) (xs0 : Int32) (S : ab_S) (h : Q (.inl (some xs0)) S) : G 13 [some (.inr (0, 0)), some (.inl x1)] [(.inl xs0)] S 1 := by
  exact ab_ireturn' hG 13 _ _ _ _ dX5_alike_13 (Or.inl rfl) (by decide) h
theorem bl_X5_distance_0 {Q : ab_Po} {G : ab_Gt} (hG : ab_Cl M_X5_distance Q G) (x1 : Int32) (x2 : Int32) (S : ab_S) (h : Sp_X5_requireCommit [(.inr (0, 0)), (.inl x1)] S (ab_back Q G 5 [some (.inr (0, 0)), some (.inl x1), some (.inl x2)] [] 1)) : G 0 [some (.inr (0, 0)), some (.inl x1), some (.inl x2)] [] S 0 := by
  refine ab_aload_n' hG 0 _ _ _ _ 0 _ dX5_distance_0 rfl ?_
  refine ab_iload_n' hG 1 _ _ _ _ 1 _ dX5_distance_1 rfl ?_
  exact ab_invv' hG 2 _ [_] _ _ 0 110 _ 1 0 1 _ (0, _) dX5_distance_2 rfl rfl rfl rfl (Nat.le_of_ble_eq_true rfl) (Nat.le_of_ble_eq_true rfl) h
theorem bl_X5_distance_5 {Q : ab_Po} {G : ab_Gt} (hG : ab_Cl M_X5_distance Q G) (x1 : Int32) (x2 : Int32) (S : ab_S) (h : Sp_X5_requireCommit [(.inr (0, 0)), (.inl x2)] S (ab_back Q G 10 [some (.inr (0, 0)), some (.inl x1), some (.inl x2)] [] 2)) : G 5 [some (.inr (0, 0)), some (.inl x1), some (.inl x2)] [] S 1 := by
  refine ab_aload_n' hG 5 _ _ _ _ 0 _ dX5_distance_5 rfl ?_
  refine ab_iload_n' hG 6 _ _ _ _ 2 _ dX5_distance_6 rfl ?_
  exact ab_invv' hG 7 _ [_] _ _ 1 110 _ 1 0 1 _ (0, _) dX5_distance_7 rfl rfl rfl rfl (Nat.le_of_ble_eq_true rfl) (Nat.le_of_ble_eq_true rfl) h
theorem bl_X5_distance_10 {Q : ab_Po} {G : ab_Gt} (hG : ab_Cl M_X5_distance Q G) (x1 : Int32) (x2 : Int32) (S : ab_S) (h : vp_in x1 12 ∧ vp_in x2 12 ∧ Sp_X0_between [(.inr (3, 0)), (.inr (4, x1.toNatClampNeg + 1)), (.inr (4, x2.toNatClampNeg + 1))] S (ab_back Q G 35 [some (.inr (0, 0)), some (.inl x1), some (.inl x2)] [] 2)) : G 10 [some (.inr (0, 0)), some (.inl x1), some (.inl x2)] [] S 2 := by
  refine ab_aload_n' hG 10 _ _ _ _ 0 _ dX5_distance_10 rfl ?_
  refine ab_gR hG 11 _ _ _ _ 33 0 3 0 (3, 0) dX5_distance_11 (List.Mem.head _) rfl ?_
  refine ab_aload_n' hG 14 _ _ _ _ 0 _ dX5_distance_14 rfl ?_
  refine ab_gR hG 15 _ _ _ _ 19 0 1 0 (1, 0) dX5_distance_15 (List.Mem.tail _ (List.Mem.head _)) rfl ?_
  refine ab_gR hG 18 _ _ _ _ 113 1 0 0 (10, 0) dX5_distance_18 (List.Mem.tail _ (List.Mem.tail _ (List.Mem.head _))) rfl ?_
  refine ab_iload_n' hG 21 _ _ _ _ 1 _ dX5_distance_21 rfl ?_
  refine ab_aaload2' hG 22 _ _ _ _ 10 0 12 _ dX5_distance_22 rfl h.1 ?_
  have h := h.2
  refine ab_aload_n' hG 23 _ _ _ _ 0 _ dX5_distance_23 rfl ?_
  refine ab_gR hG 24 _ _ _ _ 19 0 1 0 (1, 0) dX5_distance_24 (List.Mem.tail _ (List.Mem.head _)) rfl ?_
  refine ab_gR hG 27 _ _ _ _ 113 1 0 0 (10, 0) dX5_distance_27 (List.Mem.tail _ (List.Mem.tail _ (List.Mem.head _))) rfl ?_
  refine ab_iload_n' hG 30 _ _ _ _ 2 _ dX5_distance_30 rfl ?_
  refine ab_aaload2' hG 31 _ _ _ _ 10 0 12 _ dX5_distance_31 rfl h.1 ?_
  have h := h.2
  exact ab_invv' hG 32 _ [_, _] _ _ 2 186 _ 2 1 0 _ (3, _) dX5_distance_32 rfl rfl rfl rfl (Nat.le_of_ble_eq_true rfl) (Nat.le_of_ble_eq_true rfl) h
theorem bl_X5_distance_35 {Q : ab_Po} {G : ab_Gt} (hG : ab_Cl M_X5_distance Q G) (x1 : Int32) (x2 : Int32) (xs0 : Int32) (S : ab_S) (h : Q (.inl (some xs0)) S) : G 35 [some (.inr (0, 0)), some (.inl x1), some (.inl x2)] [(.inl xs0)] S 2 := by
  exact ab_ireturn' hG 35 _ _ _ _ dX5_distance_35 (Or.inl rfl) (by decide) h
theorem bl_X5_state_0 {Q : ab_Po} {G : ab_Gt} (hG : ab_Cl M_X5_state Q G) (x1 : Int32) (S : ab_S) (h : G 1 [some (.inr (0, 0)), some (.inl x1)] [(.inl x1)] S 0) : G 0 [some (.inr (0, 0)), some (.inl x1)] [] S 0 := by
  refine ab_iload_n' hG 0 _ _ _ _ 1 _ dX5_state_0 rfl ?_
  exact h
theorem bl_X5_state_1 {Q : ab_Po} {G : ab_Gt} (hG : ab_Cl M_X5_state Q G) (x1 : Int32) (xs0 : Int32) (S : ab_S) (h : (xs0 = 0 → G 28 [some (.inr (0, 0)), some (.inl x1)] [] S 0) ∧ (xs0 = 1 → G 36 [some (.inr (0, 0)), some (.inl x1)] [] S 0) ∧ (xs0 = 2 → G 41 [some (.inr (0, 0)), some (.inl x1)] [] S 0) ∧ (¬ xs0 = 0 → ¬ xs0 = 1 → ¬ xs0 = 2 → G 46 [some (.inr (0, 0)), some (.inl x1)] [] S 0)) : G 1 [some (.inr (0, 0)), some (.inl x1)] [(.inl xs0)] S 0 := by
  by_cases e0 : xs0 = 0
  · have h := h.1 e0
    rw [e0]
    refine ab_swI' hG 1 _ _ _ _ (45) 0 2 _ _ _ (27) 28 dX5_state_1 (by decide) (by decide) rfl (by decide) ?_
    exact h
  by_cases e1 : xs0 = 1
  · have h := h.2.1 e1
    rw [e1]
    refine ab_swI' hG 1 _ _ _ _ (45) 0 2 _ _ _ (35) 36 dX5_state_1 (by decide) (by decide) rfl (by decide) ?_
    exact h
  by_cases e2 : xs0 = 2
  · have h := h.2.2.1 e2
    rw [e2]
    refine ab_swI' hG 1 _ _ _ _ (45) 0 2 _ _ _ (40) 41 dX5_state_1 (by decide) (by decide) rfl (by decide) ?_
    exact h
  have h := h.2.2.2 e0 e1 e2
  refine ab_swO' hG 1 _ _ _ _ (45) 0 2 _ _ _ 46 dX5_state_1 (ab_swx 3 2 (by decide) (by intro j hj; match j, hj with | 0, _ => exact e0 | 1, _ => exact e1 | 2, _ => exact e2)) (by decide) ?_
  exact h
theorem bl_X5_state_28 {Q : ab_Po} {G : ab_Gt} (hG : ab_Cl M_X5_state Q G) (x1 : Int32) (S : ab_S) (h : Q (.inl (some (S 1 0 3))) S) : G 28 [some (.inr (0, 0)), some (.inl x1)] [] S 0 := by
  refine ab_aload_n' hG 28 _ _ _ _ 0 _ dX5_state_28 rfl ?_
  refine ab_gR hG 29 _ _ _ _ 19 0 1 0 (1, 0) dX5_state_29 (List.Mem.head _) rfl ?_
  refine ab_gI hG 32 _ _ _ _ 105 1 3 0 dX5_state_32 (List.Mem.tail _ (List.Mem.head _)) rfl ?_
  exact ab_ireturn' hG 35 _ _ _ _ dX5_state_35 (Or.inl rfl) (by decide) h
theorem bl_X5_state_36 {Q : ab_Po} {G : ab_Gt} (hG : ab_Cl M_X5_state Q G) (x1 : Int32) (S : ab_S) (h : Q (.inl (some (S 0 0 5))) S) : G 36 [some (.inr (0, 0)), some (.inl x1)] [] S 0 := by
  refine ab_aload_n' hG 36 _ _ _ _ 0 _ dX5_state_36 rfl ?_
  refine ab_gI hG 37 _ _ _ _ 49 0 5 0 dX5_state_37 (List.Mem.tail _ (List.Mem.tail _ (List.Mem.head _))) rfl ?_
  exact ab_ireturn' hG 40 _ _ _ _ dX5_state_40 (Or.inl rfl) (by decide) h
theorem bl_X5_state_41 {Q : ab_Po} {G : ab_Gt} (hG : ab_Cl M_X5_state Q G) (x1 : Int32) (S : ab_S) (h : Q (.inl (some (S 0 0 6))) S) : G 41 [some (.inr (0, 0)), some (.inl x1)] [] S 0 := by
  refine ab_aload_n' hG 41 _ _ _ _ 0 _ dX5_state_41 rfl ?_
  refine ab_gI hG 42 _ _ _ _ 52 0 6 0 dX5_state_42 (List.Mem.tail _ (List.Mem.tail _ (List.Mem.tail _ (List.Mem.head _)))) rfl ?_
  exact ab_ireturn' hG 45 _ _ _ _ dX5_state_45 (Or.inl rfl) (by decide) h
theorem bl_X5_state_46 {Q : ab_Po} {G : ab_Gt} (hG : ab_Cl M_X5_state Q G) (x1 : Int32) (S : ab_S) (h : Q (.inr 2) S) : G 46 [some (.inr (0, 0)), some (.inl x1)] [] S 0 := by
  exact ab_throw' hG 46 _ _ _ _ 2 rfl (Nat.le_of_ble_eq_true rfl) (Nat.le_of_ble_eq_true rfl) h
theorem bl_X5_above_0 {Q : ab_Po} {G : ab_Gt} (hG : ab_Cl M_X5_above Q G) (x1 : Int32) (x2 : Int32) (S : ab_S) (h : Sp_X5_requireCommit [(.inr (0, 0)), (.inl x1)] S (ab_back Q G 5 [some (.inr (0, 0)), some (.inl x1), some (.inl x2)] [] 1)) : G 0 [some (.inr (0, 0)), some (.inl x1), some (.inl x2)] [] S 0 := by
  refine ab_aload_n' hG 0 _ _ _ _ 0 _ dX5_above_0 rfl ?_
  refine ab_iload_n' hG 1 _ _ _ _ 1 _ dX5_above_1 rfl ?_
  exact ab_invv' hG 2 _ [_] _ _ 0 110 _ 1 0 1 _ (0, _) dX5_above_2 rfl rfl rfl rfl (Nat.le_of_ble_eq_true rfl) (Nat.le_of_ble_eq_true rfl) h
theorem bl_X5_above_5 {Q : ab_Po} {G : ab_Gt} (hG : ab_Cl M_X5_above Q G) (x1 : Int32) (x2 : Int32) (S : ab_S) (h : Sp_X5_requirePlace [(.inl x2), (.inl (1 : Int32))] S (ab_back Q G 10 [some (.inr (0, 0)), some (.inl x1), some (.inl x2)] [] 2)) : G 5 [some (.inr (0, 0)), some (.inl x1), some (.inl x2)] [] S 1 := by
  refine ab_iload_n' hG 5 _ _ _ _ 2 _ dX5_above_5 rfl ?_
  refine ab_iconst' hG 6 _ _ _ _ 1 1 dX5_above_6 (by decide) ?_
  exact ab_invs' hG 7 _ [_, _] _ _ 1 63 _ 2 0 1 _ dX5_above_7 rfl rfl (Nat.le_of_ble_eq_true rfl) (Nat.le_of_ble_eq_true rfl) h
theorem bl_X5_above_10 {Q : ab_Po} {G : ab_Gt} (hG : ab_Cl M_X5_above Q G) (x1 : Int32) (x2 : Int32) (S : ab_S) (h : (x2 = 0 → vp_in x1 12 ∧ Q (.inl (some (S 11 0 x1.toNatClampNeg))) S) ∧ (¬ x2 = 0 → vp_in x1 12 ∧ Q (.inl (some (S 12 0 x1.toNatClampNeg))) S)) : G 10 [some (.inr (0, 0)), some (.inl x1), some (.inl x2)] [] S 2 := by
  refine ab_iload_n' hG 10 _ _ _ _ 2 _ dX5_above_10 rfl ?_
  refine ab_if_ne' hG 11 _ _ _ _ (15) 26 _ dX5_above_11 (by decide) (fun hc => ?_) (fun hc => ?_)
  · have h := h.2 hc
    refine ab_aload_n' hG 26 _ _ _ _ 0 _ dX5_above_26 rfl ?_
    refine ab_gR hG 27 _ _ _ _ 19 0 1 0 (1, 0) dX5_above_27 (List.Mem.head _) rfl ?_
    refine ab_gR hG 30 _ _ _ _ 195 1 2 0 (12, 0) dX5_above_30 (List.Mem.tail _ (List.Mem.tail _ (List.Mem.head _))) rfl ?_
    refine ab_iload_n' hG 33 _ _ _ _ 1 _ dX5_above_33 rfl ?_
    refine ab_iaload' hG 34 _ _ _ _ 12 0 12 _ dX5_above_34 rfl h.1 ?_
    have h := h.2
    exact ab_ireturn' hG 35 _ _ _ _ dX5_above_35 (Or.inl rfl) (by decide) h
  · have h := h.1 hc
    refine ab_aload_n' hG 14 _ _ _ _ 0 _ dX5_above_14 rfl ?_
    refine ab_gR hG 15 _ _ _ _ 19 0 1 0 (1, 0) dX5_above_15 (List.Mem.head _) rfl ?_
    refine ab_gR hG 18 _ _ _ _ 192 1 1 0 (11, 0) dX5_above_18 (List.Mem.tail _ (List.Mem.head _)) rfl ?_
    refine ab_iload_n' hG 21 _ _ _ _ 1 _ dX5_above_21 rfl ?_
    refine ab_iaload' hG 22 _ _ _ _ 11 0 12 _ dX5_above_22 rfl h.1 ?_
    have h := h.2
    refine ab_goto' hG 23 _ _ _ _ (12) 35 dX5_above_23 (by decide) ?_
    exact ab_ireturn' hG 35 _ _ _ _ dX5_above_35 (Or.inl rfl) (by decide) h
