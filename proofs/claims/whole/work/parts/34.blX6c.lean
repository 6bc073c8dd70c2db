theorem bl_X6_countKinds_0 {Q : ab_Po} {G : ab_Gt} (hG : ab_Cl M_X6_countKinds Q G)  (S : ab_S) (h : G 4 [some (.inr (21, 0)), some (.inl 0), some (.inl 0)] [] S 0) : G 0 [some (.inr (21, 0)), none, none] [] S 0 := by
  refine ab_iconst' hG 0 _ _ _ _ 0 0 dX6_countKinds_0 (by decide) ?_
  refine ab_istore_n' hG 1 _ _ _ _ 1 _ dX6_countKinds_1 (by decide) ?_
  refine ab_iconst' hG 2 _ _ _ _ 0 0 dX6_countKinds_2 (by decide) ?_
  refine ab_istore_n' hG 3 _ _ _ _ 2 _ dX6_countKinds_3 (by decide) ?_
  exact h
theorem bl_X6_countKinds_4 {Q : ab_Po} {G : ab_Gt} (hG : ab_Cl M_X6_countKinds Q G) (x1 : Int32) (x2 : Int32) (S : ab_S) (h : (24 ≤ x2 → Q (.inl (some x1)) S) ∧ (¬ 24 ≤ x2 → vp_in x2 24 ∧ ((S 31 0 x2.toNatClampNeg) ≤ 0 → G 4 [some (.inr (21, 0)), some (.inl x1), some (.inl (x2 + 1))] [] S 0) ∧ (¬ (S 31 0 x2.toNatClampNeg) ≤ 0 → G 4 [some (.inr (21, 0)), some (.inl (x1 + 1)), some (.inl (x2 + 1))] [] S 0))) : G 4 [some (.inr (21, 0)), some (.inl x1), some (.inl x2)] [] S 0 := by
  refine ab_iload_n' hG 4 _ _ _ _ 2 _ dX6_countKinds_4 rfl ?_
  refine ab_bipush' hG 5 _ _ _ _ 24 24 dX6_countKinds_5 (by decide) ?_
  refine ab_icmp_ge' hG 7 _ _ _ _ (26) 33 _ _ dX6_countKinds_7 (by decide) (fun hc => ?_) (fun hc => ?_)
  · have h := h.1 hc
    refine ab_iload_n' hG 33 _ _ _ _ 1 _ dX6_countKinds_33 rfl ?_
    exact ab_ireturn' hG 34 _ _ _ _ dX6_countKinds_34 (Or.inl rfl) (by decide) h
  · have h := h.2 hc
    refine ab_aload_n' hG 10 _ _ _ _ 0 _ dX6_countKinds_10 rfl ?_
    refine ab_gR hG 11 _ _ _ _ 48 21 15 0 (31, 0) dX6_countKinds_11 (List.Mem.head _) rfl ?_
    refine ab_iload_n' hG 14 _ _ _ _ 2 _ dX6_countKinds_14 rfl ?_
    refine ab_iaload' hG 15 _ _ _ _ 31 0 24 _ dX6_countKinds_15 rfl h.1 ?_
    have h := h.2
    refine ab_if_le' hG 16 _ _ _ _ (9) 25 _ dX6_countKinds_16 (by decide) (fun hc => ?_) (fun hc => ?_)
    · have h := h.1 hc
      refine ab_iload_n' hG 25 _ _ _ _ 1 _ dX6_countKinds_25 rfl ?_
      refine ab_istore_n' hG 26 _ _ _ _ 1 _ dX6_countKinds_26 (by decide) ?_
      refine ab_iinc' hG 27 _ _ _ _ 2 1 x2 (x2 + 1) dX6_countKinds_27 rfl rfl ?_
      refine ab_goto' hG 30 _ _ _ _ (-26) 4 dX6_countKinds_30 (by decide) ?_
      exact h
    · have h := h.2 hc
      refine ab_iload_n' hG 19 _ _ _ _ 1 _ dX6_countKinds_19 rfl ?_
      refine ab_iconst' hG 20 _ _ _ _ 1 1 dX6_countKinds_20 (by decide) ?_
      refine ab_iadd' hG 21 _ _ _ _ _ _ dX6_countKinds_21 ?_
      refine ab_goto' hG 22 _ _ _ _ (4) 26 dX6_countKinds_22 (by decide) ?_
      refine ab_istore_n' hG 26 _ _ _ _ 1 _ dX6_countKinds_26 (by decide) ?_
      refine ab_iinc' hG 27 _ _ _ _ 2 1 x2 (x2 + 1) dX6_countKinds_27 rfl rfl ?_
      refine ab_goto' hG 30 _ _ _ _ (-26) 4 dX6_countKinds_30 (by decide) ?_
      exact h
theorem bl_X6_comes_0 {Q : ab_Po} {G : ab_Gt} (hG : ab_Cl M_X6_comes Q G) (x1 : Int32) (S : ab_S) (h : G 4 [some (.inr (21, 0)), some (.inl x1), some (.inl x1), some (.inl 0)] [] S 0) : G 0 [some (.inr (21, 0)), some (.inl x1), none, none] [] S 0 := by
  refine ab_iload_n' hG 0 _ _ _ _ 1 _ dX6_comes_0 rfl ?_
  refine ab_istore_n' hG 1 _ _ _ _ 2 _ dX6_comes_1 (by decide) ?_
  refine ab_iconst' hG 2 _ _ _ _ 0 0 dX6_comes_2 (by decide) ?_
  refine ab_istore_n' hG 3 _ _ _ _ 3 _ dX6_comes_3 (by decide) ?_
  exact h
theorem bl_X6_comes_4 {Q : ab_Po} {G : ab_Gt} (hG : ab_Cl M_X6_comes Q G) (x1 : Int32) (x2 : Int32) (x3 : Int32) (S : ab_S) (h : (24 ≤ x3 → (x2 = 0 → Q (.inl (some 1)) S) ∧ (¬ x2 = 0 → Q (.inl (some 0)) S)) ∧ (¬ 24 ≤ x3 → (x2 ≤ 0 → (x2 = 0 → Q (.inl (some 1)) S) ∧ (¬ x2 = 0 → Q (.inl (some 0)) S)) ∧ (¬ x2 ≤ 0 → vp_in x2 24 ∧ G 4 [some (.inr (21, 0)), some (.inl x1), some (.inl (S 33 0 x2.toNatClampNeg)), some (.inl (x3 + 1))] [] S 0))) : G 4 [some (.inr (21, 0)), some (.inl x1), some (.inl x2), some (.inl x3)] [] S 0 := by
  refine ab_iload_n' hG 4 _ _ _ _ 3 _ dX6_comes_4 rfl ?_
  refine ab_bipush' hG 5 _ _ _ _ 24 24 dX6_comes_5 (by decide) ?_
  refine ab_icmp_ge' hG 7 _ _ _ _ (20) 27 _ _ dX6_comes_7 (by decide) (fun hc => ?_) (fun hc => ?_)
  · have h := h.1 hc
    refine ab_iload_n' hG 27 _ _ _ _ 2 _ dX6_comes_27 rfl ?_
    refine ab_if_ne' hG 28 _ _ _ _ (7) 35 _ dX6_comes_28 (by decide) (fun hc => ?_) (fun hc => ?_)
    · have h := h.2 hc
      refine ab_iconst' hG 35 _ _ _ _ 0 0 dX6_comes_35 (by decide) ?_
      exact ab_ireturn' hG 36 _ _ _ _ dX6_comes_36 (Or.inr ⟨rfl, Or.inl rfl⟩) (by decide) h
    · have h := h.1 hc
      refine ab_iconst' hG 31 _ _ _ _ 1 1 dX6_comes_31 (by decide) ?_
      refine ab_goto' hG 32 _ _ _ _ (4) 36 dX6_comes_32 (by decide) ?_
      exact ab_ireturn' hG 36 _ _ _ _ dX6_comes_36 (Or.inr ⟨rfl, Or.inr rfl⟩) (by decide) h
  · have h := h.2 hc
    refine ab_iload_n' hG 10 _ _ _ _ 2 _ dX6_comes_10 rfl ?_
    refine ab_if_le' hG 11 _ _ _ _ (16) 27 _ dX6_comes_11 (by decide) (fun hc => ?_) (fun hc => ?_)
    · have h := h.1 hc
      refine ab_iload_n' hG 27 _ _ _ _ 2 _ dX6_comes_27 rfl ?_
      refine ab_if_ne' hG 28 _ _ _ _ (7) 35 _ dX6_comes_28 (by decide) (fun hc => ?_) (fun hc => ?_)
      · have h := h.2 hc
        refine ab_iconst' hG 35 _ _ _ _ 0 0 dX6_comes_35 (by decide) ?_
        exact ab_ireturn' hG 36 _ _ _ _ dX6_comes_36 (Or.inr ⟨rfl, Or.inl rfl⟩) (by decide) h
      · have h := h.1 hc
        refine ab_iconst' hG 31 _ _ _ _ 1 1 dX6_comes_31 (by decide) ?_
        refine ab_goto' hG 32 _ _ _ _ (4) 36 dX6_comes_32 (by decide) ?_
        exact ab_ireturn' hG 36 _ _ _ _ dX6_comes_36 (Or.inr ⟨rfl, Or.inr rfl⟩) (by decide) h
    · have h := h.2 hc
      refine ab_aload_n' hG 14 _ _ _ _ 0 _ dX6_comes_14 rfl ?_
      refine ab_gR hG 15 _ _ _ _ 54 21 17 0 (33, 0) dX6_comes_15 (List.Mem.head _) rfl ?_
      refine ab_iload_n' hG 18 _ _ _ _ 2 _ dX6_comes_18 rfl ?_
      refine ab_iaload' hG 19 _ _ _ _ 33 0 24 _ dX6_comes_19 rfl h.1 ?_
      have h := h.2
      refine ab_istore_n' hG 20 _ _ _ _ 2 _ dX6_comes_20 (by decide) ?_
      refine ab_iinc' hG 21 _ _ _ _ 3 1 x3 (x3 + 1) dX6_comes_21 rfl rfl ?_
      refine ab_goto' hG 24 _ _ _ _ (-20) 4 dX6_comes_24 (by decide) ?_
      exact h
theorem bl_X6_findOrphans_0 {Q : ab_Po} {G : ab_Gt} (hG : ab_Cl M_X6_findOrphans Q G)  (S : ab_S) (h : G 2 [some (.inr (21, 0)), some (.inl 1)] [] S 0) : G 0 [some (.inr (21, 0)), none] [] S 0 := by
  refine ab_iconst' hG 0 _ _ _ _ 1 1 dX6_findOrphans_0 (by decide) ?_
  refine ab_istore_n' hG 1 _ _ _ _ 1 _ dX6_findOrphans_1 (by decide) ?_
  exact h
theorem bl_X6_findOrphans_2 {Q : ab_Po} {G : ab_Gt} (hG : ab_Cl M_X6_findOrphans Q G) (x1 : Int32) (S : ab_S) (h : (24 ≤ x1 → Q (.inl none) S) ∧ (¬ 24 ≤ x1 → vp_in x1 24 ∧ ((S 30 0 x1.toNatClampNeg) = 0 → vp_in x1 24 ∧ vp_in x1 24 ∧ G 2 [some (.inr (21, 0)), some (.inl (x1 + 1))] [] (ab_su S 31 0 x1.toNatClampNeg (S 31 0 x1.toNatClampNeg)) 0) ∧ (¬ (S 30 0 x1.toNatClampNeg) = 0 → vp_in x1 24 ∧ vp_in (S 33 0 x1.toNatClampNeg) 24 ∧ ((S 30 0 (S 33 0 x1.toNatClampNeg).toNatClampNeg) = 0 → vp_in x1 24 ∧ G 2 [some (.inr (21, 0)), some (.inl (x1 + 1))] [] (ab_su S 31 0 x1.toNatClampNeg 4) 0) ∧ (¬ (S 30 0 (S 33 0 x1.toNatClampNeg).toNatClampNeg) = 0 → vp_in x1 24 ∧ vp_in x1 24 ∧ G 2 [some (.inr (21, 0)), some (.inl (x1 + 1))] [] (ab_su S 31 0 x1.toNatClampNeg (S 31 0 x1.toNatClampNeg)) 0)))) : G 2 [some (.inr (21, 0)), some (.inl x1)] [] S 0 := by
  refine ab_iload_n' hG 2 _ _ _ _ 1 _ dX6_findOrphans_2 rfl ?_
  refine ab_bipush' hG 3 _ _ _ _ 24 24 dX6_findOrphans_3 (by decide) ?_
  refine ab_icmp_ge' hG 5 _ _ _ _ (48) 53 _ _ dX6_findOrphans_5 (by decide) (fun hc => ?_) (fun hc => ?_)
  · have h := h.1 hc
    exact ab_return_' hG 53 _ _ _ dX6_findOrphans_53 rfl (by decide) h
  · have h := h.2 hc
    refine ab_aload_n' hG 8 _ _ _ _ 0 _ dX6_findOrphans_8 rfl ?_
    refine ab_gR hG 9 _ _ _ _ 48 21 15 0 (31, 0) dX6_findOrphans_9 (List.Mem.head _) rfl ?_
    refine ab_iload_n' hG 12 _ _ _ _ 1 _ dX6_findOrphans_12 rfl ?_
    refine ab_aload_n' hG 13 _ _ _ _ 0 _ dX6_findOrphans_13 rfl ?_
    refine ab_gR hG 14 _ _ _ _ 45 21 14 0 (30, 0) dX6_findOrphans_14 (List.Mem.tail _ (List.Mem.head _)) rfl ?_
    refine ab_iload_n' hG 17 _ _ _ _ 1 _ dX6_findOrphans_17 rfl ?_
    refine ab_baload' hG 18 _ _ _ _ 30 0 24 _ dX6_findOrphans_18 rfl h.1 ?_
    have h := h.2
    refine ab_if_eq' hG 19 _ _ _ _ (21) 40 _ dX6_findOrphans_19 (by decide) (fun hc => ?_) (fun hc => ?_)
    · have h := h.1 hc
      refine ab_aload_n' hG 40 _ _ _ _ 0 _ dX6_findOrphans_40 rfl ?_
      refine ab_gR hG 41 _ _ _ _ 48 21 15 0 (31, 0) dX6_findOrphans_41 (List.Mem.head _) rfl ?_
      refine ab_iload_n' hG 44 _ _ _ _ 1 _ dX6_findOrphans_44 rfl ?_
      refine ab_iaload' hG 45 _ _ _ _ 31 0 24 _ dX6_findOrphans_45 rfl h.1 ?_
      have h := h.2
      refine ab_iastore' hG 46 _ _ _ _ 31 0 24 _ _ dX6_findOrphans_46 rfl h.1 ?_
      have h := h.2
      refine ab_iinc' hG 47 _ _ _ _ 1 1 x1 (x1 + 1) dX6_findOrphans_47 rfl rfl ?_
      refine ab_goto' hG 50 _ _ _ _ (-48) 2 dX6_findOrphans_50 (by decide) ?_
      exact h
    · have h := h.2 hc
      refine ab_aload_n' hG 22 _ _ _ _ 0 _ dX6_findOrphans_22 rfl ?_
      refine ab_gR hG 23 _ _ _ _ 45 21 14 0 (30, 0) dX6_findOrphans_23 (List.Mem.tail _ (List.Mem.head _)) rfl ?_
      refine ab_aload_n' hG 26 _ _ _ _ 0 _ dX6_findOrphans_26 rfl ?_
      refine ab_gR hG 27 _ _ _ _ 54 21 17 0 (33, 0) dX6_findOrphans_27 (List.Mem.tail _ (List.Mem.tail _ (List.Mem.head _))) rfl ?_
      refine ab_iload_n' hG 30 _ _ _ _ 1 _ dX6_findOrphans_30 rfl ?_
      refine ab_iaload' hG 31 _ _ _ _ 33 0 24 _ dX6_findOrphans_31 rfl h.1 ?_
      have h := h.2
      refine ab_baload' hG 32 _ _ _ _ 30 0 24 _ dX6_findOrphans_32 rfl h.1 ?_
      have h := h.2
      refine ab_if_ne' hG 33 _ _ _ _ (7) 40 _ dX6_findOrphans_33 (by decide) (fun hc => ?_) (fun hc => ?_)
      · have h := h.2 hc
        refine ab_aload_n' hG 40 _ _ _ _ 0 _ dX6_findOrphans_40 rfl ?_
        refine ab_gR hG 41 _ _ _ _ 48 21 15 0 (31, 0) dX6_findOrphans_41 (List.Mem.head _) rfl ?_
        refine ab_iload_n' hG 44 _ _ _ _ 1 _ dX6_findOrphans_44 rfl ?_
        refine ab_iaload' hG 45 _ _ _ _ 31 0 24 _ dX6_findOrphans_45 rfl h.1 ?_
        have h := h.2
        refine ab_iastore' hG 46 _ _ _ _ 31 0 24 _ _ dX6_findOrphans_46 rfl h.1 ?_
        have h := h.2
        refine ab_iinc' hG 47 _ _ _ _ 1 1 x1 (x1 + 1) dX6_findOrphans_47 rfl rfl ?_
        refine ab_goto' hG 50 _ _ _ _ (-48) 2 dX6_findOrphans_50 (by decide) ?_
        exact h
      · have h := h.1 hc
        refine ab_iconst' hG 36 _ _ _ _ 4 4 dX6_findOrphans_36 (by decide) ?_
        refine ab_goto' hG 37 _ _ _ _ (9) 46 dX6_findOrphans_37 (by decide) ?_
        refine ab_iastore' hG 46 _ _ _ _ 31 0 24 _ _ dX6_findOrphans_46 rfl h.1 ?_
        have h := h.2
        refine ab_iinc' hG 47 _ _ _ _ 1 1 x1 (x1 + 1) dX6_findOrphans_47 rfl rfl ?_
        refine ab_goto' hG 50 _ _ _ _ (-48) 2 dX6_findOrphans_50 (by decide) ?_
        exact h
theorem bl_X6_findRings_0 {Q : ab_Po} {G : ab_Gt} (hG : ab_Cl M_X6_findRings Q G)  (S : ab_S) (h : G 2 [some (.inr (21, 0)), some (.inl 1)] [] S 0) : G 0 [some (.inr (21, 0)), none] [] S 0 := by
  refine ab_iconst' hG 0 _ _ _ _ 1 1 dX6_findRings_0 (by decide) ?_
  refine ab_istore_n' hG 1 _ _ _ _ 1 _ dX6_findRings_1 (by decide) ?_
  exact h
theorem bl_X6_findRings_2 {Q : ab_Po} {G : ab_Gt} (hG : ab_Cl M_X6_findRings Q G) (x1 : Int32) (S : ab_S) (h : (24 ≤ x1 → Q (.inl none) S) ∧ (¬ 24 ≤ x1 → vp_in x1 24 ∧ ((S 30 0 x1.toNatClampNeg) = 0 → vp_in x1 24 ∧ vp_in x1 24 ∧ G 2 [some (.inr (21, 0)), some (.inl (x1 + 1))] [] (ab_su S 31 0 x1.toNatClampNeg (S 31 0 x1.toNatClampNeg)) 0) ∧ (¬ (S 30 0 x1.toNatClampNeg) = 0 → Sp_X6_comes [(.inr (21, 0)), (.inl x1)] S (ab_back Q G 27 [some (.inr (21, 0)), some (.inl x1)] [(.inl x1), (.inr (31, 0))] 0)))) : G 2 [some (.inr (21, 0)), some (.inl x1)] [] S 0 := by
  refine ab_iload_n' hG 2 _ _ _ _ 1 _ dX6_findRings_2 rfl ?_
  refine ab_bipush' hG 3 _ _ _ _ 24 24 dX6_findRings_3 (by decide) ?_
  refine ab_icmp_ge' hG 5 _ _ _ _ (42) 47 _ _ dX6_findRings_5 (by decide) (fun hc => ?_) (fun hc => ?_)
  · have h := h.1 hc
    exact ab_return_' hG 47 _ _ _ dX6_findRings_47 rfl (by decide) h
  · have h := h.2 hc
    refine ab_aload_n' hG 8 _ _ _ _ 0 _ dX6_findRings_8 rfl ?_
    refine ab_gR hG 9 _ _ _ _ 48 21 15 0 (31, 0) dX6_findRings_9 (List.Mem.head _) rfl ?_
    refine ab_iload_n' hG 12 _ _ _ _ 1 _ dX6_findRings_12 rfl ?_
    refine ab_aload_n' hG 13 _ _ _ _ 0 _ dX6_findRings_13 rfl ?_
    refine ab_gR hG 14 _ _ _ _ 45 21 14 0 (30, 0) dX6_findRings_14 (List.Mem.tail _ (List.Mem.head _)) rfl ?_
    refine ab_iload_n' hG 17 _ _ _ _ 1 _ dX6_findRings_17 rfl ?_
    refine ab_baload' hG 18 _ _ _ _ 30 0 24 _ dX6_findRings_18 rfl h.1 ?_
    have h := h.2
    refine ab_if_eq' hG 19 _ _ _ _ (15) 34 _ dX6_findRings_19 (by decide) (fun hc => ?_) (fun hc => ?_)
    · have h := h.1 hc
      refine ab_aload_n' hG 34 _ _ _ _ 0 _ dX6_findRings_34 rfl ?_
      refine ab_gR hG 35 _ _ _ _ 48 21 15 0 (31, 0) dX6_findRings_35 (List.Mem.head _) rfl ?_
      refine ab_iload_n' hG 38 _ _ _ _ 1 _ dX6_findRings_38 rfl ?_
      refine ab_iaload' hG 39 _ _ _ _ 31 0 24 _ dX6_findRings_39 rfl h.1 ?_
      have h := h.2
      refine ab_iastore' hG 40 _ _ _ _ 31 0 24 _ _ dX6_findRings_40 rfl h.1 ?_
      have h := h.2
      refine ab_iinc' hG 41 _ _ _ _ 1 1 x1 (x1 + 1) dX6_findRings_41 rfl rfl ?_
      refine ab_goto' hG 44 _ _ _ _ (-42) 2 dX6_findRings_44 (by decide) ?_
      exact h
    · have h := h.2 hc
      refine ab_aload_n' hG 22 _ _ _ _ 0 _ dX6_findRings_22 rfl ?_
      refine ab_iload_n' hG 23 _ _ _ _ 1 _ dX6_findRings_23 rfl ?_
      exact ab_invv' hG 24 [some (.inr (21, 0)), some (.inl x1)] [(.inl x1)] [(.inl x1), (.inr (31, 0))] S 0 141 _ 1 1 0 _ (21, 0) dX6_findRings_24 rfl rfl rfl rfl (by decide) (by decide) h
theorem bl_X6_findRings_27 {Q : ab_Po} {G : ab_Gt} (hG : ab_Cl M_X6_findRings Q G) (x1 : Int32) (xs0 : Int32) (xs1 : Int32) (S : ab_S) (h : (xs0 = 0 → vp_in xs1 24 ∧ G 2 [some (.inr (21, 0)), some (.inl (x1 + 1))] [] (ab_su S 31 0 xs1.toNatClampNeg 5) 0) ∧ (¬ xs0 = 0 → vp_in x1 24 ∧ vp_in xs1 24 ∧ G 2 [some (.inr (21, 0)), some (.inl (x1 + 1))] [] (ab_su S 31 0 xs1.toNatClampNeg (S 31 0 x1.toNatClampNeg)) 0)) : G 27 [some (.inr (21, 0)), some (.inl x1)] [(.inl xs0), (.inl xs1), (.inr (31, 0))] S 0 := by
  refine ab_if_ne' hG 27 _ _ _ _ (7) 34 _ dX6_findRings_27 (by decide) (fun hc => ?_) (fun hc => ?_)
  · have h := h.2 hc
    refine ab_aload_n' hG 34 _ _ _ _ 0 _ dX6_findRings_34 rfl ?_
    refine ab_gR hG 35 _ _ _ _ 48 21 15 0 (31, 0) dX6_findRings_35 (List.Mem.head _) rfl ?_
    refine ab_iload_n' hG 38 _ _ _ _ 1 _ dX6_findRings_38 rfl ?_
    refine ab_iaload' hG 39 _ _ _ _ 31 0 24 _ dX6_findRings_39 rfl h.1 ?_
    have h := h.2
    refine ab_iastore' hG 40 _ _ _ _ 31 0 24 _ _ dX6_findRings_40 rfl h.1 ?_
    have h := h.2
    refine ab_iinc' hG 41 _ _ _ _ 1 1 x1 (x1 + 1) dX6_findRings_41 rfl rfl ?_
    refine ab_goto' hG 44 _ _ _ _ (-42) 2 dX6_findRings_44 (by decide) ?_
    exact h
  · have h := h.1 hc
    refine ab_iconst' hG 30 _ _ _ _ 5 5 dX6_findRings_30 (by decide) ?_
    refine ab_goto' hG 31 _ _ _ _ (9) 40 dX6_findRings_31 (by decide) ?_
    refine ab_iastore' hG 40 _ _ _ _ 31 0 24 _ _ dX6_findRings_40 rfl h.1 ?_
    have h := h.2
    refine ab_iinc' hG 41 _ _ _ _ 1 1 x1 (x1 + 1) dX6_findRings_41 rfl rfl ?_
    refine ab_goto' hG 44 _ _ _ _ (-42) 2 dX6_findRings_44 (by decide) ?_
    exact h
theorem bl_X6_putChildren_0 {Q : ab_Po} {G : ab_Gt} (hG : ab_Cl M_X6_putChildren Q G) (x1 : Int32) (x2 : Int32) (S : ab_S) (h : Sp_X6_children [(.inr (21, 0)), (.inl (S 21 0 10)), (.inl x1)] S (ab_back Q G 9 [some (.inr (21, 0)), some (.inl x1), some (.inl x2), none, none, none, none, none] [] 0)) : G 0 [some (.inr (21, 0)), some (.inl x1), some (.inl x2), none, none, none, none, none] [] S 0 := by
  refine ab_aload_n' hG 0 _ _ _ _ 0 _ dX6_putChildren_0 rfl ?_
  refine ab_aload_n' hG 1 _ _ _ _ 0 _ dX6_putChildren_1 rfl ?_
  refine ab_gI hG 2 _ _ _ _ 124 21 10 0 dX6_putChildren_2 (List.Mem.head _) rfl ?_
  refine ab_iload_n' hG 5 _ _ _ _ 1 _ dX6_putChildren_5 rfl ?_
  exact ab_invv' hG 6 [some (.inr (21, 0)), some (.inl x1), some (.inl x2), none, none, none, none, none] [(.inl (S 21 0 10)), (.inl x1)] [] S 0 99 _ 2 1 0 _ (21, 0) dX6_putChildren_6 rfl rfl rfl rfl (by decide) (by decide) h
theorem bl_X6_putChildren_9 {Q : ab_Po} {G : ab_Gt} (hG : ab_Cl M_X6_putChildren Q G) (x1 : Int32) (x2 : Int32) (xs0 : Int32) (S : ab_S) (h : G 16 [some (.inr (21, 0)), some (.inl x1), some (.inl x2), some (.inl xs0), some (.inl 0), some (.inl 0), none, none] [] S 0) : G 9 [some (.inr (21, 0)), some (.inl x1), some (.inl x2), none, none, none, none, none] [(.inl xs0)] S 0 := by
  refine ab_istore_n' hG 9 _ _ _ _ 3 _ dX6_putChildren_9 (by decide) ?_
  refine ab_iconst' hG 10 _ _ _ _ 0 0 dX6_putChildren_10 (by decide) ?_
  refine ab_istore' hG 11 _ _ _ _ 4 _ dX6_putChildren_11 (by decide) ?_
  refine ab_iconst' hG 13 _ _ _ _ 0 0 dX6_putChildren_13 (by decide) ?_
  refine ab_istore' hG 14 _ _ _ _ 5 _ dX6_putChildren_14 (by decide) ?_
  exact h
theorem bl_X6_putChildren_16 {Q : ab_Po} {G : ab_Gt} (hG : ab_Cl M_X6_putChildren Q G) (x1 : Int32) (x2 : Int32) (x3 : Int32) (x4 : Int32) (x5 : Int32) (S : ab_S) (h : (x3 ≤ x5 → Sp_X6_children [(.inr (21, 0)), (.inl x2), (.inl x1)] S (ab_back Q G 85 [some (.inr (21, 0)), some (.inl x1), some (.inl x2), some (.inl x3), some (.inl x4), some (.inl (-1)), none, none] [] 0)) ∧ (¬ x3 ≤ x5 → Sp_X6_childAt [(.inr (21, 0)), (.inl (S 21 0 10)), (.inl x1), (.inl x5)] S (ab_back Q G 33 [some (.inr (21, 0)), some (.inl x1), some (.inl x2), some (.inl x3), some (.inl x4), some (.inl x5), none, none] [] 0))) : G 16 [some (.inr (21, 0)), some (.inl x1), some (.inl x2), some (.inl x3), some (.inl x4), some (.inl x5), none, none] [] S 0 := by
  refine ab_iload' hG 16 _ _ _ _ 5 _ dX6_putChildren_16 rfl ?_
  refine ab_iload_n' hG 18 _ _ _ _ 3 _ dX6_putChildren_18 rfl ?_
  refine ab_icmp_ge' hG 19 _ _ _ _ (57) 76 _ _ dX6_putChildren_19 (by decide) (fun hc => ?_) (fun hc => ?_)
  · have h := h.1 hc
    refine ab_iconst' hG 76 _ _ _ _ (-1) (-1) dX6_putChildren_76 (by decide) ?_
    refine ab_istore' hG 77 _ _ _ _ 5 _ dX6_putChildren_77 (by decide) ?_
    refine ab_aload_n' hG 79 _ _ _ _ 0 _ dX6_putChildren_79 rfl ?_
    refine ab_iload_n' hG 80 _ _ _ _ 2 _ dX6_putChildren_80 rfl ?_
    refine ab_iload_n' hG 81 _ _ _ _ 1 _ dX6_putChildren_81 rfl ?_
    exact ab_invv' hG 82 [some (.inr (21, 0)), some (.inl x1), some (.inl x2), some (.inl x3), some (.inl x4), some (.inl (-1)), none, none] [(.inl x2), (.inl x1)] [] S 0 99 _ 2 1 0 _ (21, 0) dX6_putChildren_82 rfl rfl rfl rfl (by decide) (by decide) h
  · have h := h.2 hc
    refine ab_aload_n' hG 22 _ _ _ _ 0 _ dX6_putChildren_22 rfl ?_
    refine ab_aload_n' hG 23 _ _ _ _ 0 _ dX6_putChildren_23 rfl ?_
    refine ab_gI hG 24 _ _ _ _ 124 21 10 0 dX6_putChildren_24 (List.Mem.head _) rfl ?_
    refine ab_iload_n' hG 27 _ _ _ _ 1 _ dX6_putChildren_27 rfl ?_
    refine ab_iload' hG 28 _ _ _ _ 5 _ dX6_putChildren_28 rfl ?_
    exact ab_invv' hG 30 [some (.inr (21, 0)), some (.inl x1), some (.inl x2), some (.inl x3), some (.inl x4), some (.inl x5), none, none] [(.inl (S 21 0 10)), (.inl x1), (.inl x5)] [] S 0 103 _ 3 1 0 _ (21, 0) dX6_putChildren_30 rfl rfl rfl rfl (by decide) (by decide) h
theorem bl_X6_putChildren_33 {Q : ab_Po} {G : ab_Gt} (hG : ab_Cl M_X6_putChildren Q G) (x1 : Int32) (x2 : Int32) (x3 : Int32) (x4 : Int32) (x5 : Int32) (xs0 : Int32) (S : ab_S) (h : vp_in xs0 24 ∧ ((S 30 0 xs0.toNatClampNeg) = 0 → G 16 [some (.inr (21, 0)), some (.inl x1), some (.inl x2), some (.inl x3), some (.inl x4), some (.inl (x5 + 1)), none, none] [] S 0) ∧ (¬ (S 30 0 xs0.toNatClampNeg) = 0 → vp_in xs0 24 ∧ ((S 33 0 xs0.toNatClampNeg) = x1 → Sp_X6_hang [(.inr (21, 0)), (.inl 13), (.inl xs0), (.inl x1), (.inl x4)] S (ab_back Q G 67 [some (.inr (21, 0)), some (.inl x1), some (.inl x2), some (.inl x3), some (.inl x4), some (.inl x5), some (.inl xs0), none] [] 0)) ∧ (¬ (S 33 0 xs0.toNatClampNeg) = x1 → G 16 [some (.inr (21, 0)), some (.inl x1), some (.inl x2), some (.inl x3), some (.inl x4), some (.inl (x5 + 1)), none, none] [] S 0))) : G 33 [some (.inr (21, 0)), some (.inl x1), some (.inl x2), some (.inl x3), some (.inl x4), some (.inl x5), none, none] [(.inl xs0)] S 0 := by
  refine ab_istore' hG 33 _ _ _ _ 6 _ dX6_putChildren_33 (by decide) ?_
  refine ab_aload_n' hG 35 _ _ _ _ 0 _ dX6_putChildren_35 rfl ?_
  refine ab_gR hG 36 _ _ _ _ 45 21 14 0 (30, 0) dX6_putChildren_36 (List.Mem.tail _ (List.Mem.head _)) rfl ?_
  refine ab_iload' hG 39 _ _ _ _ 6 _ dX6_putChildren_39 rfl ?_
  refine ab_baload' hG 41 _ _ _ _ 30 0 24 _ dX6_putChildren_41 rfl h.1 ?_
  have h := h.2
  refine ab_if_eq' hG 42 _ _ _ _ (28) 70 _ dX6_putChildren_42 (by decide) (fun hc => ?_) (fun hc => ?_)
  · have h := h.1 hc
    refine ab_iinc' hG 70 _ _ _ _ 5 1 x5 (x5 + 1) dX6_putChildren_70 rfl rfl ?_
    refine ab_goto' hG 73 _ _ _ _ (-57) 16 dX6_putChildren_73 (by decide) ?_
    refine ab_forget' hG _ _ _ _ _ 6 ?_
    exact h
  · have h := h.2 hc
    refine ab_aload_n' hG 45 _ _ _ _ 0 _ dX6_putChildren_45 rfl ?_
    refine ab_gR hG 46 _ _ _ _ 54 21 17 0 (33, 0) dX6_putChildren_46 (List.Mem.tail _ (List.Mem.tail _ (List.Mem.head _))) rfl ?_
    refine ab_iload' hG 49 _ _ _ _ 6 _ dX6_putChildren_49 rfl ?_
    refine ab_iaload' hG 51 _ _ _ _ 33 0 24 _ dX6_putChildren_51 rfl h.1 ?_
    have h := h.2
    refine ab_iload_n' hG 52 _ _ _ _ 1 _ dX6_putChildren_52 rfl ?_
    refine ab_icmp_ne' hG 53 _ _ _ _ (17) 70 _ _ dX6_putChildren_53 (by decide) (fun hc => ?_) (fun hc => ?_)
    · have h := h.2 hc
      refine ab_iinc' hG 70 _ _ _ _ 5 1 x5 (x5 + 1) dX6_putChildren_70 rfl rfl ?_
      refine ab_goto' hG 73 _ _ _ _ (-57) 16 dX6_putChildren_73 (by decide) ?_
      refine ab_forget' hG _ _ _ _ _ 6 ?_
      exact h
    · have h := h.1 hc
      refine ab_aload_n' hG 56 _ _ _ _ 0 _ dX6_putChildren_56 rfl ?_
      refine ab_bipush' hG 57 _ _ _ _ 13 13 dX6_putChildren_57 (by decide) ?_
      refine ab_iload' hG 59 _ _ _ _ 6 _ dX6_putChildren_59 rfl ?_
      refine ab_iload_n' hG 61 _ _ _ _ 1 _ dX6_putChildren_61 rfl ?_
      refine ab_iload' hG 62 _ _ _ _ 4 _ dX6_putChildren_62 rfl ?_
      exact ab_invv' hG 64 [some (.inr (21, 0)), some (.inl x1), some (.inl x2), some (.inl x3), some (.inl x4), some (.inl x5), some (.inl xs0), none] [(.inl 13), (.inl xs0), (.inl x1), (.inl x4)] [] S 0 111 _ 4 0 0 _ (21, 0) dX6_putChildren_64 rfl rfl rfl rfl (by decide) (by decide) h
theorem bl_X6_putChildren_67 {Q : ab_Po} {G : ab_Gt} (hG : ab_Cl M_X6_putChildren Q G) (x1 : Int32) (x2 : Int32) (x3 : Int32) (x4 : Int32) (x5 : Int32) (x6 : Int32) (S : ab_S) (h : G 16 [some (.inr (21, 0)), some (.inl x1), some (.inl x2), some (.inl x3), some (.inl (x4 + 1)), some (.inl (x5 + 1)), none, none] [] S 0) : G 67 [some (.inr (21, 0)), some (.inl x1), some (.inl x2), some (.inl x3), some (.inl x4), some (.inl x5), some (.inl x6), none] [] S 0 := by
  refine ab_iinc' hG 67 _ _ _ _ 4 1 x4 (x4 + 1) dX6_putChildren_67 rfl rfl ?_
  refine ab_iinc' hG 70 _ _ _ _ 5 1 x5 (x5 + 1) dX6_putChildren_70 rfl rfl ?_
  refine ab_goto' hG 73 _ _ _ _ (-57) 16 dX6_putChildren_73 (by decide) ?_
  refine ab_forget' hG _ _ _ _ _ 6 ?_
  exact h
theorem bl_X6_putChildren_85 {Q : ab_Po} {G : ab_Gt} (hG : ab_Cl M_X6_putChildren Q G) (x1 : Int32) (x2 : Int32) (x3 : Int32) (x4 : Int32) (x5 : Int32) (xs0 : Int32) (S : ab_S) (h : G 89 [some (.inr (21, 0)), some (.inl x1), some (.inl x2), some (.inl xs0), some (.inl x4), some (.inl x5), some (.inl 0), none] [] S 0) : G 85 [some (.inr (21, 0)), some (.inl x1), some (.inl x2), some (.inl x3), some (.inl x4), some (.inl x5), none, none] [(.inl xs0)] S 0 := by
  refine ab_istore_n' hG 85 _ _ _ _ 3 _ dX6_putChildren_85 (by decide) ?_
  refine ab_iconst' hG 86 _ _ _ _ 0 0 dX6_putChildren_86 (by decide) ?_
  refine ab_istore' hG 87 _ _ _ _ 6 _ dX6_putChildren_87 (by decide) ?_
  exact h
theorem bl_X6_putChildren_89 {Q : ab_Po} {G : ab_Gt} (hG : ab_Cl M_X6_putChildren Q G) (x1 : Int32) (x2 : Int32) (x3 : Int32) (x4 : Int32) (x5 : Int32) (x6 : Int32) (S : ab_S) (h : (x3 ≤ x6 → Q (.inl none) S) ∧ (¬ x3 ≤ x6 → Sp_X6_childAt [(.inr (21, 0)), (.inl x2), (.inl x1), (.inl x6)] S (ab_back Q G 103 [some (.inr (21, 0)), some (.inl x1), some (.inl x2), some (.inl x3), some (.inl x4), some (.inl x5), some (.inl x6), none] [] 0))) : G 89 [some (.inr (21, 0)), some (.inl x1), some (.inl x2), some (.inl x3), some (.inl x4), some (.inl x5), some (.inl x6), none] [] S 0 := by
  refine ab_iload' hG 89 _ _ _ _ 6 _ dX6_putChildren_89 rfl ?_
  refine ab_iload_n' hG 91 _ _ _ _ 3 _ dX6_putChildren_91 rfl ?_
  refine ab_icmp_ge' hG 92 _ _ _ _ (89) 181 _ _ dX6_putChildren_92 (by decide) (fun hc => ?_) (fun hc => ?_)
  · have h := h.1 hc
    exact ab_return_' hG 181 _ _ _ dX6_putChildren_181 rfl (by decide) h
  · have h := h.2 hc
    refine ab_aload_n' hG 95 _ _ _ _ 0 _ dX6_putChildren_95 rfl ?_
    refine ab_iload_n' hG 96 _ _ _ _ 2 _ dX6_putChildren_96 rfl ?_
    refine ab_iload_n' hG 97 _ _ _ _ 1 _ dX6_putChildren_97 rfl ?_
    refine ab_iload' hG 98 _ _ _ _ 6 _ dX6_putChildren_98 rfl ?_
    exact ab_invv' hG 100 [some (.inr (21, 0)), some (.inl x1), some (.inl x2), some (.inl x3), some (.inl x4), some (.inl x5), some (.inl x6), none] [(.inl x2), (.inl x1), (.inl x6)] [] S 0 103 _ 3 1 0 _ (21, 0) dX6_putChildren_100 rfl rfl rfl rfl (by decide) (by decide) h
theorem bl_X6_putChildren_103 {Q : ab_Po} {G : ab_Gt} (hG : ab_Cl M_X6_putChildren Q G) (x1 : Int32) (x2 : Int32) (x3 : Int32) (x4 : Int32) (x5 : Int32) (x6 : Int32) (xs0 : Int32) (S : ab_S) (h : vp_in xs0 24 ∧ ((S 30 0 xs0.toNatClampNeg) = 0 → G 89 [some (.inr (21, 0)), some (.inl x1), some (.inl x2), some (.inl x3), some (.inl x4), some (.inl x5), some (.inl (x6 + 1)), none] [] S 0) ∧ (¬ (S 30 0 xs0.toNatClampNeg) = 0 → vp_in xs0 24 ∧ ((S 33 0 xs0.toNatClampNeg) = x1 → vp_in (312 + xs0) 336 ∧ ((S 22 0 (312 + xs0).toNatClampNeg) = 0 → (0 ≤ x5 → vp_in (312 + x5) 336 ∧ Sp_X6_hang [(.inr (21, 0)), (.inl 13), (.inl xs0), (.inl x1), (.inl ((S 25 0 (312 + x5).toNatClampNeg) + 1))] S (ab_back Q G 171 [some (.inr (21, 0)), some (.inl x1), some (.inl x2), some (.inl x3), some (.inl x4), some (.inl x5), some (.inl x6), some (.inl xs0)] [] 0)) ∧ (¬ 0 ≤ x5 → Sp_X6_hang [(.inr (21, 0)), (.inl 13), (.inl xs0), (.inl x1), (.inl 0)] S (ab_back Q G 171 [some (.inr (21, 0)), some (.inl x1), some (.inl x2), some (.inl x3), some (.inl x4), some (.inl x5), some (.inl x6), some (.inl xs0)] [] 0))) ∧ (¬ (S 22 0 (312 + xs0).toNatClampNeg) = 0 → G 89 [some (.inr (21, 0)), some (.inl x1), some (.inl x2), some (.inl x3), some (.inl x4), some (.inl xs0), some (.inl (x6 + 1)), none] [] S 0)) ∧ (¬ (S 33 0 xs0.toNatClampNeg) = x1 → G 89 [some (.inr (21, 0)), some (.inl x1), some (.inl x2), some (.inl x3), some (.inl x4), some (.inl x5), some (.inl (x6 + 1)), none] [] S 0))) : G 103 [some (.inr (21, 0)), some (.inl x1), some (.inl x2), some (.inl x3), some (.inl x4), some (.inl x5), some (.inl x6), none] [(.inl xs0)] S 0 := by
  refine ab_istore' hG 103 _ _ _ _ 7 _ dX6_putChildren_103 (by decide) ?_
  refine ab_aload_n' hG 105 _ _ _ _ 0 _ dX6_putChildren_105 rfl ?_
  refine ab_gR hG 106 _ _ _ _ 45 21 14 0 (30, 0) dX6_putChildren_106 (List.Mem.tail _ (List.Mem.head _)) rfl ?_
  refine ab_iload' hG 109 _ _ _ _ 7 _ dX6_putChildren_109 rfl ?_
  refine ab_baload' hG 111 _ _ _ _ 30 0 24 _ dX6_putChildren_111 rfl h.1 ?_
  have h := h.2
  refine ab_if_eq' hG 112 _ _ _ _ (63) 175 _ dX6_putChildren_112 (by decide) (fun hc => ?_) (fun hc => ?_)
  · have h := h.1 hc
    refine ab_iinc' hG 175 _ _ _ _ 6 1 x6 (x6 + 1) dX6_putChildren_175 rfl rfl ?_
    refine ab_goto' hG 178 _ _ _ _ (-89) 89 dX6_putChildren_178 (by decide) ?_
    refine ab_forget' hG _ _ _ _ _ 7 ?_
    exact h
  · have h := h.2 hc
    refine ab_aload_n' hG 115 _ _ _ _ 0 _ dX6_putChildren_115 rfl ?_
    refine ab_gR hG 116 _ _ _ _ 54 21 17 0 (33, 0) dX6_putChildren_116 (List.Mem.tail _ (List.Mem.tail _ (List.Mem.head _))) rfl ?_
    refine ab_iload' hG 119 _ _ _ _ 7 _ dX6_putChildren_119 rfl ?_
    refine ab_iaload' hG 121 _ _ _ _ 33 0 24 _ dX6_putChildren_121 rfl h.1 ?_
    have h := h.2
    refine ab_iload_n' hG 122 _ _ _ _ 1 _ dX6_putChildren_122 rfl ?_
    refine ab_icmp_ne' hG 123 _ _ _ _ (52) 175 _ _ dX6_putChildren_123 (by decide) (fun hc => ?_) (fun hc => ?_)
    · have h := h.2 hc
      refine ab_iinc' hG 175 _ _ _ _ 6 1 x6 (x6 + 1) dX6_putChildren_175 rfl rfl ?_
      refine ab_goto' hG 178 _ _ _ _ (-89) 89 dX6_putChildren_178 (by decide) ?_
      refine ab_forget' hG _ _ _ _ _ 7 ?_
      exact h
    · have h := h.1 hc
      refine ab_aload_n' hG 126 _ _ _ _ 0 _ dX6_putChildren_126 rfl ?_
      refine ab_gR hG 127 _ _ _ _ 7 21 1 0 (22, 0) dX6_putChildren_127 (List.Mem.tail _ (List.Mem.tail _ (List.Mem.tail _ (List.Mem.head _)))) rfl ?_
      refine ab_sipush' hG 130 _ _ _ _ 312 312 dX6_putChildren_130 (by decide) ?_
      refine ab_iload' hG 133 _ _ _ _ 7 _ dX6_putChildren_133 rfl ?_
      refine ab_iadd' hG 135 _ _ _ _ _ _ dX6_putChildren_135 ?_
      refine ab_baload' hG 136 _ _ _ _ 22 0 336 _ dX6_putChildren_136 rfl h.1 ?_
      have h := h.2
      refine ab_if_ne' hG 137 _ _ _ _ (34) 171 _ dX6_putChildren_137 (by decide) (fun hc => ?_) (fun hc => ?_)
      · have h := h.2 hc
        refine ab_iload' hG 171 _ _ _ _ 7 _ dX6_putChildren_171 rfl ?_
        refine ab_istore' hG 173 _ _ _ _ 5 _ dX6_putChildren_173 (by decide) ?_
        refine ab_iinc' hG 175 _ _ _ _ 6 1 x6 (x6 + 1) dX6_putChildren_175 rfl rfl ?_
        refine ab_goto' hG 178 _ _ _ _ (-89) 89 dX6_putChildren_178 (by decide) ?_
        refine ab_forget' hG _ _ _ _ _ 7 ?_
        exact h
      · have h := h.1 hc
        refine ab_aload_n' hG 140 _ _ _ _ 0 _ dX6_putChildren_140 rfl ?_
        refine ab_bipush' hG 141 _ _ _ _ 13 13 dX6_putChildren_141 (by decide) ?_
        refine ab_iload' hG 143 _ _ _ _ 7 _ dX6_putChildren_143 rfl ?_
        refine ab_iload_n' hG 145 _ _ _ _ 1 _ dX6_putChildren_145 rfl ?_
        refine ab_iload' hG 146 _ _ _ _ 5 _ dX6_putChildren_146 rfl ?_
        refine ab_if_ge' hG 148 _ _ _ _ (7) 155 _ dX6_putChildren_148 (by decide) (fun hc => ?_) (fun hc => ?_)
        · have h := h.1 hc
          refine ab_aload_n' hG 155 _ _ _ _ 0 _ dX6_putChildren_155 rfl ?_
          refine ab_gR hG 156 _ _ _ _ 20 21 4 0 (25, 0) dX6_putChildren_156 (List.Mem.tail _ (List.Mem.tail _ (List.Mem.tail _ (List.Mem.tail _ (List.Mem.head _))))) rfl ?_
          refine ab_sipush' hG 159 _ _ _ _ 312 312 dX6_putChildren_159 (by decide) ?_
          refine ab_iload' hG 162 _ _ _ _ 5 _ dX6_putChildren_162 rfl ?_
          refine ab_iadd' hG 164 _ _ _ _ _ _ dX6_putChildren_164 ?_
          refine ab_iaload' hG 165 _ _ _ _ 25 0 336 _ dX6_putChildren_165 rfl h.1 ?_
          have h := h.2
          refine ab_iconst' hG 166 _ _ _ _ 1 1 dX6_putChildren_166 (by decide) ?_
          refine ab_iadd' hG 167 _ _ _ _ _ _ dX6_putChildren_167 ?_
          exact ab_invv' hG 168 [some (.inr (21, 0)), some (.inl x1), some (.inl x2), some (.inl x3), some (.inl x4), some (.inl x5), some (.inl x6), some (.inl xs0)] [(.inl 13), (.inl xs0), (.inl x1), (.inl ((S 25 0 (312 + x5).toNatClampNeg) + 1))] [] S 0 111 _ 4 0 0 _ (21, 0) dX6_putChildren_168 rfl rfl rfl rfl (by decide) (by decide) h
        · have h := h.2 hc
          refine ab_iconst' hG 151 _ _ _ _ 0 0 dX6_putChildren_151 (by decide) ?_
          refine ab_goto' hG 152 _ _ _ _ (16) 168 dX6_putChildren_152 (by decide) ?_
          exact ab_invv' hG 168 [some (.inr (21, 0)), some (.inl x1), some (.inl x2), some (.inl x3), some (.inl x4), some (.inl x5), some (.inl x6), some (.inl xs0)] [(.inl 13), (.inl xs0), (.inl x1), (.inl 0)] [] S 0 111 _ 4 0 0 _ (21, 0) dX6_putChildren_168 rfl rfl rfl rfl (by decide) (by decide) h
theorem bl_X6_putChildren_171 {Q : ab_Po} {G : ab_Gt} (hG : ab_Cl M_X6_putChildren Q G) (x1 : Int32) (x2 : Int32) (x3 : Int32) (x4 : Int32) (x5 : Int32) (x6 : Int32) (x7 : Int32) (S : ab_S) (h : G 89 [some (.inr (21, 0)), some (.inl x1), some (.inl x2), some (.inl x3), some (.inl x4), some (.inl x7), some (.inl (x6 + 1)), none] [] S 0) : G 171 [some (.inr (21, 0)), some (.inl x1), some (.inl x2), some (.inl x3), some (.inl x4), some (.inl x5), some (.inl x6), some (.inl x7)] [] S 0 := by
  refine ab_iload' hG 171 _ _ _ _ 7 _ dX6_putChildren_171 rfl ?_
  refine ab_istore' hG 173 _ _ _ _ 5 _ dX6_putChildren_173 (by decide) ?_
  refine ab_iinc' hG 175 _ _ _ _ 6 1 x6 (x6 + 1) dX6_putChildren_175 rfl rfl ?_
  refine ab_goto' hG 178 _ _ _ _ (-89) 89 dX6_putChildren_178 (by decide) ?_
  refine ab_forget' hG _ _ _ _ _ 7 ?_
  exact h
theorem bl_X6_build_0 {Q : ab_Po} {G : ab_Gt} (hG : ab_Cl M_X6_build Q G) (x1 : Int32) (S : ab_S) (h : G 2 [some (.inr (21, 0)), some (.inl x1), some (.inl 0)] [] S 0) : G 0 [some (.inr (21, 0)), some (.inl x1), none] [] S 0 := by
  refine ab_iconst' hG 0 _ _ _ _ 0 0 dX6_build_0 (by decide) ?_
  refine ab_istore_n' hG 1 _ _ _ _ 2 _ dX6_build_1 (by decide) ?_
  exact h
theorem bl_X6_build_2 {Q : ab_Po} {G : ab_Gt} (hG : ab_Cl M_X6_build Q G) (x1 : Int32) (x2 : Int32) (S : ab_S) (h : (24 ≤ x2 → G 86 [some (.inr (21, 0)), some (.inl x1), some (.inl 0)] [] S 0) ∧ (¬ 24 ≤ x2 → (x2 = 0 → vp_in (312 + x2) 336 ∧ vp_in x2 24 ∧ (((ab_su S 22 0 (312 + x2).toNatClampNeg (vp_nar .boolean 1)) 30 0 x2.toNatClampNeg) = 0 → vp_in (312 + x2) 336 ∧ vp_in (312 + x2) 336 ∧ vp_in (312 + x2) 336 ∧ G 2 [some (.inr (21, 0)), some (.inl x1), some (.inl (x2 + 1))] [] (ab_su (ab_su (ab_su (ab_su S 22 0 (312 + x2).toNatClampNeg (vp_nar .boolean 1)) 23 0 (312 + x2).toNatClampNeg 0) 24 0 (312 + x2).toNatClampNeg (-1)) 25 0 (312 + x2).toNatClampNeg 0) 0) ∧ (¬ ((ab_su S 22 0 (312 + x2).toNatClampNeg (vp_nar .boolean 1)) 30 0 x2.toNatClampNeg) = 0 → vp_in x2 24 ∧ vp_in (312 + x2) 336 ∧ vp_in (312 + x2) 336 ∧ vp_in (312 + x2) 336 ∧ G 2 [some (.inr (21, 0)), some (.inl x1), some (.inl (x2 + 1))] [] (ab_su (ab_su (ab_su (ab_su S 22 0 (312 + x2).toNatClampNeg (vp_nar .boolean 1)) 23 0 (312 + x2).toNatClampNeg ((ab_su S 22 0 (312 + x2).toNatClampNeg (vp_nar .boolean 1)) 32 0 x2.toNatClampNeg)) 24 0 (312 + x2).toNatClampNeg (-1)) 25 0 (312 + x2).toNatClampNeg 0) 0)) ∧ (¬ x2 = 0 → vp_in (312 + x2) 336 ∧ vp_in x2 24 ∧ (((ab_su S 22 0 (312 + x2).toNatClampNeg (vp_nar .boolean 0)) 30 0 x2.toNatClampNeg) = 0 → vp_in (312 + x2) 336 ∧ vp_in (312 + x2) 336 ∧ vp_in (312 + x2) 336 ∧ G 2 [some (.inr (21, 0)), some (.inl x1), some (.inl (x2 + 1))] [] (ab_su (ab_su (ab_su (ab_su S 22 0 (312 + x2).toNatClampNeg (vp_nar .boolean 0)) 23 0 (312 + x2).toNatClampNeg 0) 24 0 (312 + x2).toNatClampNeg (-1)) 25 0 (312 + x2).toNatClampNeg 0) 0) ∧ (¬ ((ab_su S 22 0 (312 + x2).toNatClampNeg (vp_nar .boolean 0)) 30 0 x2.toNatClampNeg) = 0 → vp_in x2 24 ∧ vp_in (312 + x2) 336 ∧ vp_in (312 + x2) 336 ∧ vp_in (312 + x2) 336 ∧ G 2 [some (.inr (21, 0)), some (.inl x1), some (.inl (x2 + 1))] [] (ab_su (ab_su (ab_su (ab_su S 22 0 (312 + x2).toNatClampNeg (vp_nar .boolean 0)) 23 0 (312 + x2).toNatClampNeg ((ab_su S 22 0 (312 + x2).toNatClampNeg (vp_nar .boolean 0)) 32 0 x2.toNatClampNeg)) 24 0 (312 + x2).toNatClampNeg (-1)) 25 0 (312 + x2).toNatClampNeg 0) 0)))) : G 2 [some (.inr (21, 0)), some (.inl x1), some (.inl x2)] [] S 0 := by
  refine ab_iload_n' hG 2 _ _ _ _ 2 _ dX6_build_2 rfl ?_
  refine ab_bipush' hG 3 _ _ _ _ 24 24 dX6_build_3 (by decide) ?_
  refine ab_icmp_ge' hG 5 _ _ _ _ (79) 84 _ _ dX6_build_5 (by decide) (fun hc => ?_) (fun hc => ?_)
  · have h := h.1 hc
    refine ab_iconst' hG 84 _ _ _ _ 0 0 dX6_build_84 (by decide) ?_
    refine ab_istore_n' hG 85 _ _ _ _ 2 _ dX6_build_85 (by decide) ?_
    exact h
  · have h := h.2 hc
    refine ab_aload_n' hG 8 _ _ _ _ 0 _ dX6_build_8 rfl ?_
    refine ab_gR hG 9 _ _ _ _ 7 21 1 0 (22, 0) dX6_build_9 (List.Mem.head _) rfl ?_
    refine ab_sipush' hG 12 _ _ _ _ 312 312 dX6_build_12 (by decide) ?_
    refine ab_iload_n' hG 15 _ _ _ _ 2 _ dX6_build_15 rfl ?_
    refine ab_iadd' hG 16 _ _ _ _ _ _ dX6_build_16 ?_
    refine ab_iload_n' hG 17 _ _ _ _ 2 _ dX6_build_17 rfl ?_
    refine ab_if_ne' hG 18 _ _ _ _ (7) 25 _ dX6_build_18 (by decide) (fun hc => ?_) (fun hc => ?_)
    · have h := h.2 hc
      refine ab_iconst' hG 25 _ _ _ _ 0 0 dX6_build_25 (by decide) ?_
      refine ab_bastore' hG 26 _ _ _ _ 22 0 336 _ _ dX6_build_26 rfl h.1 ?_
      have h := h.2
      refine ab_aload_n' hG 27 _ _ _ _ 0 _ dX6_build_27 rfl ?_
      refine ab_gR hG 28 _ _ _ _ 13 21 2 0 (23, 0) dX6_build_28 (List.Mem.tail _ (List.Mem.head _)) rfl ?_
      refine ab_sipush' hG 31 _ _ _ _ 312 312 dX6_build_31 (by decide) ?_
      refine ab_iload_n' hG 34 _ _ _ _ 2 _ dX6_build_34 rfl ?_
      refine ab_iadd' hG 35 _ _ _ _ _ _ dX6_build_35 ?_
      refine ab_aload_n' hG 36 _ _ _ _ 0 _ dX6_build_36 rfl ?_
      refine ab_gR hG 37 _ _ _ _ 45 21 14 0 (30, 0) dX6_build_37 (List.Mem.tail _ (List.Mem.tail _ (List.Mem.head _))) rfl ?_
      refine ab_iload_n' hG 40 _ _ _ _ 2 _ dX6_build_40 rfl ?_
      refine ab_baload' hG 41 _ _ _ _ 30 0 24 _ dX6_build_41 rfl h.1 ?_
      have h := h.2
      refine ab_if_eq' hG 42 _ _ _ _ (12) 54 _ dX6_build_42 (by decide) (fun hc => ?_) (fun hc => ?_)
      · have h := h.1 hc
        refine ab_iconst' hG 54 _ _ _ _ 0 0 dX6_build_54 (by decide) ?_
        refine ab_iastore' hG 55 _ _ _ _ 23 0 336 _ _ dX6_build_55 rfl h.1 ?_
        have h := h.2
        refine ab_aload_n' hG 56 _ _ _ _ 0 _ dX6_build_56 rfl ?_
        refine ab_gR hG 57 _ _ _ _ 17 21 3 0 (24, 0) dX6_build_57 (List.Mem.tail _ (List.Mem.tail _ (List.Mem.tail _ (List.Mem.tail _ (List.Mem.head _))))) rfl ?_
        refine ab_sipush' hG 60 _ _ _ _ 312 312 dX6_build_60 (by decide) ?_
        refine ab_iload_n' hG 63 _ _ _ _ 2 _ dX6_build_63 rfl ?_
        refine ab_iadd' hG 64 _ _ _ _ _ _ dX6_build_64 ?_
        refine ab_iconst' hG 65 _ _ _ _ (-1) (-1) dX6_build_65 (by decide) ?_
        refine ab_iastore' hG 66 _ _ _ _ 24 0 336 _ _ dX6_build_66 rfl h.1 ?_
        have h := h.2
        refine ab_aload_n' hG 67 _ _ _ _ 0 _ dX6_build_67 rfl ?_
        refine ab_gR hG 68 _ _ _ _ 20 21 4 0 (25, 0) dX6_build_68 (List.Mem.tail _ (List.Mem.tail _ (List.Mem.tail _ (List.Mem.tail _ (List.Mem.tail _ (List.Mem.head _)))))) rfl ?_
        refine ab_sipush' hG 71 _ _ _ _ 312 312 dX6_build_71 (by decide) ?_
        refine ab_iload_n' hG 74 _ _ _ _ 2 _ dX6_build_74 rfl ?_
        refine ab_iadd' hG 75 _ _ _ _ _ _ dX6_build_75 ?_
        refine ab_iconst' hG 76 _ _ _ _ 0 0 dX6_build_76 (by decide) ?_
        refine ab_iastore' hG 77 _ _ _ _ 25 0 336 _ _ dX6_build_77 rfl h.1 ?_
        have h := h.2
        refine ab_iinc' hG 78 _ _ _ _ 2 1 x2 (x2 + 1) dX6_build_78 rfl rfl ?_
        refine ab_goto' hG 81 _ _ _ _ (-79) 2 dX6_build_81 (by decide) ?_
        exact h
      · have h := h.2 hc
        refine ab_aload_n' hG 45 _ _ _ _ 0 _ dX6_build_45 rfl ?_
        refine ab_gR hG 46 _ _ _ _ 51 21 16 0 (32, 0) dX6_build_46 (List.Mem.tail _ (List.Mem.tail _ (List.Mem.tail _ (List.Mem.head _)))) rfl ?_
        refine ab_iload_n' hG 49 _ _ _ _ 2 _ dX6_build_49 rfl ?_
        refine ab_iaload' hG 50 _ _ _ _ 32 0 24 _ dX6_build_50 rfl h.1 ?_
        have h := h.2
        refine ab_goto' hG 51 _ _ _ _ (4) 55 dX6_build_51 (by decide) ?_
        refine ab_iastore' hG 55 _ _ _ _ 23 0 336 _ _ dX6_build_55 rfl h.1 ?_
        have h := h.2
        refine ab_aload_n' hG 56 _ _ _ _ 0 _ dX6_build_56 rfl ?_
        refine ab_gR hG 57 _ _ _ _ 17 21 3 0 (24, 0) dX6_build_57 (List.Mem.tail _ (List.Mem.tail _ (List.Mem.tail _ (List.Mem.tail _ (List.Mem.head _))))) rfl ?_
        refine ab_sipush' hG 60 _ _ _ _ 312 312 dX6_build_60 (by decide) ?_
        refine ab_iload_n' hG 63 _ _ _ _ 2 _ dX6_build_63 rfl ?_
        refine ab_iadd' hG 64 _ _ _ _ _ _ dX6_build_64 ?_
        refine ab_iconst' hG 65 _ _ _ _ (-1) (-1) dX6_build_65 (by decide) ?_
        refine ab_iastore' hG 66 _ _ _ _ 24 0 336 _ _ dX6_build_66 rfl h.1 ?_
        have h := h.2
        refine ab_aload_n' hG 67 _ _ _ _ 0 _ dX6_build_67 rfl ?_
        refine ab_gR hG 68 _ _ _ _ 20 21 4 0 (25, 0) dX6_build_68 (List.Mem.tail _ (List.Mem.tail _ (List.Mem.tail _ (List.Mem.tail _ (List.Mem.tail _ (List.Mem.head _)))))) rfl ?_
        refine ab_sipush' hG 71 _ _ _ _ 312 312 dX6_build_71 (by decide) ?_
        refine ab_iload_n' hG 74 _ _ _ _ 2 _ dX6_build_74 rfl ?_
        refine ab_iadd' hG 75 _ _ _ _ _ _ dX6_build_75 ?_
        refine ab_iconst' hG 76 _ _ _ _ 0 0 dX6_build_76 (by decide) ?_
        refine ab_iastore' hG 77 _ _ _ _ 25 0 336 _ _ dX6_build_77 rfl h.1 ?_
        have h := h.2
        refine ab_iinc' hG 78 _ _ _ _ 2 1 x2 (x2 + 1) dX6_build_78 rfl rfl ?_
        refine ab_goto' hG 81 _ _ _ _ (-79) 2 dX6_build_81 (by decide) ?_
        exact h
    · have h := h.1 hc
      refine ab_iconst' hG 21 _ _ _ _ 1 1 dX6_build_21 (by decide) ?_
      refine ab_goto' hG 22 _ _ _ _ (4) 26 dX6_build_22 (by decide) ?_
      refine ab_bastore' hG 26 _ _ _ _ 22 0 336 _ _ dX6_build_26 rfl h.1 ?_
      have h := h.2
      refine ab_aload_n' hG 27 _ _ _ _ 0 _ dX6_build_27 rfl ?_
      refine ab_gR hG 28 _ _ _ _ 13 21 2 0 (23, 0) dX6_build_28 (List.Mem.tail _ (List.Mem.head _)) rfl ?_
      refine ab_sipush' hG 31 _ _ _ _ 312 312 dX6_build_31 (by decide) ?_
      refine ab_iload_n' hG 34 _ _ _ _ 2 _ dX6_build_34 rfl ?_
      refine ab_iadd' hG 35 _ _ _ _ _ _ dX6_build_35 ?_
      refine ab_aload_n' hG 36 _ _ _ _ 0 _ dX6_build_36 rfl ?_
      refine ab_gR hG 37 _ _ _ _ 45 21 14 0 (30, 0) dX6_build_37 (List.Mem.tail _ (List.Mem.tail _ (List.Mem.head _))) rfl ?_
      refine ab_iload_n' hG 40 _ _ _ _ 2 _ dX6_build_40 rfl ?_
      refine ab_baload' hG 41 _ _ _ _ 30 0 24 _ dX6_build_41 rfl h.1 ?_
      have h := h.2
      refine ab_if_eq' hG 42 _ _ _ _ (12) 54 _ dX6_build_42 (by decide) (fun hc => ?_) (fun hc => ?_)
      · have h := h.1 hc
        refine ab_iconst' hG 54 _ _ _ _ 0 0 dX6_build_54 (by decide) ?_
        refine ab_iastore' hG 55 _ _ _ _ 23 0 336 _ _ dX6_build_55 rfl h.1 ?_
        have h := h.2
        refine ab_aload_n' hG 56 _ _ _ _ 0 _ dX6_build_56 rfl ?_
        refine ab_gR hG 57 _ _ _ _ 17 21 3 0 (24, 0) dX6_build_57 (List.Mem.tail _ (List.Mem.tail _ (List.Mem.tail _ (List.Mem.tail _ (List.Mem.head _))))) rfl ?_
        refine ab_sipush' hG 60 _ _ _ _ 312 312 dX6_build_60 (by decide) ?_
        refine ab_iload_n' hG 63 _ _ _ _ 2 _ dX6_build_63 rfl ?_
        refine ab_iadd' hG 64 _ _ _ _ _ _ dX6_build_64 ?_
        refine ab_iconst' hG 65 _ _ _ _ (-1) (-1) dX6_build_65 (by decide) ?_
        refine ab_iastore' hG 66 _ _ _ _ 24 0 336 _ _ dX6_build_66 rfl h.1 ?_
        have h := h.2
        refine ab_aload_n' hG 67 _ _ _ _ 0 _ dX6_build_67 rfl ?_
        refine ab_gR hG 68 _ _ _ _ 20 21 4 0 (25, 0) dX6_build_68 (List.Mem.tail _ (List.Mem.tail _ (List.Mem.tail _ (List.Mem.tail _ (List.Mem.tail _ (List.Mem.head _)))))) rfl ?_
        refine ab_sipush' hG 71 _ _ _ _ 312 312 dX6_build_71 (by decide) ?_
        refine ab_iload_n' hG 74 _ _ _ _ 2 _ dX6_build_74 rfl ?_
        refine ab_iadd' hG 75 _ _ _ _ _ _ dX6_build_75 ?_
        refine ab_iconst' hG 76 _ _ _ _ 0 0 dX6_build_76 (by decide) ?_
        refine ab_iastore' hG 77 _ _ _ _ 25 0 336 _ _ dX6_build_77 rfl h.1 ?_
        have h := h.2
        refine ab_iinc' hG 78 _ _ _ _ 2 1 x2 (x2 + 1) dX6_build_78 rfl rfl ?_
        refine ab_goto' hG 81 _ _ _ _ (-79) 2 dX6_build_81 (by decide) ?_
        exact h
      · have h := h.2 hc
        refine ab_aload_n' hG 45 _ _ _ _ 0 _ dX6_build_45 rfl ?_
        refine ab_gR hG 46 _ _ _ _ 51 21 16 0 (32, 0) dX6_build_46 (List.Mem.tail _ (List.Mem.tail _ (List.Mem.tail _ (List.Mem.head _)))) rfl ?_
        refine ab_iload_n' hG 49 _ _ _ _ 2 _ dX6_build_49 rfl ?_
        refine ab_iaload' hG 50 _ _ _ _ 32 0 24 _ dX6_build_50 rfl h.1 ?_
        have h := h.2
        refine ab_goto' hG 51 _ _ _ _ (4) 55 dX6_build_51 (by decide) ?_
        refine ab_iastore' hG 55 _ _ _ _ 23 0 336 _ _ dX6_build_55 rfl h.1 ?_
        have h := h.2
        refine ab_aload_n' hG 56 _ _ _ _ 0 _ dX6_build_56 rfl ?_
        refine ab_gR hG 57 _ _ _ _ 17 21 3 0 (24, 0) dX6_build_57 (List.Mem.tail _ (List.Mem.tail _ (List.Mem.tail _ (List.Mem.tail _ (List.Mem.head _))))) rfl ?_
        refine ab_sipush' hG 60 _ _ _ _ 312 312 dX6_build_60 (by decide) ?_
        refine ab_iload_n' hG 63 _ _ _ _ 2 _ dX6_build_63 rfl ?_
        refine ab_iadd' hG 64 _ _ _ _ _ _ dX6_build_64 ?_
        refine ab_iconst' hG 65 _ _ _ _ (-1) (-1) dX6_build_65 (by decide) ?_
        refine ab_iastore' hG 66 _ _ _ _ 24 0 336 _ _ dX6_build_66 rfl h.1 ?_
        have h := h.2
        refine ab_aload_n' hG 67 _ _ _ _ 0 _ dX6_build_67 rfl ?_
        refine ab_gR hG 68 _ _ _ _ 20 21 4 0 (25, 0) dX6_build_68 (List.Mem.tail _ (List.Mem.tail _ (List.Mem.tail _ (List.Mem.tail _ (List.Mem.tail _ (List.Mem.head _)))))) rfl ?_
        refine ab_sipush' hG 71 _ _ _ _ 312 312 dX6_build_71 (by decide) ?_
        refine ab_iload_n' hG 74 _ _ _ _ 2 _ dX6_build_74 rfl ?_
        refine ab_iadd' hG 75 _ _ _ _ _ _ dX6_build_75 ?_
        refine ab_iconst' hG 76 _ _ _ _ 0 0 dX6_build_76 (by decide) ?_
        refine ab_iastore' hG 77 _ _ _ _ 25 0 336 _ _ dX6_build_77 rfl h.1 ?_
        have h := h.2
        refine ab_iinc' hG 78 _ _ _ _ 2 1 x2 (x2 + 1) dX6_build_78 rfl rfl ?_
        refine ab_goto' hG 81 _ _ _ _ (-79) 2 dX6_build_81 (by decide) ?_
        exact h
theorem bl_X6_build_86 {Q : ab_Po} {G : ab_Gt} (hG : ab_Cl M_X6_build Q G) (x1 : Int32) (x2 : Int32) (S : ab_S) (h : (24 ≤ x2 → Sp_X6_copy [(.inr (21, 0)), (.inl 13), (.inl 12)] S (ab_back Q G 121 [some (.inr (21, 0)), some (.inl x1), some (.inl x2)] [] 0)) ∧ (¬ 24 ≤ x2 → vp_in x2 24 ∧ ((S 30 0 x2.toNatClampNeg) = 0 → G 86 [some (.inr (21, 0)), some (.inl x1), some (.inl (x2 + 1))] [] S 0) ∧ (¬ (S 30 0 x2.toNatClampNeg) = 0 → Sp_X6_putChildren [(.inr (21, 0)), (.inl x2), (.inl x1)] S (ab_back Q G 107 [some (.inr (21, 0)), some (.inl x1), some (.inl x2)] [] 0)))) : G 86 [some (.inr (21, 0)), some (.inl x1), some (.inl x2)] [] S 0 := by
  refine ab_iload_n' hG 86 _ _ _ _ 2 _ dX6_build_86 rfl ?_
  refine ab_bipush' hG 87 _ _ _ _ 24 24 dX6_build_87 (by decide) ?_
  refine ab_icmp_ge' hG 89 _ _ _ _ (24) 113 _ _ dX6_build_89 (by decide) (fun hc => ?_) (fun hc => ?_)
  · have h := h.1 hc
    refine ab_aload_n' hG 113 _ _ _ _ 0 _ dX6_build_113 rfl ?_
    refine ab_bipush' hG 114 _ _ _ _ 13 13 dX6_build_114 (by decide) ?_
    refine ab_bipush' hG 116 _ _ _ _ 12 12 dX6_build_116 (by decide) ?_
    exact ab_invv' hG 118 [some (.inr (21, 0)), some (.inl x1), some (.inl x2)] [(.inl 13), (.inl 12)] [] S 0 78 _ 2 0 0 _ (21, 0) dX6_build_118 rfl rfl rfl rfl (by decide) (by decide) h
  · have h := h.2 hc
    refine ab_aload_n' hG 92 _ _ _ _ 0 _ dX6_build_92 rfl ?_
    refine ab_gR hG 93 _ _ _ _ 45 21 14 0 (30, 0) dX6_build_93 (List.Mem.tail _ (List.Mem.tail _ (List.Mem.head _))) rfl ?_
    refine ab_iload_n' hG 96 _ _ _ _ 2 _ dX6_build_96 rfl ?_
    refine ab_baload' hG 97 _ _ _ _ 30 0 24 _ dX6_build_97 rfl h.1 ?_
    have h := h.2
    refine ab_if_eq' hG 98 _ _ _ _ (9) 107 _ dX6_build_98 (by decide) (fun hc => ?_) (fun hc => ?_)
    · have h := h.1 hc
      refine ab_iinc' hG 107 _ _ _ _ 2 1 x2 (x2 + 1) dX6_build_107 rfl rfl ?_
      refine ab_goto' hG 110 _ _ _ _ (-24) 86 dX6_build_110 (by decide) ?_
      exact h
    · have h := h.2 hc
      refine ab_aload_n' hG 101 _ _ _ _ 0 _ dX6_build_101 rfl ?_
      refine ab_iload_n' hG 102 _ _ _ _ 2 _ dX6_build_102 rfl ?_
      refine ab_iload_n' hG 103 _ _ _ _ 1 _ dX6_build_103 rfl ?_
      exact ab_invv' hG 104 [some (.inr (21, 0)), some (.inl x1), some (.inl x2)] [(.inl x2), (.inl x1)] [] S 0 144 _ 2 0 0 _ (21, 0) dX6_build_104 rfl rfl rfl rfl (by decide) (by decide) h
theorem bl_X6_build_107 {Q : ab_Po} {G : ab_Gt} (hG : ab_Cl M_X6_build Q G) (x1 : Int32) (x2 : Int32) (S : ab_S) (h : G 86 [some (.inr (21, 0)), some (.inl x1), some (.inl (x2 + 1))] [] S 0) : G 107 [some (.inr (21, 0)), some (.inl x1), some (.inl x2)] [] S 0 := by
  refine ab_iinc' hG 107 _ _ _ _ 2 1 x2 (x2 + 1) dX6_build_107 rfl rfl ?_
  refine ab_goto' hG 110 _ _ _ _ (-24) 86 dX6_build_110 (by decide) ?_
  exact h
theorem bl_X6_build_121 {Q : ab_Po} {G : ab_Gt} (hG : ab_Cl M_X6_build Q G) (x1 : Int32) (x2 : Int32) (S : ab_S) (h : Q (.inl none) S) : G 121 [some (.inr (21, 0)), some (.inl x1), some (.inl x2)] [] S 0 := by
  exact ab_return_' hG 121 _ _ _ dX6_build_121 rfl (by decide) h
theorem bl_X6_merge_0 {Q : ab_Po} {G : ab_Gt} (hG : ab_Cl M_X6_merge Q G) (x1 : Int32) (S : ab_S) (h : Sp_X6_isCommit [(.inr (21, 0)), (.inl x1)] S (ab_back Q G 6 [some (.inr (21, 0)), some (.inl x1), none, none] [(.inr (21, 0))] 0)) : G 0 [some (.inr (21, 0)), some (.inl x1), none, none] [] S 0 := by
  refine ab_aload_n' hG 0 _ _ _ _ 0 _ dX6_merge_0 rfl ?_
  refine ab_aload_n' hG 1 _ _ _ _ 0 _ dX6_merge_1 rfl ?_
  refine ab_iload_n' hG 2 _ _ _ _ 1 _ dX6_merge_2 rfl ?_
  exact ab_invv' hG 3 [some (.inr (21, 0)), some (.inl x1), none, none] [(.inl x1)] [(.inr (21, 0))] S 0 127 _ 1 1 0 _ (21, 0) dX6_merge_3 rfl rfl rfl rfl (by decide) (by decide) h
theorem bl_X6_merge_6 {Q : ab_Po} {G : ab_Gt} (hG : ab_Cl M_X6_merge Q G) (x1 : Int32) (xs0 : Int32) (S : ab_S) (h : (xs0 = 0 → (((ab_su S 21 0 0 1) 21 0 0) ≤ 0 → Sp_X6_baseOf [(.inr (21, 0)), (.inl ((ab_su S 21 0 0 1) 21 0 10)), (.inl x1)] (ab_su S 21 0 0 1) (ab_back Q G 53 [some (.inr (21, 0)), some (.inl x1), none, none] [] 0)) ∧ (¬ ((ab_su S 21 0 0 1) 21 0 0) ≤ 0 → Q (.inl (some 0)) (ab_su S 21 0 0 1))) ∧ (¬ xs0 = 0 → (0 ≤ (S 21 0 11) → (((ab_su S 21 0 0 2) 21 0 0) ≤ 0 → Sp_X6_baseOf [(.inr (21, 0)), (.inl ((ab_su S 21 0 0 2) 21 0 10)), (.inl x1)] (ab_su S 21 0 0 2) (ab_back Q G 53 [some (.inr (21, 0)), some (.inl x1), none, none] [] 0)) ∧ (¬ ((ab_su S 21 0 0 2) 21 0 0) ≤ 0 → Q (.inl (some 0)) (ab_su S 21 0 0 2))) ∧ (¬ 0 ≤ (S 21 0 11) → Sp_X6_isHeads [(.inr (21, 0))] S (ab_back Q G 24 [some (.inr (21, 0)), some (.inl x1), none, none] [(.inr (21, 0))] 0)))) : G 6 [some (.inr (21, 0)), some (.inl x1), none, none] [(.inl xs0), (.inr (21, 0))] S 0 := by
  refine ab_if_ne' hG 6 _ _ _ _ (7) 13 _ dX6_merge_6 (by decide) (fun hc => ?_) (fun hc => ?_)
  · have h := h.2 hc
    refine ab_aload_n' hG 13 _ _ _ _ 0 _ dX6_merge_13 rfl ?_
    refine ab_gI hG 14 _ _ _ _ 39 21 11 0 dX6_merge_14 (List.Mem.head _) rfl ?_
    refine ab_if_ge' hG 17 _ _ _ _ (10) 27 _ dX6_merge_17 (by decide) (fun hc => ?_) (fun hc => ?_)
    · have h := h.1 hc
      refine ab_iconst' hG 27 _ _ _ _ 2 2 dX6_merge_27 (by decide) ?_
      refine ab_goto' hG 28 _ _ _ _ (4) 32 dX6_merge_28 (by decide) ?_
      refine ab_putfield' hG 32 _ _ _ _ 82 21 0 0 _ dX6_merge_32 (List.Mem.head _) ?_
      refine ab_aload_n' hG 35 _ _ _ _ 0 _ dX6_merge_35 rfl ?_
      refine ab_gI hG 36 _ _ _ _ 82 21 0 0 dX6_merge_36 (List.Mem.tail _ (List.Mem.head _)) rfl ?_
      refine ab_if_le' hG 39 _ _ _ _ (5) 44 _ dX6_merge_39 (by decide) (fun hc => ?_) (fun hc => ?_)
      · have h := h.1 hc
        refine ab_aload_n' hG 44 _ _ _ _ 0 _ dX6_merge_44 rfl ?_
        refine ab_aload_n' hG 45 _ _ _ _ 0 _ dX6_merge_45 rfl ?_
        refine ab_gI hG 46 _ _ _ _ 124 21 10 0 dX6_merge_46 (List.Mem.tail _ (List.Mem.tail _ (List.Mem.head _))) rfl ?_
        refine ab_iload_n' hG 49 _ _ _ _ 1 _ dX6_merge_49 rfl ?_
        exact ab_invv' hG 50 [some (.inr (21, 0)), some (.inl x1), none, none] [(.inl ((ab_su S 21 0 0 2) 21 0 10)), (.inl x1)] [] (ab_su S 21 0 0 2) 0 131 _ 2 1 0 _ (21, 0) dX6_merge_50 rfl rfl rfl rfl (by decide) (by decide) h
      · have h := h.2 hc
        refine ab_iconst' hG 42 _ _ _ _ 0 0 dX6_merge_42 (by decide) ?_
        exact ab_ireturn' hG 43 _ _ _ _ dX6_merge_43 (Or.inl rfl) (by decide) h
    · have h := h.2 hc
      refine ab_aload_n' hG 20 _ _ _ _ 0 _ dX6_merge_20 rfl ?_
      exact ab_invv' hG 21 [some (.inr (21, 0)), some (.inl x1), none, none] [] [(.inr (21, 0))] S 0 147 _ 0 1 0 _ (21, 0) dX6_merge_21 rfl rfl rfl rfl (by decide) (by decide) h
  · have h := h.1 hc
    refine ab_iconst' hG 9 _ _ _ _ 1 1 dX6_merge_9 (by decide) ?_
    refine ab_goto' hG 10 _ _ _ _ (22) 32 dX6_merge_10 (by decide) ?_
    refine ab_putfield' hG 32 _ _ _ _ 82 21 0 0 _ dX6_merge_32 (List.Mem.head _) ?_
    refine ab_aload_n' hG 35 _ _ _ _ 0 _ dX6_merge_35 rfl ?_
    refine ab_gI hG 36 _ _ _ _ 82 21 0 0 dX6_merge_36 (List.Mem.tail _ (List.Mem.head _)) rfl ?_
    refine ab_if_le' hG 39 _ _ _ _ (5) 44 _ dX6_merge_39 (by decide) (fun hc => ?_) (fun hc => ?_)
    · have h := h.1 hc
      refine ab_aload_n' hG 44 _ _ _ _ 0 _ dX6_merge_44 rfl ?_
      refine ab_aload_n' hG 45 _ _ _ _ 0 _ dX6_merge_45 rfl ?_
      refine ab_gI hG 46 _ _ _ _ 124 21 10 0 dX6_merge_46 (List.Mem.tail _ (List.Mem.tail _ (List.Mem.head _))) rfl ?_
      refine ab_iload_n' hG 49 _ _ _ _ 1 _ dX6_merge_49 rfl ?_
      exact ab_invv' hG 50 [some (.inr (21, 0)), some (.inl x1), none, none] [(.inl ((ab_su S 21 0 0 1) 21 0 10)), (.inl x1)] [] (ab_su S 21 0 0 1) 0 131 _ 2 1 0 _ (21, 0) dX6_merge_50 rfl rfl rfl rfl (by decide) (by decide) h
    · have h := h.2 hc
      refine ab_iconst' hG 42 _ _ _ _ 0 0 dX6_merge_42 (by decide) ?_
      exact ab_ireturn' hG 43 _ _ _ _ dX6_merge_43 (Or.inl rfl) (by decide) h
theorem bl_X6_merge_24 {Q : ab_Po} {G : ab_Gt} (hG : ab_Cl M_X6_merge Q G) (x1 : Int32) (xs0 : Int32) (S : ab_S) (h : (xs0 = 0 → (((ab_su S 21 0 0 2) 21 0 0) ≤ 0 → Sp_X6_baseOf [(.inr (21, 0)), (.inl ((ab_su S 21 0 0 2) 21 0 10)), (.inl x1)] (ab_su S 21 0 0 2) (ab_back Q G 53 [some (.inr (21, 0)), some (.inl x1), none, none] [] 0)) ∧ (¬ ((ab_su S 21 0 0 2) 21 0 0) ≤ 0 → Q (.inl (some 0)) (ab_su S 21 0 0 2))) ∧ (¬ xs0 = 0 → (((ab_su S 21 0 0 0) 21 0 0) ≤ 0 → Sp_X6_baseOf [(.inr (21, 0)), (.inl ((ab_su S 21 0 0 0) 21 0 10)), (.inl x1)] (ab_su S 21 0 0 0) (ab_back Q G 53 [some (.inr (21, 0)), some (.inl x1), none, none] [] 0)) ∧ (¬ ((ab_su S 21 0 0 0) 21 0 0) ≤ 0 → Q (.inl (some 0)) (ab_su S 21 0 0 0)))) : G 24 [some (.inr (21, 0)), some (.inl x1), none, none] [(.inl xs0), (.inr (21, 0))] S 0 := by
  refine ab_if_ne' hG 24 _ _ _ _ (7) 31 _ dX6_merge_24 (by decide) (fun hc => ?_) (fun hc => ?_)
  · have h := h.2 hc
    refine ab_iconst' hG 31 _ _ _ _ 0 0 dX6_merge_31 (by decide) ?_
    refine ab_putfield' hG 32 _ _ _ _ 82 21 0 0 _ dX6_merge_32 (List.Mem.head _) ?_
    refine ab_aload_n' hG 35 _ _ _ _ 0 _ dX6_merge_35 rfl ?_
    refine ab_gI hG 36 _ _ _ _ 82 21 0 0 dX6_merge_36 (List.Mem.tail _ (List.Mem.head _)) rfl ?_
    refine ab_if_le' hG 39 _ _ _ _ (5) 44 _ dX6_merge_39 (by decide) (fun hc => ?_) (fun hc => ?_)
    · have h := h.1 hc
      refine ab_aload_n' hG 44 _ _ _ _ 0 _ dX6_merge_44 rfl ?_
      refine ab_aload_n' hG 45 _ _ _ _ 0 _ dX6_merge_45 rfl ?_
      refine ab_gI hG 46 _ _ _ _ 124 21 10 0 dX6_merge_46 (List.Mem.tail _ (List.Mem.tail _ (List.Mem.head _))) rfl ?_
      refine ab_iload_n' hG 49 _ _ _ _ 1 _ dX6_merge_49 rfl ?_
      exact ab_invv' hG 50 [some (.inr (21, 0)), some (.inl x1), none, none] [(.inl ((ab_su S 21 0 0 0) 21 0 10)), (.inl x1)] [] (ab_su S 21 0 0 0) 0 131 _ 2 1 0 _ (21, 0) dX6_merge_50 rfl rfl rfl rfl (by decide) (by decide) h
    · have h := h.2 hc
      refine ab_iconst' hG 42 _ _ _ _ 0 0 dX6_merge_42 (by decide) ?_
      exact ab_ireturn' hG 43 _ _ _ _ dX6_merge_43 (Or.inl rfl) (by decide) h
  · have h := h.1 hc
    refine ab_iconst' hG 27 _ _ _ _ 2 2 dX6_merge_27 (by decide) ?_
    refine ab_goto' hG 28 _ _ _ _ (4) 32 dX6_merge_28 (by decide) ?_
    refine ab_putfield' hG 32 _ _ _ _ 82 21 0 0 _ dX6_merge_32 (List.Mem.head _) ?_
    refine ab_aload_n' hG 35 _ _ _ _ 0 _ dX6_merge_35 rfl ?_
    refine ab_gI hG 36 _ _ _ _ 82 21 0 0 dX6_merge_36 (List.Mem.tail _ (List.Mem.head _)) rfl ?_
    refine ab_if_le' hG 39 _ _ _ _ (5) 44 _ dX6_merge_39 (by decide) (fun hc => ?_) (fun hc => ?_)
    · have h := h.1 hc
      refine ab_aload_n' hG 44 _ _ _ _ 0 _ dX6_merge_44 rfl ?_
      refine ab_aload_n' hG 45 _ _ _ _ 0 _ dX6_merge_45 rfl ?_
      refine ab_gI hG 46 _ _ _ _ 124 21 10 0 dX6_merge_46 (List.Mem.tail _ (List.Mem.tail _ (List.Mem.head _))) rfl ?_
      refine ab_iload_n' hG 49 _ _ _ _ 1 _ dX6_merge_49 rfl ?_
      exact ab_invv' hG 50 [some (.inr (21, 0)), some (.inl x1), none, none] [(.inl ((ab_su S 21 0 0 2) 21 0 10)), (.inl x1)] [] (ab_su S 21 0 0 2) 0 131 _ 2 1 0 _ (21, 0) dX6_merge_50 rfl rfl rfl rfl (by decide) (by decide) h
    · have h := h.2 hc
      refine ab_iconst' hG 42 _ _ _ _ 0 0 dX6_merge_42 (by decide) ?_
      exact ab_ireturn' hG 43 _ _ _ _ dX6_merge_43 (Or.inl rfl) (by decide) h
theorem bl_X6_merge_53 {Q : ab_Po} {G : ab_Gt} (hG : ab_Cl M_X6_merge Q G) (x1 : Int32) (xs0 : Int32) (S : ab_S) (h : G 56 [some (.inr (21, 0)), some (.inl x1), some (.inl xs0), some (.inl 0)] [] S 0) : G 53 [some (.inr (21, 0)), some (.inl x1), none, none] [(.inl xs0)] S 0 := by
  refine ab_istore_n' hG 53 _ _ _ _ 2 _ dX6_merge_53 (by decide) ?_
  refine ab_iconst' hG 54 _ _ _ _ 0 0 dX6_merge_54 (by decide) ?_
  refine ab_istore_n' hG 55 _ _ _ _ 3 _ dX6_merge_55 (by decide) ?_
  exact h
theorem bl_X6_merge_56 {Q : ab_Po} {G : ab_Gt} (hG : ab_Cl M_X6_merge Q G) (x1 : Int32) (x2 : Int32) (x3 : Int32) (S : ab_S) (h : (24 ≤ x3 → Sp_X6_countKinds [(.inr (21, 0))] S (ab_back Q G 79 [some (.inr (21, 0)), some (.inl x1), some (.inl x2), some (.inl x3)] [] 0)) ∧ (¬ 24 ≤ x3 → Sp_X6_meet [(.inr (21, 0)), (.inl x3), (.inl x1), (.inl x2)] S (ab_back Q G 69 [some (.inr (21, 0)), some (.inl x1), some (.inl x2), some (.inl x3)] [] 0))) : G 56 [some (.inr (21, 0)), some (.inl x1), some (.inl x2), some (.inl x3)] [] S 0 := by
  refine ab_iload_n' hG 56 _ _ _ _ 3 _ dX6_merge_56 rfl ?_
  refine ab_bipush' hG 57 _ _ _ _ 24 24 dX6_merge_57 (by decide) ?_
  refine ab_icmp_ge' hG 59 _ _ _ _ (16) 75 _ _ dX6_merge_59 (by decide) (fun hc => ?_) (fun hc => ?_)
  · have h := h.1 hc
    refine ab_aload_n' hG 75 _ _ _ _ 0 _ dX6_merge_75 rfl ?_
    exact ab_invv' hG 76 [some (.inr (21, 0)), some (.inl x1), some (.inl x2), some (.inl x3)] [] [] S 0 155 _ 0 1 0 _ (21, 0) dX6_merge_76 rfl rfl rfl rfl (by decide) (by decide) h
  · have h := h.2 hc
    refine ab_aload_n' hG 62 _ _ _ _ 0 _ dX6_merge_62 rfl ?_
    refine ab_iload_n' hG 63 _ _ _ _ 3 _ dX6_merge_63 rfl ?_
    refine ab_iload_n' hG 64 _ _ _ _ 1 _ dX6_merge_64 rfl ?_
    refine ab_iload_n' hG 65 _ _ _ _ 2 _ dX6_merge_65 rfl ?_
    exact ab_invv' hG 66 [some (.inr (21, 0)), some (.inl x1), some (.inl x2), some (.inl x3)] [(.inl x3), (.inl x1), (.inl x2)] [] S 0 151 _ 3 0 0 _ (21, 0) dX6_merge_66 rfl rfl rfl rfl (by decide) (by decide) h
theorem bl_X6_merge_69 {Q : ab_Po} {G : ab_Gt} (hG : ab_Cl M_X6_merge Q G) (x1 : Int32) (x2 : Int32) (x3 : Int32) (S : ab_S) (h : G 56 [some (.inr (21, 0)), some (.inl x1), some (.inl x2), some (.inl (x3 + 1))] [] S 0) : G 69 [some (.inr (21, 0)), some (.inl x1), some (.inl x2), some (.inl x3)] [] S 0 := by
  refine ab_iinc' hG 69 _ _ _ _ 3 1 x3 (x3 + 1) dX6_merge_69 rfl rfl ?_
  refine ab_goto' hG 72 _ _ _ _ (-16) 56 dX6_merge_72 (by decide) ?_
  exact h
theorem bl_X6_merge_79 {Q : ab_Po} {G : ab_Gt} (hG : ab_Cl M_X6_merge Q G) (x1 : Int32) (x2 : Int32) (x3 : Int32) (xs0 : Int32) (S : ab_S) (h : (xs0 = 0 → Sp_X6_findOrphans [(.inr (21, 0))] S (ab_back Q G 86 [some (.inr (21, 0)), some (.inl x1), some (.inl x2), some (.inl x3)] [] 0)) ∧ (¬ xs0 = 0 → Sp_X6_countKinds [(.inr (21, 0))] S (ab_back Q G 90 [some (.inr (21, 0)), some (.inl x1), some (.inl x2), some (.inl x3)] [] 0))) : G 79 [some (.inr (21, 0)), some (.inl x1), some (.inl x2), some (.inl x3)] [(.inl xs0)] S 0 := by
  refine ab_if_ne' hG 79 _ _ _ _ (7) 86 _ dX6_merge_79 (by decide) (fun hc => ?_) (fun hc => ?_)
  · have h := h.2 hc
    refine ab_aload_n' hG 86 _ _ _ _ 0 _ dX6_merge_86 rfl ?_
    exact ab_invv' hG 87 [some (.inr (21, 0)), some (.inl x1), some (.inl x2), some (.inl x3)] [] [] S 0 155 _ 0 1 0 _ (21, 0) dX6_merge_87 rfl rfl rfl rfl (by decide) (by decide) h
  · have h := h.1 hc
    refine ab_aload_n' hG 82 _ _ _ _ 0 _ dX6_merge_82 rfl ?_
    exact ab_invv' hG 83 [some (.inr (21, 0)), some (.inl x1), some (.inl x2), some (.inl x3)] [] [] S 0 159 _ 0 0 0 _ (21, 0) dX6_merge_83 rfl rfl rfl rfl (by decide) (by decide) h
theorem bl_X6_merge_86 {Q : ab_Po} {G : ab_Gt} (hG : ab_Cl M_X6_merge Q G) (x1 : Int32) (x2 : Int32) (x3 : Int32) (S : ab_S) (h : Sp_X6_countKinds [(.inr (21, 0))] S (ab_back Q G 90 [some (.inr (21, 0)), some (.inl x1), some (.inl x2), some (.inl x3)] [] 0)) : G 86 [some (.inr (21, 0)), some (.inl x1), some (.inl x2), some (.inl x3)] [] S 0 := by
  refine ab_aload_n' hG 86 _ _ _ _ 0 _ dX6_merge_86 rfl ?_
  exact ab_invv' hG 87 [some (.inr (21, 0)), some (.inl x1), some (.inl x2), some (.inl x3)] [] [] S 0 155 _ 0 1 0 _ (21, 0) dX6_merge_87 rfl rfl rfl rfl (by decide) (by decide) h
theorem bl_X6_merge_90 {Q : ab_Po} {G : ab_Gt} (hG : ab_Cl M_X6_merge Q G) (x1 : Int32) (x2 : Int32) (x3 : Int32) (xs0 : Int32) (S : ab_S) (h : (xs0 = 0 → Sp_X6_findRings [(.inr (21, 0))] S (ab_back Q G 97 [some (.inr (21, 0)), some (.inl x1), some (.inl x2), some (.inl x3)] [] 0)) ∧ (¬ xs0 = 0 → G 104 [some (.inr (21, 0)), some (.inl x1), some (.inl x2), some (.inl 0)] [] (ab_su S 21 0 12 0) 0)) : G 90 [some (.inr (21, 0)), some (.inl x1), some (.inl x2), some (.inl x3)] [(.inl xs0)] S 0 := by
  refine ab_if_ne' hG 90 _ _ _ _ (7) 97 _ dX6_merge_90 (by decide) (fun hc => ?_) (fun hc => ?_)
  · have h := h.2 hc
    refine ab_aload_n' hG 97 _ _ _ _ 0 _ dX6_merge_97 rfl ?_
    refine ab_iconst' hG 98 _ _ _ _ 0 0 dX6_merge_98 (by decide) ?_
    refine ab_putfield' hG 99 _ _ _ _ 165 21 12 0 _ dX6_merge_99 (List.Mem.tail _ (List.Mem.head _)) ?_
    refine ab_iconst' hG 102 _ _ _ _ 0 0 dX6_merge_102 (by decide) ?_
    refine ab_istore_n' hG 103 _ _ _ _ 3 _ dX6_merge_103 (by decide) ?_
    exact h
  · have h := h.1 hc
    refine ab_aload_n' hG 93 _ _ _ _ 0 _ dX6_merge_93 rfl ?_
    exact ab_invv' hG 94 [some (.inr (21, 0)), some (.inl x1), some (.inl x2), some (.inl x3)] [] [] S 0 162 _ 0 0 0 _ (21, 0) dX6_merge_94 rfl rfl rfl rfl (by decide) (by decide) h
theorem bl_X6_merge_97 {Q : ab_Po} {G : ab_Gt} (hG : ab_Cl M_X6_merge Q G) (x1 : Int32) (x2 : Int32) (x3 : Int32) (S : ab_S) (h : G 104 [some (.inr (21, 0)), some (.inl x1), some (.inl x2), some (.inl 0)] [] (ab_su S 21 0 12 0) 0) : G 97 [some (.inr (21, 0)), some (.inl x1), some (.inl x2), some (.inl x3)] [] S 0 := by
  refine ab_aload_n' hG 97 _ _ _ _ 0 _ dX6_merge_97 rfl ?_
  refine ab_iconst' hG 98 _ _ _ _ 0 0 dX6_merge_98 (by decide) ?_
  refine ab_putfield' hG 99 _ _ _ _ 165 21 12 0 _ dX6_merge_99 (List.Mem.tail _ (List.Mem.head _)) ?_
  refine ab_iconst' hG 102 _ _ _ _ 0 0 dX6_merge_102 (by decide) ?_
  refine ab_istore_n' hG 103 _ _ _ _ 3 _ dX6_merge_103 (by decide) ?_
  exact h
theorem bl_X6_merge_104 {Q : ab_Po} {G : ab_Gt} (hG : ab_Cl M_X6_merge Q G) (x1 : Int32) (x2 : Int32) (x3 : Int32) (S : ab_S) (h : (24 ≤ x3 → ((S 21 0 12) = 0 → Sp_X6_build [(.inr (21, 0)), (.inl x1)] S (ab_back Q G 167 [some (.inr (21, 0)), some (.inl x1), some (.inl x2), some (.inl x3)] [] 0)) ∧ (¬ (S 21 0 12) = 0 → Q (.inl (some (S 21 0 12))) S)) ∧ (¬ 24 ≤ x3 → vp_in x3 24 ∧ ((S 31 0 x3.toNatClampNeg) ≤ 0 → G 104 [some (.inr (21, 0)), some (.inl x1), some (.inl x2), some (.inl (x3 + 1))] [] S 0) ∧ (¬ (S 31 0 x3.toNatClampNeg) ≤ 0 → vp_in x3 24 ∧ vp_in (S 21 0 12) 24 ∧ G 104 [some (.inr (21, 0)), some (.inl x1), some (.inl x2), some (.inl (x3 + 1))] [] (ab_su (ab_su S 29 0 (S 21 0 12).toNatClampNeg ((32 * (S 31 0 x3.toNatClampNeg)) + x3)) 21 0 12 (((ab_su S 29 0 (S 21 0 12).toNatClampNeg ((32 * (S 31 0 x3.toNatClampNeg)) + x3)) 21 0 12) + 1)) 0))) : G 104 [some (.inr (21, 0)), some (.inl x1), some (.inl x2), some (.inl x3)] [] S 0 := by
  refine ab_iload_n' hG 104 _ _ _ _ 3 _ dX6_merge_104 rfl ?_
  refine ab_bipush' hG 105 _ _ _ _ 24 24 dX6_merge_105 (by decide) ?_
  refine ab_icmp_ge' hG 107 _ _ _ _ (48) 155 _ _ dX6_merge_107 (by decide) (fun hc => ?_) (fun hc => ?_)
  · have h := h.1 hc
    refine ab_aload_n' hG 155 _ _ _ _ 0 _ dX6_merge_155 rfl ?_
    refine ab_gI hG 156 _ _ _ _ 165 21 12 0 dX6_merge_156 (List.Mem.tail _ (List.Mem.tail _ (List.Mem.tail _ (List.Mem.tail _ (List.Mem.tail _ (List.Mem.head _)))))) rfl ?_
    refine ab_if_ne' hG 159 _ _ _ _ (13) 172 _ dX6_merge_159 (by decide) (fun hc => ?_) (fun hc => ?_)
    · have h := h.2 hc
      refine ab_aload_n' hG 172 _ _ _ _ 0 _ dX6_merge_172 rfl ?_
      refine ab_gI hG 173 _ _ _ _ 165 21 12 0 dX6_merge_173 (List.Mem.tail _ (List.Mem.tail _ (List.Mem.tail _ (List.Mem.tail _ (List.Mem.tail _ (List.Mem.head _)))))) rfl ?_
      exact ab_ireturn' hG 176 _ _ _ _ dX6_merge_176 (Or.inl rfl) (by decide) h
    · have h := h.1 hc
      refine ab_aload_n' hG 162 _ _ _ _ 0 _ dX6_merge_162 rfl ?_
      refine ab_iload_n' hG 163 _ _ _ _ 1 _ dX6_merge_163 rfl ?_
      exact ab_invv' hG 164 [some (.inr (21, 0)), some (.inl x1), some (.inl x2), some (.inl x3)] [(.inl x1)] [] S 0 168 _ 1 0 0 _ (21, 0) dX6_merge_164 rfl rfl rfl rfl (by decide) (by decide) h
  · have h := h.2 hc
    refine ab_aload_n' hG 110 _ _ _ _ 0 _ dX6_merge_110 rfl ?_
    refine ab_gR hG 111 _ _ _ _ 48 21 15 0 (31, 0) dX6_merge_111 (List.Mem.tail _ (List.Mem.tail _ (List.Mem.tail _ (List.Mem.head _)))) rfl ?_
    refine ab_iload_n' hG 114 _ _ _ _ 3 _ dX6_merge_114 rfl ?_
    refine ab_iaload' hG 115 _ _ _ _ 31 0 24 _ dX6_merge_115 rfl h.1 ?_
    have h := h.2
    refine ab_if_le' hG 116 _ _ _ _ (33) 149 _ dX6_merge_116 (by decide) (fun hc => ?_) (fun hc => ?_)
    · have h := h.1 hc
      refine ab_iinc' hG 149 _ _ _ _ 3 1 x3 (x3 + 1) dX6_merge_149 rfl rfl ?_
      refine ab_goto' hG 152 _ _ _ _ (-48) 104 dX6_merge_152 (by decide) ?_
      exact h
    · have h := h.2 hc
      refine ab_aload_n' hG 119 _ _ _ _ 0 _ dX6_merge_119 rfl ?_
      refine ab_gR hG 120 _ _ _ _ 42 21 13 0 (29, 0) dX6_merge_120 (List.Mem.tail _ (List.Mem.tail _ (List.Mem.tail _ (List.Mem.tail _ (List.Mem.head _))))) rfl ?_
      refine ab_aload_n' hG 123 _ _ _ _ 0 _ dX6_merge_123 rfl ?_
      refine ab_gI hG 124 _ _ _ _ 165 21 12 0 dX6_merge_124 (List.Mem.tail _ (List.Mem.tail _ (List.Mem.tail _ (List.Mem.tail _ (List.Mem.tail _ (List.Mem.head _)))))) rfl ?_
      refine ab_bipush' hG 127 _ _ _ _ 32 32 dX6_merge_127 (by decide) ?_
      refine ab_aload_n' hG 129 _ _ _ _ 0 _ dX6_merge_129 rfl ?_
      refine ab_gR hG 130 _ _ _ _ 48 21 15 0 (31, 0) dX6_merge_130 (List.Mem.tail _ (List.Mem.tail _ (List.Mem.tail _ (List.Mem.head _)))) rfl ?_
      refine ab_iload_n' hG 133 _ _ _ _ 3 _ dX6_merge_133 rfl ?_
      refine ab_iaload' hG 134 _ _ _ _ 31 0 24 _ dX6_merge_134 rfl h.1 ?_
      have h := h.2
      refine ab_imul' hG 135 _ _ _ _ _ _ dX6_merge_135 ?_
      refine ab_iload_n' hG 136 _ _ _ _ 3 _ dX6_merge_136 rfl ?_
      refine ab_iadd' hG 137 _ _ _ _ _ _ dX6_merge_137 ?_
      refine ab_iastore' hG 138 _ _ _ _ 29 0 24 _ _ dX6_merge_138 rfl h.1 ?_
      have h := h.2
      refine ab_aload_n' hG 139 _ _ _ _ 0 _ dX6_merge_139 rfl ?_
      refine ab_dup' hG 140 _ _ _ _ _ dX6_merge_140 ?_
      refine ab_gI hG 141 _ _ _ _ 165 21 12 0 dX6_merge_141 (List.Mem.tail _ (List.Mem.tail _ (List.Mem.tail _ (List.Mem.tail _ (List.Mem.tail _ (List.Mem.head _)))))) rfl ?_
      refine ab_iconst' hG 144 _ _ _ _ 1 1 dX6_merge_144 (by decide) ?_
      refine ab_iadd' hG 145 _ _ _ _ _ _ dX6_merge_145 ?_
      refine ab_putfield' hG 146 _ _ _ _ 165 21 12 0 _ dX6_merge_146 (List.Mem.tail _ (List.Mem.head _)) ?_
      refine ab_iinc' hG 149 _ _ _ _ 3 1 x3 (x3 + 1) dX6_merge_149 rfl rfl ?_
      refine ab_goto' hG 152 _ _ _ _ (-48) 104 dX6_merge_152 (by decide) ?_
      exact h
theorem bl_X6_merge_167 {Q : ab_Po} {G : ab_Gt} (hG : ab_Cl M_X6_merge Q G) (x1 : Int32) (x2 : Int32) (x3 : Int32) (S : ab_S) (h : Q (.inl (some ((ab_su S 21 0 11 x1) 21 0 12))) (ab_su S 21 0 11 x1)) : G 167 [some (.inr (21, 0)), some (.inl x1), some (.inl x2), some (.inl x3)] [] S 0 := by
  refine ab_aload_n' hG 167 _ _ _ _ 0 _ dX6_merge_167 rfl ?_
  refine ab_iload_n' hG 168 _ _ _ _ 1 _ dX6_merge_168 rfl ?_
  refine ab_putfield' hG 169 _ _ _ _ 39 21 11 0 _ dX6_merge_169 (List.Mem.tail _ (List.Mem.tail _ (List.Mem.head _))) ?_
  refine ab_aload_n' hG 172 _ _ _ _ 0 _ dX6_merge_172 rfl ?_
  refine ab_gI hG 173 _ _ _ _ 165 21 12 0 dX6_merge_173 (List.Mem.tail _ (List.Mem.tail _ (List.Mem.tail _ (List.Mem.tail _ (List.Mem.tail _ (List.Mem.head _)))))) rfl ?_
  exact ab_ireturn' hG 176 _ _ _ _ dX6_merge_176 (Or.inl rfl) (by decide) h
theorem bl_X6_conflict_0 {Q : ab_Po} {G : ab_Gt} (hG : ab_Cl M_X6_conflict Q G) (x1 : Int32) (S : ab_S) (h : (x1 < 0 → (((ab_su S 21 0 0 1) 21 0 0) = 0 → vp_in x1 24 ∧ Q (.inl (some ((ab_su S 21 0 0 1) 29 0 x1.toNatClampNeg))) (ab_su S 21 0 0 1)) ∧ (¬ ((ab_su S 21 0 0 1) 21 0 0) = 0 → Q (.inl (some 0)) (ab_su S 21 0 0 1))) ∧ (¬ x1 < 0 → (x1 < (S 21 0 12) → (((ab_su S 21 0 0 0) 21 0 0) = 0 → vp_in x1 24 ∧ Q (.inl (some ((ab_su S 21 0 0 0) 29 0 x1.toNatClampNeg))) (ab_su S 21 0 0 0)) ∧ (¬ ((ab_su S 21 0 0 0) 21 0 0) = 0 → Q (.inl (some 0)) (ab_su S 21 0 0 0))) ∧ (¬ x1 < (S 21 0 12) → (((ab_su S 21 0 0 1) 21 0 0) = 0 → vp_in x1 24 ∧ Q (.inl (some ((ab_su S 21 0 0 1) 29 0 x1.toNatClampNeg))) (ab_su S 21 0 0 1)) ∧ (¬ ((ab_su S 21 0 0 1) 21 0 0) = 0 → Q (.inl (some 0)) (ab_su S 21 0 0 1))))) : G 0 [some (.inr (21, 0)), some (.inl x1)] [] S 0 := by
  refine ab_aload_n' hG 0 _ _ _ _ 0 _ dX6_conflict_0 rfl ?_
  refine ab_iload_n' hG 1 _ _ _ _ 1 _ dX6_conflict_1 rfl ?_
  refine ab_if_lt' hG 2 _ _ _ _ (11) 13 _ dX6_conflict_2 (by decide) (fun hc => ?_) (fun hc => ?_)
  · have h := h.1 hc
    refine ab_iconst' hG 13 _ _ _ _ 1 1 dX6_conflict_13 (by decide) ?_
    refine ab_goto' hG 14 _ _ _ _ (4) 18 dX6_conflict_14 (by decide) ?_
    refine ab_putfield' hG 18 _ _ _ _ 82 21 0 0 _ dX6_conflict_18 (List.Mem.head _) ?_
    refine ab_aload_n' hG 21 _ _ _ _ 0 _ dX6_conflict_21 rfl ?_
    refine ab_gI hG 22 _ _ _ _ 82 21 0 0 dX6_conflict_22 (List.Mem.tail _ (List.Mem.head _)) rfl ?_
    refine ab_if_ne' hG 25 _ _ _ _ (12) 37 _ dX6_conflict_25 (by decide) (fun hc => ?_) (fun hc => ?_)
    · have h := h.2 hc
      refine ab_iconst' hG 37 _ _ _ _ 0 0 dX6_conflict_37 (by decide) ?_
      exact ab_ireturn' hG 38 _ _ _ _ dX6_conflict_38 (Or.inl rfl) (by decide) h
    · have h := h.1 hc
      refine ab_aload_n' hG 28 _ _ _ _ 0 _ dX6_conflict_28 rfl ?_
      refine ab_gR hG 29 _ _ _ _ 42 21 13 0 (29, 0) dX6_conflict_29 (List.Mem.tail _ (List.Mem.tail _ (List.Mem.head _))) rfl ?_
      refine ab_iload_n' hG 32 _ _ _ _ 1 _ dX6_conflict_32 rfl ?_
      refine ab_iaload' hG 33 _ _ _ _ 29 0 24 _ dX6_conflict_33 rfl h.1 ?_
      have h := h.2
      refine ab_goto' hG 34 _ _ _ _ (4) 38 dX6_conflict_34 (by decide) ?_
      exact ab_ireturn' hG 38 _ _ _ _ dX6_conflict_38 (Or.inl rfl) (by decide) h
  · have h := h.2 hc
    refine ab_iload_n' hG 5 _ _ _ _ 1 _ dX6_conflict_5 rfl ?_
    refine ab_aload_n' hG 6 _ _ _ _ 0 _ dX6_conflict_6 rfl ?_
    refine ab_gI hG 7 _ _ _ _ 165 21 12 0 dX6_conflict_7 (List.Mem.head _) rfl ?_
    refine ab_icmp_lt' hG 10 _ _ _ _ (7) 17 _ _ dX6_conflict_10 (by decide) (fun hc => ?_) (fun hc => ?_)
    · have h := h.1 hc
      refine ab_iconst' hG 17 _ _ _ _ 0 0 dX6_conflict_17 (by decide) ?_
      refine ab_putfield' hG 18 _ _ _ _ 82 21 0 0 _ dX6_conflict_18 (List.Mem.head _) ?_
      refine ab_aload_n' hG 21 _ _ _ _ 0 _ dX6_conflict_21 rfl ?_
      refine ab_gI hG 22 _ _ _ _ 82 21 0 0 dX6_conflict_22 (List.Mem.tail _ (List.Mem.head _)) rfl ?_
      refine ab_if_ne' hG 25 _ _ _ _ (12) 37 _ dX6_conflict_25 (by decide) (fun hc => ?_) (fun hc => ?_)
      · have h := h.2 hc
        refine ab_iconst' hG 37 _ _ _ _ 0 0 dX6_conflict_37 (by decide) ?_
        exact ab_ireturn' hG 38 _ _ _ _ dX6_conflict_38 (Or.inl rfl) (by decide) h
      · have h := h.1 hc
        refine ab_aload_n' hG 28 _ _ _ _ 0 _ dX6_conflict_28 rfl ?_
        refine ab_gR hG 29 _ _ _ _ 42 21 13 0 (29, 0) dX6_conflict_29 (List.Mem.tail _ (List.Mem.tail _ (List.Mem.head _))) rfl ?_
        refine ab_iload_n' hG 32 _ _ _ _ 1 _ dX6_conflict_32 rfl ?_
        refine ab_iaload' hG 33 _ _ _ _ 29 0 24 _ dX6_conflict_33 rfl h.1 ?_
        have h := h.2
        refine ab_goto' hG 34 _ _ _ _ (4) 38 dX6_conflict_34 (by decide) ?_
        exact ab_ireturn' hG 38 _ _ _ _ dX6_conflict_38 (Or.inl rfl) (by decide) h
    · have h := h.2 hc
      refine ab_iconst' hG 13 _ _ _ _ 1 1 dX6_conflict_13 (by decide) ?_
      refine ab_goto' hG 14 _ _ _ _ (4) 18 dX6_conflict_14 (by decide) ?_
      refine ab_putfield' hG 18 _ _ _ _ 82 21 0 0 _ dX6_conflict_18 (List.Mem.head _) ?_
      refine ab_aload_n' hG 21 _ _ _ _ 0 _ dX6_conflict_21 rfl ?_
      refine ab_gI hG 22 _ _ _ _ 82 21 0 0 dX6_conflict_22 (List.Mem.tail _ (List.Mem.head _)) rfl ?_
      refine ab_if_ne' hG 25 _ _ _ _ (12) 37 _ dX6_conflict_25 (by decide) (fun hc => ?_) (fun hc => ?_)
      · have h := h.2 hc
        refine ab_iconst' hG 37 _ _ _ _ 0 0 dX6_conflict_37 (by decide) ?_
        exact ab_ireturn' hG 38 _ _ _ _ dX6_conflict_38 (Or.inl rfl) (by decide) h
      · have h := h.1 hc
        refine ab_aload_n' hG 28 _ _ _ _ 0 _ dX6_conflict_28 rfl ?_
        refine ab_gR hG 29 _ _ _ _ 42 21 13 0 (29, 0) dX6_conflict_29 (List.Mem.tail _ (List.Mem.tail _ (List.Mem.head _))) rfl ?_
        refine ab_iload_n' hG 32 _ _ _ _ 1 _ dX6_conflict_32 rfl ?_
        refine ab_iaload' hG 33 _ _ _ _ 29 0 24 _ dX6_conflict_33 rfl h.1 ?_
        have h := h.2
        refine ab_goto' hG 34 _ _ _ _ (4) 38 dX6_conflict_34 (by decide) ?_
        exact ab_ireturn' hG 38 _ _ _ _ dX6_conflict_38 (Or.inl rfl) (by decide) h
theorem bl_X6_numberOf_0 {Q : ab_Po} {G : ab_Gt} (hG : ab_Cl M_X6_numberOf Q G) (x1 : Int32) (S : ab_S) (h : Sp_X6_walk [(.inr (21, 0)), (.inl 12)] S (ab_back Q G 6 [some (.inr (21, 0)), some (.inl x1), none] [] 0)) : G 0 [some (.inr (21, 0)), some (.inl x1), none] [] S 0 := by
  refine ab_aload_n' hG 0 _ _ _ _ 0 _ dX6_numberOf_0 rfl ?_
  refine ab_bipush' hG 1 _ _ _ _ 12 12 dX6_numberOf_1 (by decide) ?_
  exact ab_invv' hG 3 [some (.inr (21, 0)), some (.inl x1), none] [(.inl 12)] [] S 0 114 _ 1 0 0 _ (21, 0) dX6_numberOf_3 rfl rfl rfl rfl (by decide) (by decide) h
theorem bl_X6_numberOf_6 {Q : ab_Po} {G : ab_Gt} (hG : ab_Cl M_X6_numberOf Q G) (x1 : Int32) (S : ab_S) (h : G 8 [some (.inr (21, 0)), some (.inl x1), some (.inl 0)] [] S 0) : G 6 [some (.inr (21, 0)), some (.inl x1), none] [] S 0 := by
  refine ab_iconst' hG 6 _ _ _ _ 0 0 dX6_numberOf_6 (by decide) ?_
  refine ab_istore_n' hG 7 _ _ _ _ 2 _ dX6_numberOf_7 (by decide) ?_
  exact h
theorem bl_X6_numberOf_8 {Q : ab_Po} {G : ab_Gt} (hG : ab_Cl M_X6_numberOf Q G) (x1 : Int32) (x2 : Int32) (S : ab_S) (h : vp_in x2 24 ∧ ((S 34 0 x2.toNatClampNeg) = x1 → Q (.inl (some x2)) S) ∧ (¬ (S 34 0 x2.toNatClampNeg) = x1 → G 8 [some (.inr (21, 0)), some (.inl x1), some (.inl (x2 + 1))] [] S 0)) : G 8 [some (.inr (21, 0)), some (.inl x1), some (.inl x2)] [] S 0 := by
  refine ab_aload_n' hG 8 _ _ _ _ 0 _ dX6_numberOf_8 rfl ?_
  refine ab_gR hG 9 _ _ _ _ 57 21 19 0 (34, 0) dX6_numberOf_9 (List.Mem.head _) rfl ?_
  refine ab_iload_n' hG 12 _ _ _ _ 2 _ dX6_numberOf_12 rfl ?_
  refine ab_iaload' hG 13 _ _ _ _ 34 0 24 _ dX6_numberOf_13 rfl h.1 ?_
  have h := h.2
  refine ab_iload_n' hG 14 _ _ _ _ 1 _ dX6_numberOf_14 rfl ?_
  refine ab_icmp_eq' hG 15 _ _ _ _ (9) 24 _ _ dX6_numberOf_15 (by decide) (fun hc => ?_) (fun hc => ?_)
  · have h := h.1 hc
    refine ab_iload_n' hG 24 _ _ _ _ 2 _ dX6_numberOf_24 rfl ?_
    exact ab_ireturn' hG 25 _ _ _ _ dX6_numberOf_25 (Or.inl rfl) (by decide) h
  · have h := h.2 hc
    refine ab_iinc' hG 18 _ _ _ _ 2 1 x2 (x2 + 1) dX6_numberOf_18 rfl rfl ?_
    refine ab_goto' hG 21 _ _ _ _ (-13) 8 dX6_numberOf_21 (by decide) ?_
    exact h
theorem bl_X6_about_0 {Q : ab_Po} {G : ab_Gt} (hG : ab_Cl M_X6_about Q G) (x1 : Int32) (x2 : Int32) (S : ab_S) (h : Sp_X6_has [(.inr (21, 0)), (.inl 12), (.inl x1)] S (ab_back Q G 8 [some (.inr (21, 0)), some (.inl x1), some (.inl x2)] [(.inr (21, 0))] 0)) : G 0 [some (.inr (21, 0)), some (.inl x1), some (.inl x2)] [] S 0 := by
  refine ab_aload_n' hG 0 _ _ _ _ 0 _ dX6_about_0 rfl ?_
  refine ab_aload_n' hG 1 _ _ _ _ 0 _ dX6_about_1 rfl ?_
  refine ab_bipush' hG 2 _ _ _ _ 12 12 dX6_about_2 (by decide) ?_
  refine ab_iload_n' hG 4 _ _ _ _ 1 _ dX6_about_4 rfl ?_
  exact ab_invv' hG 5 [some (.inr (21, 0)), some (.inl x1), some (.inl x2)] [(.inl 12), (.inl x1)] [(.inr (21, 0))] S 0 107 _ 2 1 0 _ (21, 0) dX6_about_5 rfl rfl rfl rfl (by decide) (by decide) h
theorem bl_X6_about_8 {Q : ab_Po} {G : ab_Gt} (hG : ab_Cl M_X6_about Q G) (x1 : Int32) (x2 : Int32) (xs0 : Int32) (S : ab_S) (h : (xs0 = 0 → (((ab_su S 21 0 0 1) 21 0 0) ≤ 0 → (x2 = 0 → vp_in (288 + x1) 336 ∧ Q (.inl (some ((ab_su S 21 0 0 1) 23 0 (288 + x1).toNatClampNeg))) (ab_su S 21 0 0 1)) ∧ (¬ x2 = 0 → (x2 = 1 → vp_in (288 + x1) 336 ∧ Q (.inl (some ((ab_su S 21 0 0 1) 24 0 (288 + x1).toNatClampNeg))) (ab_su S 21 0 0 1)) ∧ (¬ x2 = 1 → (x2 = 2 → Sp_X6_children [(.inr (21, 0)), (.inl 12), (.inl x1)] (ab_su S 21 0 0 1) (ab_back Q G 88 [some (.inr (21, 0)), some (.inl x1), some (.inl x2)] [] 0)) ∧ (¬ x2 = 2 → Sp_X6_numberOf [(.inr (21, 0)), (.inl x1)] (ab_su S 21 0 0 1) (ab_back Q G 96 [some (.inr (21, 0)), some (.inl x1), some (.inl x2)] [] 0))))) ∧ (¬ ((ab_su S 21 0 0 1) 21 0 0) ≤ 0 → Q (.inl (some 0)) (ab_su S 21 0 0 1))) ∧ (¬ xs0 = 0 → (x2 < 0 → (((ab_su S 21 0 0 2) 21 0 0) ≤ 0 → (x2 = 0 → vp_in (288 + x1) 336 ∧ Q (.inl (some ((ab_su S 21 0 0 2) 23 0 (288 + x1).toNatClampNeg))) (ab_su S 21 0 0 2)) ∧ (¬ x2 = 0 → (x2 = 1 → vp_in (288 + x1) 336 ∧ Q (.inl (some ((ab_su S 21 0 0 2) 24 0 (288 + x1).toNatClampNeg))) (ab_su S 21 0 0 2)) ∧ (¬ x2 = 1 → (x2 = 2 → Sp_X6_children [(.inr (21, 0)), (.inl 12), (.inl x1)] (ab_su S 21 0 0 2) (ab_back Q G 88 [some (.inr (21, 0)), some (.inl x1), some (.inl x2)] [] 0)) ∧ (¬ x2 = 2 → Sp_X6_numberOf [(.inr (21, 0)), (.inl x1)] (ab_su S 21 0 0 2) (ab_back Q G 96 [some (.inr (21, 0)), some (.inl x1), some (.inl x2)] [] 0))))) ∧ (¬ ((ab_su S 21 0 0 2) 21 0 0) ≤ 0 → Q (.inl (some 0)) (ab_su S 21 0 0 2))) ∧ (¬ x2 < 0 → (x2 ≤ 3 → (((ab_su S 21 0 0 0) 21 0 0) ≤ 0 → (x2 = 0 → vp_in (288 + x1) 336 ∧ Q (.inl (some ((ab_su S 21 0 0 0) 23 0 (288 + x1).toNatClampNeg))) (ab_su S 21 0 0 0)) ∧ (¬ x2 = 0 → (x2 = 1 → vp_in (288 + x1) 336 ∧ Q (.inl (some ((ab_su S 21 0 0 0) 24 0 (288 + x1).toNatClampNeg))) (ab_su S 21 0 0 0)) ∧ (¬ x2 = 1 → (x2 = 2 → Sp_X6_children [(.inr (21, 0)), (.inl 12), (.inl x1)] (ab_su S 21 0 0 0) (ab_back Q G 88 [some (.inr (21, 0)), some (.inl x1), some (.inl x2)] [] 0)) ∧ (¬ x2 = 2 → Sp_X6_numberOf [(.inr (21, 0)), (.inl x1)] (ab_su S 21 0 0 0) (ab_back Q G 96 [some (.inr (21, 0)), some (.inl x1), some (.inl x2)] [] 0))))) ∧ (¬ ((ab_su S 21 0 0 0) 21 0 0) ≤ 0 → Q (.inl (some 0)) (ab_su S 21 0 0 0))) ∧ (¬ x2 ≤ 3 → (((ab_su S 21 0 0 2) 21 0 0) ≤ 0 → (x2 = 0 → vp_in (288 + x1) 336 ∧ Q (.inl (some ((ab_su S 21 0 0 2) 23 0 (288 + x1).toNatClampNeg))) (ab_su S 21 0 0 2)) ∧ (¬ x2 = 0 → (x2 = 1 → vp_in (288 + x1) 336 ∧ Q (.inl (some ((ab_su S 21 0 0 2) 24 0 (288 + x1).toNatClampNeg))) (ab_su S 21 0 0 2)) ∧ (¬ x2 = 1 → (x2 = 2 → Sp_X6_children [(.inr (21, 0)), (.inl 12), (.inl x1)] (ab_su S 21 0 0 2) (ab_back Q G 88 [some (.inr (21, 0)), some (.inl x1), some (.inl x2)] [] 0)) ∧ (¬ x2 = 2 → Sp_X6_numberOf [(.inr (21, 0)), (.inl x1)] (ab_su S 21 0 0 2) (ab_back Q G 96 [some (.inr (21, 0)), some (.inl x1), some (.inl x2)] [] 0))))) ∧ (¬ ((ab_su S 21 0 0 2) 21 0 0) ≤ 0 → Q (.inl (some 0)) (ab_su S 21 0 0 2)))))) : G 8 [some (.inr (21, 0)), some (.inl x1), some (.inl x2)] [(.inl xs0), (.inr (21, 0))] S 0 := by
  refine ab_if_ne' hG 8 _ _ _ _ (7) 15 _ dX6_about_8 (by decide) (fun hc => ?_) (fun hc => ?_)
  · have h := h.2 hc
    refine ab_iload_n' hG 15 _ _ _ _ 2 _ dX6_about_15 rfl ?_
    refine ab_if_lt' hG 16 _ _ _ _ (8) 24 _ dX6_about_16 (by decide) (fun hc => ?_) (fun hc => ?_)
    · have h := h.1 hc
      refine ab_iconst' hG 24 _ _ _ _ 2 2 dX6_about_24 (by decide) ?_
      refine ab_goto' hG 25 _ _ _ _ (4) 29 dX6_about_25 (by decide) ?_
      refine ab_putfield' hG 29 _ _ _ _ 82 21 0 0 _ dX6_about_29 (List.Mem.head _) ?_
      refine ab_aload_n' hG 32 _ _ _ _ 0 _ dX6_about_32 rfl ?_
      refine ab_gI hG 33 _ _ _ _ 82 21 0 0 dX6_about_33 (List.Mem.head _) rfl ?_
      refine ab_if_le' hG 36 _ _ _ _ (5) 41 _ dX6_about_36 (by decide) (fun hc => ?_) (fun hc => ?_)
      · have h := h.1 hc
        refine ab_iload_n' hG 41 _ _ _ _ 2 _ dX6_about_41 rfl ?_
        refine ab_if_ne' hG 42 _ _ _ _ (16) 58 _ dX6_about_42 (by decide) (fun hc => ?_) (fun hc => ?_)
        · have h := h.2 hc
          refine ab_iload_n' hG 58 _ _ _ _ 2 _ dX6_about_58 rfl ?_
          refine ab_iconst' hG 59 _ _ _ _ 1 1 dX6_about_59 (by decide) ?_
          refine ab_icmp_ne' hG 60 _ _ _ _ (16) 76 _ _ dX6_about_60 (by decide) (fun hc => ?_) (fun hc => ?_)
          · have h := h.2 hc
            refine ab_iload_n' hG 76 _ _ _ _ 2 _ dX6_about_76 rfl ?_
            refine ab_iconst' hG 77 _ _ _ _ 2 2 dX6_about_77 (by decide) ?_
            refine ab_icmp_ne' hG 78 _ _ _ _ (13) 91 _ _ dX6_about_78 (by decide) (fun hc => ?_) (fun hc => ?_)
            · have h := h.2 hc
              refine ab_aload_n' hG 91 _ _ _ _ 0 _ dX6_about_91 rfl ?_
              refine ab_iload_n' hG 92 _ _ _ _ 1 _ dX6_about_92 rfl ?_
              exact ab_invv' hG 93 [some (.inr (21, 0)), some (.inl x1), some (.inl x2)] [(.inl x1)] [] (ab_su S 21 0 0 2) 0 171 _ 1 1 0 _ (21, 0) dX6_about_93 rfl rfl rfl rfl (by decide) (by decide) h
            · have h := h.1 hc
              refine ab_aload_n' hG 81 _ _ _ _ 0 _ dX6_about_81 rfl ?_
              refine ab_bipush' hG 82 _ _ _ _ 12 12 dX6_about_82 (by decide) ?_
              refine ab_iload_n' hG 84 _ _ _ _ 1 _ dX6_about_84 rfl ?_
              exact ab_invv' hG 85 [some (.inr (21, 0)), some (.inl x1), some (.inl x2)] [(.inl 12), (.inl x1)] [] (ab_su S 21 0 0 2) 0 99 _ 2 1 0 _ (21, 0) dX6_about_85 rfl rfl rfl rfl (by decide) (by decide) h
          · have h := h.1 hc
            refine ab_aload_n' hG 63 _ _ _ _ 0 _ dX6_about_63 rfl ?_
            refine ab_gR hG 64 _ _ _ _ 17 21 3 0 (24, 0) dX6_about_64 (List.Mem.tail _ (List.Mem.tail _ (List.Mem.head _))) rfl ?_
            refine ab_sipush' hG 67 _ _ _ _ 288 288 dX6_about_67 (by decide) ?_
            refine ab_iload_n' hG 70 _ _ _ _ 1 _ dX6_about_70 rfl ?_
            refine ab_iadd' hG 71 _ _ _ _ _ _ dX6_about_71 ?_
            refine ab_iaload' hG 72 _ _ _ _ 24 0 336 _ dX6_about_72 rfl h.1 ?_
            have h := h.2
            refine ab_goto' hG 73 _ _ _ _ (23) 96 dX6_about_73 (by decide) ?_
            exact ab_ireturn' hG 96 _ _ _ _ dX6_about_96 (Or.inl rfl) (by decide) h
        · have h := h.1 hc
          refine ab_aload_n' hG 45 _ _ _ _ 0 _ dX6_about_45 rfl ?_
          refine ab_gR hG 46 _ _ _ _ 13 21 2 0 (23, 0) dX6_about_46 (List.Mem.tail _ (List.Mem.head _)) rfl ?_
          refine ab_sipush' hG 49 _ _ _ _ 288 288 dX6_about_49 (by decide) ?_
          refine ab_iload_n' hG 52 _ _ _ _ 1 _ dX6_about_52 rfl ?_
          refine ab_iadd' hG 53 _ _ _ _ _ _ dX6_about_53 ?_
          refine ab_iaload' hG 54 _ _ _ _ 23 0 336 _ dX6_about_54 rfl h.1 ?_
          have h := h.2
          refine ab_goto' hG 55 _ _ _ _ (41) 96 dX6_about_55 (by decide) ?_
          exact ab_ireturn' hG 96 _ _ _ _ dX6_about_96 (Or.inl rfl) (by decide) h
      · have h := h.2 hc
        refine ab_iconst' hG 39 _ _ _ _ 0 0 dX6_about_39 (by decide) ?_
        exact ab_ireturn' hG 40 _ _ _ _ dX6_about_40 (Or.inl rfl) (by decide) h
    · have h := h.2 hc
      refine ab_iload_n' hG 19 _ _ _ _ 2 _ dX6_about_19 rfl ?_
      refine ab_iconst' hG 20 _ _ _ _ 3 3 dX6_about_20 (by decide) ?_
      refine ab_icmp_le' hG 21 _ _ _ _ (7) 28 _ _ dX6_about_21 (by decide) (fun hc => ?_) (fun hc => ?_)
      · have h := h.1 hc
        refine ab_iconst' hG 28 _ _ _ _ 0 0 dX6_about_28 (by decide) ?_
        refine ab_putfield' hG 29 _ _ _ _ 82 21 0 0 _ dX6_about_29 (List.Mem.head _) ?_
        refine ab_aload_n' hG 32 _ _ _ _ 0 _ dX6_about_32 rfl ?_
        refine ab_gI hG 33 _ _ _ _ 82 21 0 0 dX6_about_33 (List.Mem.head _) rfl ?_
        refine ab_if_le' hG 36 _ _ _ _ (5) 41 _ dX6_about_36 (by decide) (fun hc => ?_) (fun hc => ?_)
        · have h := h.1 hc
          refine ab_iload_n' hG 41 _ _ _ _ 2 _ dX6_about_41 rfl ?_
          refine ab_if_ne' hG 42 _ _ _ _ (16) 58 _ dX6_about_42 (by decide) (fun hc => ?_) (fun hc => ?_)
          · have h := h.2 hc
            refine ab_iload_n' hG 58 _ _ _ _ 2 _ dX6_about_58 rfl ?_
            refine ab_iconst' hG 59 _ _ _ _ 1 1 dX6_about_59 (by decide) ?_
            refine ab_icmp_ne' hG 60 _ _ _ _ (16) 76 _ _ dX6_about_60 (by decide) (fun hc => ?_) (fun hc => ?_)
            · have h := h.2 hc
              refine ab_iload_n' hG 76 _ _ _ _ 2 _ dX6_about_76 rfl ?_
              refine ab_iconst' hG 77 _ _ _ _ 2 2 dX6_about_77 (by decide) ?_
              refine ab_icmp_ne' hG 78 _ _ _ _ (13) 91 _ _ dX6_about_78 (by decide) (fun hc => ?_) (fun hc => ?_)
              · have h := h.2 hc
                refine ab_aload_n' hG 91 _ _ _ _ 0 _ dX6_about_91 rfl ?_
                refine ab_iload_n' hG 92 _ _ _ _ 1 _ dX6_about_92 rfl ?_
                exact ab_invv' hG 93 [some (.inr (21, 0)), some (.inl x1), some (.inl x2)] [(.inl x1)] [] (ab_su S 21 0 0 0) 0 171 _ 1 1 0 _ (21, 0) dX6_about_93 rfl rfl rfl rfl (by decide) (by decide) h
              · have h := h.1 hc
                refine ab_aload_n' hG 81 _ _ _ _ 0 _ dX6_about_81 rfl ?_
                refine ab_bipush' hG 82 _ _ _ _ 12 12 dX6_about_82 (by decide) ?_
                refine ab_iload_n' hG 84 _ _ _ _ 1 _ dX6_about_84 rfl ?_
                exact ab_invv' hG 85 [some (.inr (21, 0)), some (.inl x1), some (.inl x2)] [(.inl 12), (.inl x1)] [] (ab_su S 21 0 0 0) 0 99 _ 2 1 0 _ (21, 0) dX6_about_85 rfl rfl rfl rfl (by decide) (by decide) h
            · have h := h.1 hc
              refine ab_aload_n' hG 63 _ _ _ _ 0 _ dX6_about_63 rfl ?_
              refine ab_gR hG 64 _ _ _ _ 17 21 3 0 (24, 0) dX6_about_64 (List.Mem.tail _ (List.Mem.tail _ (List.Mem.head _))) rfl ?_
              refine ab_sipush' hG 67 _ _ _ _ 288 288 dX6_about_67 (by decide) ?_
              refine ab_iload_n' hG 70 _ _ _ _ 1 _ dX6_about_70 rfl ?_
              refine ab_iadd' hG 71 _ _ _ _ _ _ dX6_about_71 ?_
              refine ab_iaload' hG 72 _ _ _ _ 24 0 336 _ dX6_about_72 rfl h.1 ?_
              have h := h.2
              refine ab_goto' hG 73 _ _ _ _ (23) 96 dX6_about_73 (by decide) ?_
              exact ab_ireturn' hG 96 _ _ _ _ dX6_about_96 (Or.inl rfl) (by decide) h
          · have h := h.1 hc
            refine ab_aload_n' hG 45 _ _ _ _ 0 _ dX6_about_45 rfl ?_
            refine ab_gR hG 46 _ _ _ _ 13 21 2 0 (23, 0) dX6_about_46 (List.Mem.tail _ (List.Mem.head _)) rfl ?_
            refine ab_sipush' hG 49 _ _ _ _ 288 288 dX6_about_49 (by decide) ?_
            refine ab_iload_n' hG 52 _ _ _ _ 1 _ dX6_about_52 rfl ?_
            refine ab_iadd' hG 53 _ _ _ _ _ _ dX6_about_53 ?_
            refine ab_iaload' hG 54 _ _ _ _ 23 0 336 _ dX6_about_54 rfl h.1 ?_
            have h := h.2
            refine ab_goto' hG 55 _ _ _ _ (41) 96 dX6_about_55 (by decide) ?_
            exact ab_ireturn' hG 96 _ _ _ _ dX6_about_96 (Or.inl rfl) (by decide) h
        · have h := h.2 hc
          refine ab_iconst' hG 39 _ _ _ _ 0 0 dX6_about_39 (by decide) ?_
          exact ab_ireturn' hG 40 _ _ _ _ dX6_about_40 (Or.inl rfl) (by decide) h
      · have h := h.2 hc
        refine ab_iconst' hG 24 _ _ _ _ 2 2 dX6_about_24 (by decide) ?_
        refine ab_goto' hG 25 _ _ _ _ (4) 29 dX6_about_25 (by decide) ?_
        refine ab_putfield' hG 29 _ _ _ _ 82 21 0 0 _ dX6_about_29 (List.Mem.head _) ?_
        refine ab_aload_n' hG 32 _ _ _ _ 0 _ dX6_about_32 rfl ?_
        refine ab_gI hG 33 _ _ _ _ 82 21 0 0 dX6_about_33 (List.Mem.head _) rfl ?_
        refine ab_if_le' hG 36 _ _ _ _ (5) 41 _ dX6_about_36 (by decide) (fun hc => ?_) (fun hc => ?_)
        · have h := h.1 hc
          refine ab_iload_n' hG 41 _ _ _ _ 2 _ dX6_about_41 rfl ?_
          refine ab_if_ne' hG 42 _ _ _ _ (16) 58 _ dX6_about_42 (by decide) (fun hc => ?_) (fun hc => ?_)
          · have h := h.2 hc
            refine ab_iload_n' hG 58 _ _ _ _ 2 _ dX6_about_58 rfl ?_
            refine ab_iconst' hG 59 _ _ _ _ 1 1 dX6_about_59 (by decide) ?_
            refine ab_icmp_ne' hG 60 _ _ _ _ (16) 76 _ _ dX6_about_60 (by decide) (fun hc => ?_) (fun hc => ?_)
            · have h := h.2 hc
              refine ab_iload_n' hG 76 _ _ _ _ 2 _ dX6_about_76 rfl ?_
              refine ab_iconst' hG 77 _ _ _ _ 2 2 dX6_about_77 (by decide) ?_
              refine ab_icmp_ne' hG 78 _ _ _ _ (13) 91 _ _ dX6_about_78 (by decide) (fun hc => ?_) (fun hc => ?_)
              · have h := h.2 hc
                refine ab_aload_n' hG 91 _ _ _ _ 0 _ dX6_about_91 rfl ?_
                refine ab_iload_n' hG 92 _ _ _ _ 1 _ dX6_about_92 rfl ?_
                exact ab_invv' hG 93 [some (.inr (21, 0)), some (.inl x1), some (.inl x2)] [(.inl x1)] [] (ab_su S 21 0 0 2) 0 171 _ 1 1 0 _ (21, 0) dX6_about_93 rfl rfl rfl rfl (by decide) (by decide) h
              · have h := h.1 hc
                refine ab_aload_n' hG 81 _ _ _ _ 0 _ dX6_about_81 rfl ?_
                refine ab_bipush' hG 82 _ _ _ _ 12 12 dX6_about_82 (by decide) ?_
                refine ab_iload_n' hG 84 _ _ _ _ 1 _ dX6_about_84 rfl ?_
                exact ab_invv' hG 85 [some (.inr (21, 0)), some (.inl x1), some (.inl x2)] [(.inl 12), (.inl x1)] [] (ab_su S 21 0 0 2) 0 99 _ 2 1 0 _ (21, 0) dX6_about_85 rfl rfl rfl rfl (by decide) (by decide) h
            · have h := h.1 hc
              refine ab_aload_n' hG 63 _ _ _ _ 0 _ dX6_about_63 rfl ?_
              refine ab_gR hG 64 _ _ _ _ 17 21 3 0 (24, 0) dX6_about_64 (List.Mem.tail _ (List.Mem.tail _ (List.Mem.head _))) rfl ?_
              refine ab_sipush' hG 67 _ _ _ _ 288 288 dX6_about_67 (by decide) ?_
              refine ab_iload_n' hG 70 _ _ _ _ 1 _ dX6_about_70 rfl ?_
              refine ab_iadd' hG 71 _ _ _ _ _ _ dX6_about_71 ?_
              refine ab_iaload' hG 72 _ _ _ _ 24 0 336 _ dX6_about_72 rfl h.1 ?_
              have h := h.2
              refine ab_goto' hG 73 _ _ _ _ (23) 96 dX6_about_73 (by decide) ?_
              exact ab_ireturn' hG 96 _ _ _ _ dX6_about_96 (Or.inl rfl) (by decide) h
          · have h := h.1 hc
            refine ab_aload_n' hG 45 _ _ _ _ 0 _ dX6_about_45 rfl ?_
            refine ab_gR hG 46 _ _ _ _ 13 21 2 0 (23, 0) dX6_about_46 (List.Mem.tail _ (List.Mem.head _)) rfl ?_
            refine ab_sipush' hG 49 _ _ _ _ 288 288 dX6_about_49 (by decide) ?_
            refine ab_iload_n' hG 52 _ _ _ _ 1 _ dX6_about_52 rfl ?_
            refine ab_iadd' hG 53 _ _ _ _ _ _ dX6_about_53 ?_
            refine ab_iaload' hG 54 _ _ _ _ 23 0 336 _ dX6_about_54 rfl h.1 ?_
            have h := h.2
            refine ab_goto' hG 55 _ _ _ _ (41) 96 dX6_about_55 (by decide) ?_
            exact ab_ireturn' hG 96 _ _ _ _ dX6_about_96 (Or.inl rfl) (by decide) h
        · have h := h.2 hc
          refine ab_iconst' hG 39 _ _ _ _ 0 0 dX6_about_39 (by decide) ?_
          exact ab_ireturn' hG 40 _ _ _ _ dX6_about_40 (Or.inl rfl) (by decide) h
  · have h := h.1 hc
    refine ab_iconst' hG 11 _ _ _ _ 1 1 dX6_about_11 (by decide) ?_
    refine ab_goto' hG 12 _ _ _ _ (17) 29 dX6_about_12 (by decide) ?_
    refine ab_putfield' hG 29 _ _ _ _ 82 21 0 0 _ dX6_about_29 (List.Mem.head _) ?_
    refine ab_aload_n' hG 32 _ _ _ _ 0 _ dX6_about_32 rfl ?_
    refine ab_gI hG 33 _ _ _ _ 82 21 0 0 dX6_about_33 (List.Mem.head _) rfl ?_
    refine ab_if_le' hG 36 _ _ _ _ (5) 41 _ dX6_about_36 (by decide) (fun hc => ?_) (fun hc => ?_)
    · have h := h.1 hc
      refine ab_iload_n' hG 41 _ _ _ _ 2 _ dX6_about_41 rfl ?_
      refine ab_if_ne' hG 42 _ _ _ _ (16) 58 _ dX6_about_42 (by decide) (fun hc => ?_) (fun hc => ?_)
      · have h := h.2 hc
        refine ab_iload_n' hG 58 _ _ _ _ 2 _ dX6_about_58 rfl ?_
        refine ab_iconst' hG 59 _ _ _ _ 1 1 dX6_about_59 (by decide) ?_
        refine ab_icmp_ne' hG 60 _ _ _ _ (16) 76 _ _ dX6_about_60 (by decide) (fun hc => ?_) (fun hc => ?_)
        · have h := h.2 hc
          refine ab_iload_n' hG 76 _ _ _ _ 2 _ dX6_about_76 rfl ?_
          refine ab_iconst' hG 77 _ _ _ _ 2 2 dX6_about_77 (by decide) ?_
          refine ab_icmp_ne' hG 78 _ _ _ _ (13) 91 _ _ dX6_about_78 (by decide) (fun hc => ?_) (fun hc => ?_)
          · have h := h.2 hc
            refine ab_aload_n' hG 91 _ _ _ _ 0 _ dX6_about_91 rfl ?_
            refine ab_iload_n' hG 92 _ _ _ _ 1 _ dX6_about_92 rfl ?_
            exact ab_invv' hG 93 [some (.inr (21, 0)), some (.inl x1), some (.inl x2)] [(.inl x1)] [] (ab_su S 21 0 0 1) 0 171 _ 1 1 0 _ (21, 0) dX6_about_93 rfl rfl rfl rfl (by decide) (by decide) h
          · have h := h.1 hc
            refine ab_aload_n' hG 81 _ _ _ _ 0 _ dX6_about_81 rfl ?_
            refine ab_bipush' hG 82 _ _ _ _ 12 12 dX6_about_82 (by decide) ?_
            refine ab_iload_n' hG 84 _ _ _ _ 1 _ dX6_about_84 rfl ?_
            exact ab_invv' hG 85 [some (.inr (21, 0)), some (.inl x1), some (.inl x2)] [(.inl 12), (.inl x1)] [] (ab_su S 21 0 0 1) 0 99 _ 2 1 0 _ (21, 0) dX6_about_85 rfl rfl rfl rfl (by decide) (by decide) h
        · have h := h.1 hc
          refine ab_aload_n' hG 63 _ _ _ _ 0 _ dX6_about_63 rfl ?_
          refine ab_gR hG 64 _ _ _ _ 17 21 3 0 (24, 0) dX6_about_64 (List.Mem.tail _ (List.Mem.tail _ (List.Mem.head _))) rfl ?_
          refine ab_sipush' hG 67 _ _ _ _ 288 288 dX6_about_67 (by decide) ?_
          refine ab_iload_n' hG 70 _ _ _ _ 1 _ dX6_about_70 rfl ?_
          refine ab_iadd' hG 71 _ _ _ _ _ _ dX6_about_71 ?_
          refine ab_iaload' hG 72 _ _ _ _ 24 0 336 _ dX6_about_72 rfl h.1 ?_
          have h := h.2
          refine ab_goto' hG 73 _ _ _ _ (23) 96 dX6_about_73 (by decide) ?_
          exact ab_ireturn' hG 96 _ _ _ _ dX6_about_96 (Or.inl rfl) (by decide) h
      · have h := h.1 hc
        refine ab_aload_n' hG 45 _ _ _ _ 0 _ dX6_about_45 rfl ?_
        refine ab_gR hG 46 _ _ _ _ 13 21 2 0 (23, 0) dX6_about_46 (List.Mem.tail _ (List.Mem.head _)) rfl ?_
        refine ab_sipush' hG 49 _ _ _ _ 288 288 dX6_about_49 (by decide) ?_
        refine ab_iload_n' hG 52 _ _ _ _ 1 _ dX6_about_52 rfl ?_
        refine ab_iadd' hG 53 _ _ _ _ _ _ dX6_about_53 ?_
        refine ab_iaload' hG 54 _ _ _ _ 23 0 336 _ dX6_about_54 rfl h.1 ?_
        have h := h.2
        refine ab_goto' hG 55 _ _ _ _ (41) 96 dX6_about_55 (by decide) ?_
        exact ab_ireturn' hG 96 _ _ _ _ dX6_about_96 (Or.inl rfl) (by decide) h
    · have h := h.2 hc
      refine ab_iconst' hG 39 _ _ _ _ 0 0 dX6_about_39 (by decide) ?_
      exact ab_ireturn' hG 40 _ _ _ _ dX6_about_40 (Or.inl rfl) (by decide) h
theorem bl_X6_about_88 {Q : ab_Po} {G : ab_Gt} (hG : ab_Cl M_X6_about Q G) (x1 : Int32) (x2 : Int32) (xs0 : Int32) (S : ab_S) (h : Q (.inl (some xs0)) S) : G 88 [some (.inr (21, 0)), some (.inl x1), some (.inl x2)] [(.inl xs0)] S 0 := by
  refine ab_goto' hG 88 _ _ _ _ (8) 96 dX6_about_88 (by decide) ?_
  exact ab_ireturn' hG 96 _ _ _ _ dX6_about_96 (Or.inl rfl) (by decide) h
theorem bl_X6_about_96 {Q : ab_Po} {G : ab_Gt} (hG : ab_Cl M_X6_about Q G) (x1 : Int32) (x2 : Int32) (xs0 : Int32) (S : ab_S) (h : Q (.inl (some xs0)) S) : G 96 [some (.inr (21, 0)), some (.inl x1), some (.inl x2)] [(.inl xs0)] S 0 := by
  exact ab_ireturn' hG 96 _ _ _ _ dX6_about_96 (Or.inl rfl) (by decide) h
theorem bl_X6_child_0 {Q : ab_Po} {G : ab_Gt} (hG : ab_Cl M_X6_child Q G) (x1 : Int32) (x2 : Int32) (S : ab_S) (h : Sp_X6_has [(.inr (21, 0)), (.inl 12), (.inl x1)] S (ab_back Q G 8 [some (.inr (21, 0)), some (.inl x1), some (.inl x2)] [(.inr (21, 0))] 0)) : G 0 [some (.inr (21, 0)), some (.inl x1), some (.inl x2)] [] S 0 := by
  refine ab_aload_n' hG 0 _ _ _ _ 0 _ dX6_child_0 rfl ?_
  refine ab_aload_n' hG 1 _ _ _ _ 0 _ dX6_child_1 rfl ?_
  refine ab_bipush' hG 2 _ _ _ _ 12 12 dX6_child_2 (by decide) ?_
  refine ab_iload_n' hG 4 _ _ _ _ 1 _ dX6_child_4 rfl ?_
  exact ab_invv' hG 5 [some (.inr (21, 0)), some (.inl x1), some (.inl x2)] [(.inl 12), (.inl x1)] [(.inr (21, 0))] S 0 107 _ 2 1 0 _ (21, 0) dX6_child_5 rfl rfl rfl rfl (by decide) (by decide) h
theorem bl_X6_child_8 {Q : ab_Po} {G : ab_Gt} (hG : ab_Cl M_X6_child Q G) (x1 : Int32) (x2 : Int32) (xs0 : Int32) (S : ab_S) (h : (xs0 = 0 → (((ab_su S 21 0 0 1) 21 0 0) = 0 → Sp_X6_childAt [(.inr (21, 0)), (.inl 12), (.inl x1), (.inl x2)] (ab_su S 21 0 0 1) (ab_back Q G 53 [some (.inr (21, 0)), some (.inl x1), some (.inl x2)] [] 0)) ∧ (¬ ((ab_su S 21 0 0 1) 21 0 0) = 0 → Q (.inl (some 0)) (ab_su S 21 0 0 1))) ∧ (¬ xs0 = 0 → (x2 < 0 → (((ab_su S 21 0 0 2) 21 0 0) = 0 → Sp_X6_childAt [(.inr (21, 0)), (.inl 12), (.inl x1), (.inl x2)] (ab_su S 21 0 0 2) (ab_back Q G 53 [some (.inr (21, 0)), some (.inl x1), some (.inl x2)] [] 0)) ∧ (¬ ((ab_su S 21 0 0 2) 21 0 0) = 0 → Q (.inl (some 0)) (ab_su S 21 0 0 2))) ∧ (¬ x2 < 0 → Sp_X6_children [(.inr (21, 0)), (.inl 12), (.inl x1)] S (ab_back Q G 27 [some (.inr (21, 0)), some (.inl x1), some (.inl x2)] [(.inl x2), (.inr (21, 0))] 0)))) : G 8 [some (.inr (21, 0)), some (.inl x1), some (.inl x2)] [(.inl xs0), (.inr (21, 0))] S 0 := by
  refine ab_if_ne' hG 8 _ _ _ _ (7) 15 _ dX6_child_8 (by decide) (fun hc => ?_) (fun hc => ?_)
  · have h := h.2 hc
    refine ab_iload_n' hG 15 _ _ _ _ 2 _ dX6_child_15 rfl ?_
    refine ab_if_lt' hG 16 _ _ _ _ (14) 30 _ dX6_child_16 (by decide) (fun hc => ?_) (fun hc => ?_)
    · have h := h.1 hc
      refine ab_iconst' hG 30 _ _ _ _ 2 2 dX6_child_30 (by decide) ?_
      refine ab_goto' hG 31 _ _ _ _ (4) 35 dX6_child_31 (by decide) ?_
      refine ab_putfield' hG 35 _ _ _ _ 82 21 0 0 _ dX6_child_35 (List.Mem.head _) ?_
      refine ab_aload_n' hG 38 _ _ _ _ 0 _ dX6_child_38 rfl ?_
      refine ab_gI hG 39 _ _ _ _ 82 21 0 0 dX6_child_39 (List.Mem.head _) rfl ?_
      refine ab_if_ne' hG 42 _ _ _ _ (14) 56 _ dX6_child_42 (by decide) (fun hc => ?_) (fun hc => ?_)
      · have h := h.2 hc
        refine ab_iconst' hG 56 _ _ _ _ 0 0 dX6_child_56 (by decide) ?_
        exact ab_ireturn' hG 57 _ _ _ _ dX6_child_57 (Or.inl rfl) (by decide) h
      · have h := h.1 hc
        refine ab_aload_n' hG 45 _ _ _ _ 0 _ dX6_child_45 rfl ?_
        refine ab_bipush' hG 46 _ _ _ _ 12 12 dX6_child_46 (by decide) ?_
        refine ab_iload_n' hG 48 _ _ _ _ 1 _ dX6_child_48 rfl ?_
        refine ab_iload_n' hG 49 _ _ _ _ 2 _ dX6_child_49 rfl ?_
        exact ab_invv' hG 50 [some (.inr (21, 0)), some (.inl x1), some (.inl x2)] [(.inl 12), (.inl x1), (.inl x2)] [] (ab_su S 21 0 0 2) 0 103 _ 3 1 0 _ (21, 0) dX6_child_50 rfl rfl rfl rfl (by decide) (by decide) h
    · have h := h.2 hc
      refine ab_iload_n' hG 19 _ _ _ _ 2 _ dX6_child_19 rfl ?_
      refine ab_aload_n' hG 20 _ _ _ _ 0 _ dX6_child_20 rfl ?_
      refine ab_bipush' hG 21 _ _ _ _ 12 12 dX6_child_21 (by decide) ?_
      refine ab_iload_n' hG 23 _ _ _ _ 1 _ dX6_child_23 rfl ?_
      exact ab_invv' hG 24 [some (.inr (21, 0)), some (.inl x1), some (.inl x2)] [(.inl 12), (.inl x1)] [(.inl x2), (.inr (21, 0))] S 0 99 _ 2 1 0 _ (21, 0) dX6_child_24 rfl rfl rfl rfl (by decide) (by decide) h
  · have h := h.1 hc
    refine ab_iconst' hG 11 _ _ _ _ 1 1 dX6_child_11 (by decide) ?_
    refine ab_goto' hG 12 _ _ _ _ (23) 35 dX6_child_12 (by decide) ?_
    refine ab_putfield' hG 35 _ _ _ _ 82 21 0 0 _ dX6_child_35 (List.Mem.head _) ?_
    refine ab_aload_n' hG 38 _ _ _ _ 0 _ dX6_child_38 rfl ?_
    refine ab_gI hG 39 _ _ _ _ 82 21 0 0 dX6_child_39 (List.Mem.head _) rfl ?_
    refine ab_if_ne' hG 42 _ _ _ _ (14) 56 _ dX6_child_42 (by decide) (fun hc => ?_) (fun hc => ?_)
    · have h := h.2 hc
      refine ab_iconst' hG 56 _ _ _ _ 0 0 dX6_child_56 (by decide) ?_
      exact ab_ireturn' hG 57 _ _ _ _ dX6_child_57 (Or.inl rfl) (by decide) h
    · have h := h.1 hc
      refine ab_aload_n' hG 45 _ _ _ _ 0 _ dX6_child_45 rfl ?_
      refine ab_bipush' hG 46 _ _ _ _ 12 12 dX6_child_46 (by decide) ?_
      refine ab_iload_n' hG 48 _ _ _ _ 1 _ dX6_child_48 rfl ?_
      refine ab_iload_n' hG 49 _ _ _ _ 2 _ dX6_child_49 rfl ?_
      exact ab_invv' hG 50 [some (.inr (21, 0)), some (.inl x1), some (.inl x2)] [(.inl 12), (.inl x1), (.inl x2)] [] (ab_su S 21 0 0 1) 0 103 _ 3 1 0 _ (21, 0) dX6_child_50 rfl rfl rfl rfl (by decide) (by decide) h
theorem bl_X6_child_27 {Q : ab_Po} {G : ab_Gt} (hG : ab_Cl M_X6_child Q G) (x1 : Int32) (x2 : Int32) (xs0 : Int32) (xs1 : Int32) (S : ab_S) (h : (xs1 < xs0 → (((ab_su S 21 0 0 0) 21 0 0) = 0 → Sp_X6_childAt [(.inr (21, 0)), (.inl 12), (.inl x1), (.inl x2)] (ab_su S 21 0 0 0) (ab_back Q G 53 [some (.inr (21, 0)), some (.inl x1), some (.inl x2)] [] 0)) ∧ (¬ ((ab_su S 21 0 0 0) 21 0 0) = 0 → Q (.inl (some 0)) (ab_su S 21 0 0 0))) ∧ (¬ xs1 < xs0 → (((ab_su S 21 0 0 2) 21 0 0) = 0 → Sp_X6_childAt [(.inr (21, 0)), (.inl 12), (.inl x1), (.inl x2)] (ab_su S 21 0 0 2) (ab_back Q G 53 [some (.inr (21, 0)), some (.inl x1), some (.inl x2)] [] 0)) ∧ (¬ ((ab_su S 21 0 0 2) 21 0 0) = 0 → Q (.inl (some 0)) (ab_su S 21 0 0 2)))) : G 27 [some (.inr (21, 0)), some (.inl x1), some (.inl x2)] [(.inl xs0), (.inl xs1), (.inr (21, 0))] S 0 := by
  refine ab_icmp_lt' hG 27 _ _ _ _ (7) 34 _ _ dX6_child_27 (by decide) (fun hc => ?_) (fun hc => ?_)
  · have h := h.1 hc
    refine ab_iconst' hG 34 _ _ _ _ 0 0 dX6_child_34 (by decide) ?_
    refine ab_putfield' hG 35 _ _ _ _ 82 21 0 0 _ dX6_child_35 (List.Mem.head _) ?_
    refine ab_aload_n' hG 38 _ _ _ _ 0 _ dX6_child_38 rfl ?_
    refine ab_gI hG 39 _ _ _ _ 82 21 0 0 dX6_child_39 (List.Mem.head _) rfl ?_
    refine ab_if_ne' hG 42 _ _ _ _ (14) 56 _ dX6_child_42 (by decide) (fun hc => ?_) (fun hc => ?_)
    · have h := h.2 hc
      refine ab_iconst' hG 56 _ _ _ _ 0 0 dX6_child_56 (by decide) ?_
      exact ab_ireturn' hG 57 _ _ _ _ dX6_child_57 (Or.inl rfl) (by decide) h
    · have h := h.1 hc
      refine ab_aload_n' hG 45 _ _ _ _ 0 _ dX6_child_45 rfl ?_
      refine ab_bipush' hG 46 _ _ _ _ 12 12 dX6_child_46 (by decide) ?_
      refine ab_iload_n' hG 48 _ _ _ _ 1 _ dX6_child_48 rfl ?_
      refine ab_iload_n' hG 49 _ _ _ _ 2 _ dX6_child_49 rfl ?_
      exact ab_invv' hG 50 [some (.inr (21, 0)), some (.inl x1), some (.inl x2)] [(.inl 12), (.inl x1), (.inl x2)] [] (ab_su S 21 0 0 0) 0 103 _ 3 1 0 _ (21, 0) dX6_child_50 rfl rfl rfl rfl (by decide) (by decide) h
  · have h := h.2 hc
    refine ab_iconst' hG 30 _ _ _ _ 2 2 dX6_child_30 (by decide) ?_
    refine ab_goto' hG 31 _ _ _ _ (4) 35 dX6_child_31 (by decide) ?_
    refine ab_putfield' hG 35 _ _ _ _ 82 21 0 0 _ dX6_child_35 (List.Mem.head _) ?_
    refine ab_aload_n' hG 38 _ _ _ _ 0 _ dX6_child_38 rfl ?_
    refine ab_gI hG 39 _ _ _ _ 82 21 0 0 dX6_child_39 (List.Mem.head _) rfl ?_
    refine ab_if_ne' hG 42 _ _ _ _ (14) 56 _ dX6_child_42 (by decide) (fun hc => ?_) (fun hc => ?_)
    · have h := h.2 hc
      refine ab_iconst' hG 56 _ _ _ _ 0 0 dX6_child_56 (by decide) ?_
      exact ab_ireturn' hG 57 _ _ _ _ dX6_child_57 (Or.inl rfl) (by decide) h
    · have h := h.1 hc
      refine ab_aload_n' hG 45 _ _ _ _ 0 _ dX6_child_45 rfl ?_
      refine ab_bipush' hG 46 _ _ _ _ 12 12 dX6_child_46 (by decide) ?_
      refine ab_iload_n' hG 48 _ _ _ _ 1 _ dX6_child_48 rfl ?_
      refine ab_iload_n' hG 49 _ _ _ _ 2 _ dX6_child_49 rfl ?_
      exact ab_invv' hG 50 [some (.inr (21, 0)), some (.inl x1), some (.inl x2)] [(.inl 12), (.inl x1), (.inl x2)] [] (ab_su S 21 0 0 2) 0 103 _ 3 1 0 _ (21, 0) dX6_child_50 rfl rfl rfl rfl (by decide) (by decide) h
theorem bl_X6_child_53 {Q : ab_Po} {G : ab_Gt} (hG : ab_Cl M_X6_child Q G) (x1 : Int32) (x2 : Int32) (xs0 : Int32) (S : ab_S) (h : Q (.inl (some xs0)) S) : G 53 [some (.inr (21, 0)), some (.inl x1), some (.inl x2)] [(.inl xs0)] S 0 := by
  refine ab_goto' hG 53 _ _ _ _ (4) 57 dX6_child_53 (by decide) ?_
  exact ab_ireturn' hG 57 _ _ _ _ dX6_child_57 (Or.inl rfl) (by decide) h
theorem bl_X6_nodes_0 {Q : ab_Po} {G : ab_Gt} (hG : ab_Cl M_X6_nodes Q G) (x1 : Int32) (S : ab_S) (h : Sp_X6_walk [(.inr (21, 0)), (.inl 12)] (ab_su S 21 0 0 0) (ab_back Q G 11 [some (.inr (21, 0)), some (.inl x1)] [] 0)) : G 0 [some (.inr (21, 0)), some (.inl x1)] [] S 0 := by
  refine ab_aload_n' hG 0 _ _ _ _ 0 _ dX6_nodes_0 rfl ?_
  refine ab_iconst' hG 1 _ _ _ _ 0 0 dX6_nodes_1 (by decide) ?_
  refine ab_putfield' hG 2 _ _ _ _ 82 21 0 0 _ dX6_nodes_2 (List.Mem.head _) ?_
  refine ab_aload_n' hG 5 _ _ _ _ 0 _ dX6_nodes_5 rfl ?_
  refine ab_bipush' hG 6 _ _ _ _ 12 12 dX6_nodes_6 (by decide) ?_
  exact ab_invv' hG 8 [some (.inr (21, 0)), some (.inl x1)] [(.inl 12)] [] (ab_su S 21 0 0 0) 0 114 _ 1 0 0 _ (21, 0) dX6_nodes_8 rfl rfl rfl rfl (by decide) (by decide) h
theorem bl_X6_nodes_11 {Q : ab_Po} {G : ab_Gt} (hG : ab_Cl M_X6_nodes Q G) (x1 : Int32) (S : ab_S) (h : (x1 = 0 → Q (.inl (some (S 21 0 18))) S) ∧ (¬ x1 = 0 → Q (.inl (some (S 21 0 5))) S)) : G 11 [some (.inr (21, 0)), some (.inl x1)] [] S 0 := by
  refine ab_iload_n' hG 11 _ _ _ _ 1 _ dX6_nodes_11 rfl ?_
  refine ab_if_eq' hG 12 _ _ _ _ (10) 22 _ dX6_nodes_12 (by decide) (fun hc => ?_) (fun hc => ?_)
  · have h := h.1 hc
    refine ab_aload_n' hG 22 _ _ _ _ 0 _ dX6_nodes_22 rfl ?_
    refine ab_gI hG 23 _ _ _ _ 93 21 18 0 dX6_nodes_23 (List.Mem.tail _ (List.Mem.head _)) rfl ?_
    exact ab_ireturn' hG 26 _ _ _ _ dX6_nodes_26 (Or.inl rfl) (by decide) h
  · have h := h.2 hc
    refine ab_aload_n' hG 15 _ _ _ _ 0 _ dX6_nodes_15 rfl ?_
    refine ab_gI hG 16 _ _ _ _ 23 21 5 0 dX6_nodes_16 (List.Mem.head _) rfl ?_
    refine ab_goto' hG 19 _ _ _ _ (7) 26 dX6_nodes_19 (by decide) ?_
    exact ab_ireturn' hG 26 _ _ _ _ dX6_nodes_26 (Or.inl rfl) (by decide) h
theorem bl_X6_isFound_0 {Q : ab_Po} {G : ab_Gt} (hG : ab_Cl M_X6_isFound Q G) (x1 : Int32) (x2 : Int32) (x3 : Int32) (S : ab_S) (h : vp_in (288 + x1) 336 ∧ (0 ≤ (S 24 0 (288 + x1).toNatClampNeg) → (x2 = 1 → (((x3 >>> ((S 24 0 (288 + x1).toNatClampNeg) &&& 31)) &&& 1) = 1 → Q (.inl (some 1)) S) ∧ (¬ ((x3 >>> ((S 24 0 (288 + x1).toNatClampNeg) &&& 31)) &&& 1) = 1 → Q (.inl (some 0)) S)) ∧ (¬ x2 = 1 → G 46 [some (.inr (21, 0)), some (.inl x1), some (.inl x2), some (.inl x3), some (.inl (S 24 0 (288 + x1).toNatClampNeg)), some (.inl 0), some (.inl 0), none] [] S 0)) ∧ (¬ 0 ≤ (S 24 0 (288 + x1).toNatClampNeg) → Q (.inl (some 0)) S)) : G 0 [some (.inr (21, 0)), some (.inl x1), some (.inl x2), some (.inl x3), none, none, none, none] [] S 0 := by
  refine ab_aload_n' hG 0 _ _ _ _ 0 _ dX6_isFound_0 rfl ?_
  refine ab_gR hG 1 _ _ _ _ 17 21 3 0 (24, 0) dX6_isFound_1 (List.Mem.head _) rfl ?_
  refine ab_sipush' hG 4 _ _ _ _ 288 288 dX6_isFound_4 (by decide) ?_
  refine ab_iload_n' hG 7 _ _ _ _ 1 _ dX6_isFound_7 rfl ?_
  refine ab_iadd' hG 8 _ _ _ _ _ _ dX6_isFound_8 ?_
  refine ab_iaload' hG 9 _ _ _ _ 24 0 336 _ dX6_isFound_9 rfl h.1 ?_
  have h := h.2
  refine ab_istore' hG 10 _ _ _ _ 4 _ dX6_isFound_10 (by decide) ?_
  refine ab_iload' hG 12 _ _ _ _ 4 _ dX6_isFound_12 rfl ?_
  refine ab_if_ge' hG 14 _ _ _ _ (5) 19 _ dX6_isFound_14 (by decide) (fun hc => ?_) (fun hc => ?_)
  · have h := h.1 hc
    refine ab_iload_n' hG 19 _ _ _ _ 2 _ dX6_isFound_19 rfl ?_
    refine ab_iconst' hG 20 _ _ _ _ 1 1 dX6_isFound_20 (by decide) ?_
    refine ab_icmp_ne' hG 21 _ _ _ _ (19) 40 _ _ dX6_isFound_21 (by decide) (fun hc => ?_) (fun hc => ?_)
    · have h := h.2 hc
      refine ab_iconst' hG 40 _ _ _ _ 0 0 dX6_isFound_40 (by decide) ?_
      refine ab_istore' hG 41 _ _ _ _ 5 _ dX6_isFound_41 (by decide) ?_
      refine ab_iconst' hG 43 _ _ _ _ 0 0 dX6_isFound_43 (by decide) ?_
      refine ab_istore' hG 44 _ _ _ _ 6 _ dX6_isFound_44 (by decide) ?_
      exact h
    · have h := h.1 hc
      refine ab_iload_n' hG 24 _ _ _ _ 3 _ dX6_isFound_24 rfl ?_
      refine ab_iload' hG 25 _ _ _ _ 4 _ dX6_isFound_25 rfl ?_
      refine ab_ishr' hG 27 _ _ _ _ _ _ dX6_isFound_27 ?_
      refine ab_iconst' hG 28 _ _ _ _ 1 1 dX6_isFound_28 (by decide) ?_
      refine ab_iand' hG 29 _ _ _ _ _ _ dX6_isFound_29 ?_
      refine ab_iconst' hG 30 _ _ _ _ 1 1 dX6_isFound_30 (by decide) ?_
      refine ab_icmp_ne' hG 31 _ _ _ _ (7) 38 _ _ dX6_isFound_31 (by decide) (fun hc => ?_) (fun hc => ?_)
      · have h := h.2 hc
        refine ab_iconst' hG 38 _ _ _ _ 0 0 dX6_isFound_38 (by decide) ?_
        exact ab_ireturn' hG 39 _ _ _ _ dX6_isFound_39 (Or.inr ⟨rfl, Or.inl rfl⟩) (by decide) h
      · have h := h.1 hc
        refine ab_iconst' hG 34 _ _ _ _ 1 1 dX6_isFound_34 (by decide) ?_
        refine ab_goto' hG 35 _ _ _ _ (4) 39 dX6_isFound_35 (by decide) ?_
        exact ab_ireturn' hG 39 _ _ _ _ dX6_isFound_39 (Or.inr ⟨rfl, Or.inr rfl⟩) (by decide) h
  · have h := h.2 hc
    refine ab_iconst' hG 17 _ _ _ _ 0 0 dX6_isFound_17 (by decide) ?_
    exact ab_ireturn' hG 18 _ _ _ _ dX6_isFound_18 (Or.inr ⟨rfl, Or.inl rfl⟩) (by decide) h
theorem bl_X6_isFound_46 {Q : ab_Po} {G : ab_Gt} (hG : ab_Cl M_X6_isFound Q G) (x1 : Int32) (x2 : Int32) (x3 : Int32) (x4 : Int32) (x5 : Int32) (x6 : Int32) (S : ab_S) (h : (24 ≤ x6 → (x5 = 0 ∨ x5 = 1) ∧ Q (.inl (some x5)) S) ∧ (¬ 24 ≤ x6 → (((x3 >>> (x6 &&& 31)) &&& 1) = 1 → (x5 = 0 → (1 = 0 → G 46 [some (.inr (21, 0)), some (.inl x1), some (.inl x2), some (.inl x3), some (.inl x4), some (.inl 0), some (.inl (x6 + 1)), none] [] S 0) ∧ (¬ 1 = 0 → (x2 = 2 → (x6 = x1 → G 46 [some (.inr (21, 0)), some (.inl x1), some (.inl x2), some (.inl x3), some (.inl x4), some (.inl 0), some (.inl (x6 + 1)), none] [] S 0) ∧ (¬ x6 = x1 → Sp_X6_isAt [(.inr (21, 0)), (.inl 12), (.inl x1), (.inl x6)] S (ab_back Q G 100 [some (.inr (21, 0)), some (.inl x1), some (.inl x2), some (.inl x3), some (.inl x4), some (.inl x5), some (.inl x6), some (.inl 1)] [] 0))) ∧ (¬ x2 = 2 → vp_in (288 + x6) 336 ∧ ((S 24 0 (288 + x6).toNatClampNeg) = x4 → vp_in (288 + x6) 336 ∧ vp_in (288 + x1) 336 ∧ ((S 25 0 (288 + x1).toNatClampNeg) ≤ (S 25 0 (288 + x6).toNatClampNeg) → G 46 [some (.inr (21, 0)), some (.inl x1), some (.inl x2), some (.inl x3), some (.inl x4), some (.inl 0), some (.inl (x6 + 1)), none] [] S 0) ∧ (¬ (S 25 0 (288 + x1).toNatClampNeg) ≤ (S 25 0 (288 + x6).toNatClampNeg) → G 46 [some (.inr (21, 0)), some (.inl x1), some (.inl x2), some (.inl x3), some (.inl x4), some (.inl 1), some (.inl (x6 + 1)), none] [] S 0)) ∧ (¬ (S 24 0 (288 + x6).toNatClampNeg) = x4 → G 46 [some (.inr (21, 0)), some (.inl x1), some (.inl x2), some (.inl x3), some (.inl x4), some (.inl 0), some (.inl (x6 + 1)), none] [] S 0)))) ∧ (¬ x5 = 0 → G 46 [some (.inr (21, 0)), some (.inl x1), some (.inl x2), some (.inl x3), some (.inl x4), some (.inl 1), some (.inl (x6 + 1)), none] [] S 0)) ∧ (¬ ((x3 >>> (x6 &&& 31)) &&& 1) = 1 → (x5 = 0 → (0 = 0 → G 46 [some (.inr (21, 0)), some (.inl x1), some (.inl x2), some (.inl x3), some (.inl x4), some (.inl 0), some (.inl (x6 + 1)), none] [] S 0) ∧ (¬ 0 = 0 → (x2 = 2 → (x6 = x1 → G 46 [some (.inr (21, 0)), some (.inl x1), some (.inl x2), some (.inl x3), some (.inl x4), some (.inl 0), some (.inl (x6 + 1)), none] [] S 0) ∧ (¬ x6 = x1 → Sp_X6_isAt [(.inr (21, 0)), (.inl 12), (.inl x1), (.inl x6)] S (ab_back Q G 100 [some (.inr (21, 0)), some (.inl x1), some (.inl x2), some (.inl x3), some (.inl x4), some (.inl x5), some (.inl x6), some (.inl 0)] [] 0))) ∧ (¬ x2 = 2 → vp_in (288 + x6) 336 ∧ ((S 24 0 (288 + x6).toNatClampNeg) = x4 → vp_in (288 + x6) 336 ∧ vp_in (288 + x1) 336 ∧ ((S 25 0 (288 + x1).toNatClampNeg) ≤ (S 25 0 (288 + x6).toNatClampNeg) → G 46 [some (.inr (21, 0)), some (.inl x1), some (.inl x2), some (.inl x3), some (.inl x4), some (.inl 0), some (.inl (x6 + 1)), none] [] S 0) ∧ (¬ (S 25 0 (288 + x1).toNatClampNeg) ≤ (S 25 0 (288 + x6).toNatClampNeg) → G 46 [some (.inr (21, 0)), some (.inl x1), some (.inl x2), some (.inl x3), some (.inl x4), some (.inl 1), some (.inl (x6 + 1)), none] [] S 0)) ∧ (¬ (S 24 0 (288 + x6).toNatClampNeg) = x4 → G 46 [some (.inr (21, 0)), some (.inl x1), some (.inl x2), some (.inl x3), some (.inl x4), some (.inl 0), some (.inl (x6 + 1)), none] [] S 0)))) ∧ (¬ x5 = 0 → G 46 [some (.inr (21, 0)), some (.inl x1), some (.inl x2), some (.inl x3), some (.inl x4), some (.inl 1), some (.inl (x6 + 1)), none] [] S 0)))) : G 46 [some (.inr (21, 0)), some (.inl x1), some (.inl x2), some (.inl x3), some (.inl x4), some (.inl x5), some (.inl x6), none] [] S 0 := by
  refine ab_iload' hG 46 _ _ _ _ 6 _ dX6_isFound_46 rfl ?_
  refine ab_bipush' hG 48 _ _ _ _ 24 24 dX6_isFound_48 (by decide) ?_
  refine ab_icmp_ge' hG 50 _ _ _ _ (109) 159 _ _ dX6_isFound_50 (by decide) (fun hc => ?_) (fun hc => ?_)
  · have h := h.1 hc
    refine ab_iload' hG 159 _ _ _ _ 5 _ dX6_isFound_159 rfl ?_
    exact ab_ireturn' hG 161 _ _ _ _ dX6_isFound_161 (Or.inr ⟨rfl, h.1⟩) (by decide) h.2
  · have h := h.2 hc
    refine ab_iload_n' hG 53 _ _ _ _ 3 _ dX6_isFound_53 rfl ?_
    refine ab_iload' hG 54 _ _ _ _ 6 _ dX6_isFound_54 rfl ?_
    refine ab_ishr' hG 56 _ _ _ _ _ _ dX6_isFound_56 ?_
    refine ab_iconst' hG 57 _ _ _ _ 1 1 dX6_isFound_57 (by decide) ?_
    refine ab_iand' hG 58 _ _ _ _ _ _ dX6_isFound_58 ?_
    refine ab_iconst' hG 59 _ _ _ _ 1 1 dX6_isFound_59 (by decide) ?_
    refine ab_icmp_ne' hG 60 _ _ _ _ (7) 67 _ _ dX6_isFound_60 (by decide) (fun hc => ?_) (fun hc => ?_)
    · have h := h.2 hc
      refine ab_iconst' hG 67 _ _ _ _ 0 0 dX6_isFound_67 (by decide) ?_
      refine ab_istore' hG 68 _ _ _ _ 7 _ dX6_isFound_68 (by decide) ?_
      refine ab_iload' hG 70 _ _ _ _ 5 _ dX6_isFound_70 rfl ?_
      refine ab_if_ne' hG 72 _ _ _ _ (74) 146 _ dX6_isFound_72 (by decide) (fun hc => ?_) (fun hc => ?_)
      · have h := h.2 hc
        refine ab_iconst' hG 146 _ _ _ _ 1 1 dX6_isFound_146 (by decide) ?_
        refine ab_goto' hG 147 _ _ _ _ (4) 151 dX6_isFound_147 (by decide) ?_
        refine ab_istore' hG 151 _ _ _ _ 5 _ dX6_isFound_151 (by decide) ?_
        refine ab_iinc' hG 153 _ _ _ _ 6 1 x6 (x6 + 1) dX6_isFound_153 rfl rfl ?_
        refine ab_goto' hG 156 _ _ _ _ (-110) 46 dX6_isFound_156 (by decide) ?_
        refine ab_forget' hG _ _ _ _ _ 7 ?_
        exact h
      · have h := h.1 hc
        refine ab_iload' hG 75 _ _ _ _ 7 _ dX6_isFound_75 rfl ?_
        refine ab_if_eq' hG 77 _ _ _ _ (73) 150 _ dX6_isFound_77 (by decide) (fun hc => ?_) (fun hc => ?_)
        · have h := h.1 hc
          refine ab_iconst' hG 150 _ _ _ _ 0 0 dX6_isFound_150 (by decide) ?_
          refine ab_istore' hG 151 _ _ _ _ 5 _ dX6_isFound_151 (by decide) ?_
          refine ab_iinc' hG 153 _ _ _ _ 6 1 x6 (x6 + 1) dX6_isFound_153 rfl rfl ?_
          refine ab_goto' hG 156 _ _ _ _ (-110) 46 dX6_isFound_156 (by decide) ?_
          refine ab_forget' hG _ _ _ _ _ 7 ?_
          exact h
        · have h := h.2 hc
          refine ab_iload_n' hG 80 _ _ _ _ 2 _ dX6_isFound_80 rfl ?_
          refine ab_iconst' hG 81 _ _ _ _ 2 2 dX6_isFound_81 (by decide) ?_
          refine ab_icmp_ne' hG 82 _ _ _ _ (24) 106 _ _ dX6_isFound_82 (by decide) (fun hc => ?_) (fun hc => ?_)
          · have h := h.2 hc
            refine ab_aload_n' hG 106 _ _ _ _ 0 _ dX6_isFound_106 rfl ?_
            refine ab_gR hG 107 _ _ _ _ 17 21 3 0 (24, 0) dX6_isFound_107 (List.Mem.head _) rfl ?_
            refine ab_sipush' hG 110 _ _ _ _ 288 288 dX6_isFound_110 (by decide) ?_
            refine ab_iload' hG 113 _ _ _ _ 6 _ dX6_isFound_113 rfl ?_
            refine ab_iadd' hG 115 _ _ _ _ _ _ dX6_isFound_115 ?_
            refine ab_iaload' hG 116 _ _ _ _ 24 0 336 _ dX6_isFound_116 rfl h.1 ?_
            have h := h.2
            refine ab_iload' hG 117 _ _ _ _ 4 _ dX6_isFound_117 rfl ?_
            refine ab_icmp_ne' hG 119 _ _ _ _ (31) 150 _ _ dX6_isFound_119 (by decide) (fun hc => ?_) (fun hc => ?_)
            · have h := h.2 hc
              refine ab_iconst' hG 150 _ _ _ _ 0 0 dX6_isFound_150 (by decide) ?_
              refine ab_istore' hG 151 _ _ _ _ 5 _ dX6_isFound_151 (by decide) ?_
              refine ab_iinc' hG 153 _ _ _ _ 6 1 x6 (x6 + 1) dX6_isFound_153 rfl rfl ?_
              refine ab_goto' hG 156 _ _ _ _ (-110) 46 dX6_isFound_156 (by decide) ?_
              refine ab_forget' hG _ _ _ _ _ 7 ?_
              exact h
            · have h := h.1 hc
              refine ab_aload_n' hG 122 _ _ _ _ 0 _ dX6_isFound_122 rfl ?_
              refine ab_gR hG 123 _ _ _ _ 20 21 4 0 (25, 0) dX6_isFound_123 (List.Mem.tail _ (List.Mem.head _)) rfl ?_
              refine ab_sipush' hG 126 _ _ _ _ 288 288 dX6_isFound_126 (by decide) ?_
              refine ab_iload' hG 129 _ _ _ _ 6 _ dX6_isFound_129 rfl ?_
              refine ab_iadd' hG 131 _ _ _ _ _ _ dX6_isFound_131 ?_
              refine ab_iaload' hG 132 _ _ _ _ 25 0 336 _ dX6_isFound_132 rfl h.1 ?_
              have h := h.2
              refine ab_aload_n' hG 133 _ _ _ _ 0 _ dX6_isFound_133 rfl ?_
              refine ab_gR hG 134 _ _ _ _ 20 21 4 0 (25, 0) dX6_isFound_134 (List.Mem.tail _ (List.Mem.head _)) rfl ?_
              refine ab_sipush' hG 137 _ _ _ _ 288 288 dX6_isFound_137 (by decide) ?_
              refine ab_iload_n' hG 140 _ _ _ _ 1 _ dX6_isFound_140 rfl ?_
              refine ab_iadd' hG 141 _ _ _ _ _ _ dX6_isFound_141 ?_
              refine ab_iaload' hG 142 _ _ _ _ 25 0 336 _ dX6_isFound_142 rfl h.1 ?_
              have h := h.2
              refine ab_icmp_ge' hG 143 _ _ _ _ (7) 150 _ _ dX6_isFound_143 (by decide) (fun hc => ?_) (fun hc => ?_)
              · have h := h.1 hc
                refine ab_iconst' hG 150 _ _ _ _ 0 0 dX6_isFound_150 (by decide) ?_
                refine ab_istore' hG 151 _ _ _ _ 5 _ dX6_isFound_151 (by decide) ?_
                refine ab_iinc' hG 153 _ _ _ _ 6 1 x6 (x6 + 1) dX6_isFound_153 rfl rfl ?_
                refine ab_goto' hG 156 _ _ _ _ (-110) 46 dX6_isFound_156 (by decide) ?_
                refine ab_forget' hG _ _ _ _ _ 7 ?_
                exact h
              · have h := h.2 hc
                refine ab_iconst' hG 146 _ _ _ _ 1 1 dX6_isFound_146 (by decide) ?_
                refine ab_goto' hG 147 _ _ _ _ (4) 151 dX6_isFound_147 (by decide) ?_
                refine ab_istore' hG 151 _ _ _ _ 5 _ dX6_isFound_151 (by decide) ?_
                refine ab_iinc' hG 153 _ _ _ _ 6 1 x6 (x6 + 1) dX6_isFound_153 rfl rfl ?_
                refine ab_goto' hG 156 _ _ _ _ (-110) 46 dX6_isFound_156 (by decide) ?_
                refine ab_forget' hG _ _ _ _ _ 7 ?_
                exact h
          · have h := h.1 hc
            refine ab_iload' hG 85 _ _ _ _ 6 _ dX6_isFound_85 rfl ?_
            refine ab_iload_n' hG 87 _ _ _ _ 1 _ dX6_isFound_87 rfl ?_
            refine ab_icmp_eq' hG 88 _ _ _ _ (62) 150 _ _ dX6_isFound_88 (by decide) (fun hc => ?_) (fun hc => ?_)
            · have h := h.1 hc
              refine ab_iconst' hG 150 _ _ _ _ 0 0 dX6_isFound_150 (by decide) ?_
              refine ab_istore' hG 151 _ _ _ _ 5 _ dX6_isFound_151 (by decide) ?_
              refine ab_iinc' hG 153 _ _ _ _ 6 1 x6 (x6 + 1) dX6_isFound_153 rfl rfl ?_
              refine ab_goto' hG 156 _ _ _ _ (-110) 46 dX6_isFound_156 (by decide) ?_
              refine ab_forget' hG _ _ _ _ _ 7 ?_
              exact h
            · have h := h.2 hc
              refine ab_aload_n' hG 91 _ _ _ _ 0 _ dX6_isFound_91 rfl ?_
              refine ab_bipush' hG 92 _ _ _ _ 12 12 dX6_isFound_92 (by decide) ?_
              refine ab_iload_n' hG 94 _ _ _ _ 1 _ dX6_isFound_94 rfl ?_
              refine ab_iload' hG 95 _ _ _ _ 6 _ dX6_isFound_95 rfl ?_
              exact ab_invv' hG 97 [some (.inr (21, 0)), some (.inl x1), some (.inl x2), some (.inl x3), some (.inl x4), some (.inl x5), some (.inl x6), some (.inl 0)] [(.inl 12), (.inl x1), (.inl x6)] [] S 0 121 _ 3 1 0 _ (21, 0) dX6_isFound_97 rfl rfl rfl rfl (by decide) (by decide) h
    · have h := h.1 hc
      refine ab_iconst' hG 63 _ _ _ _ 1 1 dX6_isFound_63 (by decide) ?_
      refine ab_goto' hG 64 _ _ _ _ (4) 68 dX6_isFound_64 (by decide) ?_
      refine ab_istore' hG 68 _ _ _ _ 7 _ dX6_isFound_68 (by decide) ?_
      refine ab_iload' hG 70 _ _ _ _ 5 _ dX6_isFound_70 rfl ?_
      refine ab_if_ne' hG 72 _ _ _ _ (74) 146 _ dX6_isFound_72 (by decide) (fun hc => ?_) (fun hc => ?_)
      · have h := h.2 hc
        refine ab_iconst' hG 146 _ _ _ _ 1 1 dX6_isFound_146 (by decide) ?_
        refine ab_goto' hG 147 _ _ _ _ (4) 151 dX6_isFound_147 (by decide) ?_
        refine ab_istore' hG 151 _ _ _ _ 5 _ dX6_isFound_151 (by decide) ?_
        refine ab_iinc' hG 153 _ _ _ _ 6 1 x6 (x6 + 1) dX6_isFound_153 rfl rfl ?_
        refine ab_goto' hG 156 _ _ _ _ (-110) 46 dX6_isFound_156 (by decide) ?_
        refine ab_forget' hG _ _ _ _ _ 7 ?_
        exact h
      · have h := h.1 hc
        refine ab_iload' hG 75 _ _ _ _ 7 _ dX6_isFound_75 rfl ?_
        refine ab_if_eq' hG 77 _ _ _ _ (73) 150 _ dX6_isFound_77 (by decide) (fun hc => ?_) (fun hc => ?_)
        · have h := h.1 hc
          refine ab_iconst' hG 150 _ _ _ _ 0 0 dX6_isFound_150 (by decide) ?_
          refine ab_istore' hG 151 _ _ _ _ 5 _ dX6_isFound_151 (by decide) ?_
          refine ab_iinc' hG 153 _ _ _ _ 6 1 x6 (x6 + 1) dX6_isFound_153 rfl rfl ?_
          refine ab_goto' hG 156 _ _ _ _ (-110) 46 dX6_isFound_156 (by decide) ?_
          refine ab_forget' hG _ _ _ _ _ 7 ?_
          exact h
        · have h := h.2 hc
          refine ab_iload_n' hG 80 _ _ _ _ 2 _ dX6_isFound_80 rfl ?_
          refine ab_iconst' hG 81 _ _ _ _ 2 2 dX6_isFound_81 (by decide) ?_
          refine ab_icmp_ne' hG 82 _ _ _ _ (24) 106 _ _ dX6_isFound_82 (by decide) (fun hc => ?_) (fun hc => ?_)
          · have h := h.2 hc
            refine ab_aload_n' hG 106 _ _ _ _ 0 _ dX6_isFound_106 rfl ?_
            refine ab_gR hG 107 _ _ _ _ 17 21 3 0 (24, 0) dX6_isFound_107 (List.Mem.head _) rfl ?_
            refine ab_sipush' hG 110 _ _ _ _ 288 288 dX6_isFound_110 (by decide) ?_
            refine ab_iload' hG 113 _ _ _ _ 6 _ dX6_isFound_113 rfl ?_
            refine ab_iadd' hG 115 _ _ _ _ _ _ dX6_isFound_115 ?_
            refine ab_iaload' hG 116 _ _ _ _ 24 0 336 _ dX6_isFound_116 rfl h.1 ?_
            have h := h.2
            refine ab_iload' hG 117 _ _ _ _ 4 _ dX6_isFound_117 rfl ?_
            refine ab_icmp_ne' hG 119 _ _ _ _ (31) 150 _ _ dX6_isFound_119 (by decide) (fun hc => ?_) (fun hc => ?_)
            · have h := h.2 hc
              refine ab_iconst' hG 150 _ _ _ _ 0 0 dX6_isFound_150 (by decide) ?_
              refine ab_istore' hG 151 _ _ _ _ 5 _ dX6_isFound_151 (by decide) ?_
              refine ab_iinc' hG 153 _ _ _ _ 6 1 x6 (x6 + 1) dX6_isFound_153 rfl rfl ?_
              refine ab_goto' hG 156 _ _ _ _ (-110) 46 dX6_isFound_156 (by decide) ?_
              refine ab_forget' hG _ _ _ _ _ 7 ?_
              exact h
            · have h := h.1 hc
              refine ab_aload_n' hG 122 _ _ _ _ 0 _ dX6_isFound_122 rfl ?_
              refine ab_gR hG 123 _ _ _ _ 20 21 4 0 (25, 0) dX6_isFound_123 (List.Mem.tail _ (List.Mem.head _)) rfl ?_
              refine ab_sipush' hG 126 _ _ _ _ 288 288 dX6_isFound_126 (by decide) ?_
              refine ab_iload' hG 129 _ _ _ _ 6 _ dX6_isFound_129 rfl ?_
              refine ab_iadd' hG 131 _ _ _ _ _ _ dX6_isFound_131 ?_
              refine ab_iaload' hG 132 _ _ _ _ 25 0 336 _ dX6_isFound_132 rfl h.1 ?_
              have h := h.2
              refine ab_aload_n' hG 133 _ _ _ _ 0 _ dX6_isFound_133 rfl ?_
              refine ab_gR hG 134 _ _ _ _ 20 21 4 0 (25, 0) dX6_isFound_134 (List.Mem.tail _ (List.Mem.head _)) rfl ?_
              refine ab_sipush' hG 137 _ _ _ _ 288 288 dX6_isFound_137 (by decide) ?_
              refine ab_iload_n' hG 140 _ _ _ _ 1 _ dX6_isFound_140 rfl ?_
              refine ab_iadd' hG 141 _ _ _ _ _ _ dX6_isFound_141 ?_
              refine ab_iaload' hG 142 _ _ _ _ 25 0 336 _ dX6_isFound_142 rfl h.1 ?_
              have h := h.2
              refine ab_icmp_ge' hG 143 _ _ _ _ (7) 150 _ _ dX6_isFound_143 (by decide) (fun hc => ?_) (fun hc => ?_)
              · have h := h.1 hc
                refine ab_iconst' hG 150 _ _ _ _ 0 0 dX6_isFound_150 (by decide) ?_
                refine ab_istore' hG 151 _ _ _ _ 5 _ dX6_isFound_151 (by decide) ?_
                refine ab_iinc' hG 153 _ _ _ _ 6 1 x6 (x6 + 1) dX6_isFound_153 rfl rfl ?_
                refine ab_goto' hG 156 _ _ _ _ (-110) 46 dX6_isFound_156 (by decide) ?_
                refine ab_forget' hG _ _ _ _ _ 7 ?_
                exact h
              · have h := h.2 hc
                refine ab_iconst' hG 146 _ _ _ _ 1 1 dX6_isFound_146 (by decide) ?_
                refine ab_goto' hG 147 _ _ _ _ (4) 151 dX6_isFound_147 (by decide) ?_
                refine ab_istore' hG 151 _ _ _ _ 5 _ dX6_isFound_151 (by decide) ?_
                refine ab_iinc' hG 153 _ _ _ _ 6 1 x6 (x6 + 1) dX6_isFound_153 rfl rfl ?_
                refine ab_goto' hG 156 _ _ _ _ (-110) 46 dX6_isFound_156 (by decide) ?_
                refine ab_forget' hG _ _ _ _ _ 7 ?_
                exact h
          · have h := h.1 hc
            refine ab_iload' hG 85 _ _ _ _ 6 _ dX6_isFound_85 rfl ?_
            refine ab_iload_n' hG 87 _ _ _ _ 1 _ dX6_isFound_87 rfl ?_
            refine ab_icmp_eq' hG 88 _ _ _ _ (62) 150 _ _ dX6_isFound_88 (by decide) (fun hc => ?_) (fun hc => ?_)
            · have h := h.1 hc
              refine ab_iconst' hG 150 _ _ _ _ 0 0 dX6_isFound_150 (by decide) ?_
              refine ab_istore' hG 151 _ _ _ _ 5 _ dX6_isFound_151 (by decide) ?_
              refine ab_iinc' hG 153 _ _ _ _ 6 1 x6 (x6 + 1) dX6_isFound_153 rfl rfl ?_
              refine ab_goto' hG 156 _ _ _ _ (-110) 46 dX6_isFound_156 (by decide) ?_
              refine ab_forget' hG _ _ _ _ _ 7 ?_
              exact h
            · have h := h.2 hc
              refine ab_aload_n' hG 91 _ _ _ _ 0 _ dX6_isFound_91 rfl ?_
              refine ab_bipush' hG 92 _ _ _ _ 12 12 dX6_isFound_92 (by decide) ?_
              refine ab_iload_n' hG 94 _ _ _ _ 1 _ dX6_isFound_94 rfl ?_
              refine ab_iload' hG 95 _ _ _ _ 6 _ dX6_isFound_95 rfl ?_
              exact ab_invv' hG 97 [some (.inr (21, 0)), some (.inl x1), some (.inl x2), some (.inl x3), some (.inl x4), some (.inl x5), some (.inl x6), some (.inl 1)] [(.inl 12), (.inl x1), (.inl x6)] [] S 0 121 _ 3 1 0 _ (21, 0) dX6_isFound_97 rfl rfl rfl rfl (by decide) (by decide) h
theorem bl_X6_isFound_100 {Q : ab_Po} {G : ab_Gt} (hG : ab_Cl M_X6_isFound Q G) (x1 : Int32) (x2 : Int32) (x3 : Int32) (x4 : Int32) (x5 : Int32) (x6 : Int32) (x7 : Int32) (xs0 : Int32) (S : ab_S) (h : (xs0 = 0 → G 46 [some (.inr (21, 0)), some (.inl x1), some (.inl x2), some (.inl x3), some (.inl x4), some (.inl 0), some (.inl (x6 + 1)), none] [] S 0) ∧ (¬ xs0 = 0 → G 46 [some (.inr (21, 0)), some (.inl x1), some (.inl x2), some (.inl x3), some (.inl x4), some (.inl 1), some (.inl (x6 + 1)), none] [] S 0)) : G 100 [some (.inr (21, 0)), some (.inl x1), some (.inl x2), some (.inl x3), some (.inl x4), some (.inl x5), some (.inl x6), some (.inl x7)] [(.inl xs0)] S 0 := by
  refine ab_if_eq' hG 100 _ _ _ _ (50) 150 _ dX6_isFound_100 (by decide) (fun hc => ?_) (fun hc => ?_)
  · have h := h.1 hc
    refine ab_iconst' hG 150 _ _ _ _ 0 0 dX6_isFound_150 (by decide) ?_
    refine ab_istore' hG 151 _ _ _ _ 5 _ dX6_isFound_151 (by decide) ?_
    refine ab_iinc' hG 153 _ _ _ _ 6 1 x6 (x6 + 1) dX6_isFound_153 rfl rfl ?_
    refine ab_goto' hG 156 _ _ _ _ (-110) 46 dX6_isFound_156 (by decide) ?_
    refine ab_forget' hG _ _ _ _ _ 7 ?_
    exact h
  · have h := h.2 hc
    refine ab_goto' hG 103 _ _ _ _ (43) 146 dX6_isFound_103 (by decide) ?_
    refine ab_iconst' hG 146 _ _ _ _ 1 1 dX6_isFound_146 (by decide) ?_
    refine ab_goto' hG 147 _ _ _ _ (4) 151 dX6_isFound_147 (by decide) ?_
    refine ab_istore' hG 151 _ _ _ _ 5 _ dX6_isFound_151 (by decide) ?_
    refine ab_iinc' hG 153 _ _ _ _ 6 1 x6 (x6 + 1) dX6_isFound_153 rfl rfl ?_
    refine ab_goto' hG 156 _ _ _ _ (-110) 46 dX6_isFound_156 (by decide) ?_
    refine ab_forget' hG _ _ _ _ _ 7 ?_
    exact h
theorem bl_X6_found_0 {Q : ab_Po} {G : ab_Gt} (hG : ab_Cl M_X6_found Q G) (x1 : Int32) (S : ab_S) (h : G 4 [some (.inr (21, 0)), some (.inl x1), some (.inl 1), some (.inl 0), none, none, none, none, none] [] S 0) : G 0 [some (.inr (21, 0)), some (.inl x1), none, none, none, none, none, none, none] [] S 0 := by
  refine ab_iconst' hG 0 _ _ _ _ 1 1 dX6_found_0 (by decide) ?_
  refine ab_istore_n' hG 1 _ _ _ _ 2 _ dX6_found_1 (by decide) ?_
  refine ab_iconst' hG 2 _ _ _ _ 0 0 dX6_found_2 (by decide) ?_
  refine ab_istore_n' hG 3 _ _ _ _ 3 _ dX6_found_3 (by decide) ?_
  exact h
theorem bl_X6_found_4 {Q : ab_Po} {G : ab_Gt} (hG : ab_Cl M_X6_found Q G) (x1 : Int32) (x2 : Int32) (x3 : Int32) (S : ab_S) (h : (6 ≤ x3 → Q (.inl (some x2)) S) ∧ (¬ 6 ≤ x3 → (((x1 >>> ((5 * x3) &&& 31)) &&& 3) = 0 → Q (.inl (some x2)) S) ∧ (¬ ((x1 >>> ((5 * x3) &&& 31)) &&& 3) = 0 → G 47 [some (.inr (21, 0)), some (.inl x1), some (.inl x2), some (.inl x3), some (.inl ((x1 >>> ((5 * x3) &&& 31)) &&& 3)), some (.inl ((x1 >>> (((5 * x3) + 2) &&& 31)) &&& 7)), some (.inl 0), some (.inl 0), none] [] S 0))) : G 4 [some (.inr (21, 0)), some (.inl x1), some (.inl x2), some (.inl x3), none, none, none, none, none] [] S 0 := by
  refine ab_iload_n' hG 4 _ _ _ _ 3 _ dX6_found_4 rfl ?_
  refine ab_bipush' hG 5 _ _ _ _ 6 6 dX6_found_5 (by decide) ?_
  refine ab_icmp_ge' hG 7 _ _ _ _ (136) 143 _ _ dX6_found_7 (by decide) (fun hc => ?_) (fun hc => ?_)
  · have h := h.1 hc
    refine ab_iload_n' hG 143 _ _ _ _ 2 _ dX6_found_143 rfl ?_
    exact ab_ireturn' hG 144 _ _ _ _ dX6_found_144 (Or.inl rfl) (by decide) h
  · have h := h.2 hc
    refine ab_iload_n' hG 10 _ _ _ _ 1 _ dX6_found_10 rfl ?_
    refine ab_iconst' hG 11 _ _ _ _ 5 5 dX6_found_11 (by decide) ?_
    refine ab_iload_n' hG 12 _ _ _ _ 3 _ dX6_found_12 rfl ?_
    refine ab_imul' hG 13 _ _ _ _ _ _ dX6_found_13 ?_
    refine ab_ishr' hG 14 _ _ _ _ _ _ dX6_found_14 ?_
    refine ab_iconst' hG 15 _ _ _ _ 3 3 dX6_found_15 (by decide) ?_
    refine ab_iand' hG 16 _ _ _ _ _ _ dX6_found_16 ?_
    refine ab_if_eq' hG 17 _ _ _ _ (126) 143 _ dX6_found_17 (by decide) (fun hc => ?_) (fun hc => ?_)
    · have h := h.1 hc
      refine ab_iload_n' hG 143 _ _ _ _ 2 _ dX6_found_143 rfl ?_
      exact ab_ireturn' hG 144 _ _ _ _ dX6_found_144 (Or.inl rfl) (by decide) h
    · have h := h.2 hc
      refine ab_iload_n' hG 20 _ _ _ _ 1 _ dX6_found_20 rfl ?_
      refine ab_iconst' hG 21 _ _ _ _ 5 5 dX6_found_21 (by decide) ?_
      refine ab_iload_n' hG 22 _ _ _ _ 3 _ dX6_found_22 rfl ?_
      refine ab_imul' hG 23 _ _ _ _ _ _ dX6_found_23 ?_
      refine ab_ishr' hG 24 _ _ _ _ _ _ dX6_found_24 ?_
      refine ab_iconst' hG 25 _ _ _ _ 3 3 dX6_found_25 (by decide) ?_
      refine ab_iand' hG 26 _ _ _ _ _ _ dX6_found_26 ?_
      refine ab_istore' hG 27 _ _ _ _ 4 _ dX6_found_27 (by decide) ?_
      refine ab_iload_n' hG 29 _ _ _ _ 1 _ dX6_found_29 rfl ?_
      refine ab_iconst' hG 30 _ _ _ _ 5 5 dX6_found_30 (by decide) ?_
      refine ab_iload_n' hG 31 _ _ _ _ 3 _ dX6_found_31 rfl ?_
      refine ab_imul' hG 32 _ _ _ _ _ _ dX6_found_32 ?_
      refine ab_iconst' hG 33 _ _ _ _ 2 2 dX6_found_33 (by decide) ?_
      refine ab_iadd' hG 34 _ _ _ _ _ _ dX6_found_34 ?_
      refine ab_ishr' hG 35 _ _ _ _ _ _ dX6_found_35 ?_
      refine ab_bipush' hG 36 _ _ _ _ 7 7 dX6_found_36 (by decide) ?_
      refine ab_iand' hG 38 _ _ _ _ _ _ dX6_found_38 ?_
      refine ab_istore' hG 39 _ _ _ _ 5 _ dX6_found_39 (by decide) ?_
      refine ab_iconst' hG 41 _ _ _ _ 0 0 dX6_found_41 (by decide) ?_
      refine ab_istore' hG 42 _ _ _ _ 6 _ dX6_found_42 (by decide) ?_
      refine ab_iconst' hG 44 _ _ _ _ 0 0 dX6_found_44 (by decide) ?_
      refine ab_istore' hG 45 _ _ _ _ 7 _ dX6_found_45 (by decide) ?_
      exact h
theorem bl_X6_found_47 {Q : ab_Po} {G : ab_Gt} (hG : ab_Cl M_X6_found Q G) (x1 : Int32) (x2 : Int32) (x3 : Int32) (x4 : Int32) (x5 : Int32) (x6 : Int32) (x7 : Int32) (S : ab_S) (h : (24 ≤ x7 → G 4 [some (.inr (21, 0)), some (.inl x1), some (.inl x6), some (.inl (x3 + 1)), none, none, none, none, none] [] S 0) ∧ (¬ 24 ≤ x7 → vp_in (288 + x7) 336 ∧ ((S 22 0 (288 + x7).toNatClampNeg) = 0 → (0 = 0 → G 47 [some (.inr (21, 0)), some (.inl x1), some (.inl x2), some (.inl x3), some (.inl x4), some (.inl x5), some (.inl x6), some (.inl (x7 + 1)), none] [] S 0) ∧ (¬ 0 = 0 → Sp_X6_isFound [(.inr (21, 0)), (.inl x7), (.inl x4), (.inl x2)] S (ab_back Q G 111 [some (.inr (21, 0)), some (.inl x1), some (.inl x2), some (.inl x3), some (.inl x4), some (.inl x5), some (.inl x6), some (.inl x7), some (.inl 0)] [] 0))) ∧ (¬ (S 22 0 (288 + x7).toNatClampNeg) = 0 → (5 < x5 → (1 = 0 → G 47 [some (.inr (21, 0)), some (.inl x1), some (.inl x2), some (.inl x3), some (.inl x4), some (.inl x5), some (.inl x6), some (.inl (x7 + 1)), none] [] S 0) ∧ (¬ 1 = 0 → Sp_X6_isFound [(.inr (21, 0)), (.inl x7), (.inl x4), (.inl x2)] S (ab_back Q G 111 [some (.inr (21, 0)), some (.inl x1), some (.inl x2), some (.inl x3), some (.inl x4), some (.inl x5), some (.inl x6), some (.inl x7), some (.inl 1)] [] 0))) ∧ (¬ 5 < x5 → vp_in (288 + x7) 336 ∧ ((S 23 0 (288 + x7).toNatClampNeg) = x5 → (1 = 0 → G 47 [some (.inr (21, 0)), some (.inl x1), some (.inl x2), some (.inl x3), some (.inl x4), some (.inl x5), some (.inl x6), some (.inl (x7 + 1)), none] [] S 0) ∧ (¬ 1 = 0 → Sp_X6_isFound [(.inr (21, 0)), (.inl x7), (.inl x4), (.inl x2)] S (ab_back Q G 111 [some (.inr (21, 0)), some (.inl x1), some (.inl x2), some (.inl x3), some (.inl x4), some (.inl x5), some (.inl x6), some (.inl x7), some (.inl 1)] [] 0))) ∧ (¬ (S 23 0 (288 + x7).toNatClampNeg) = x5 → (0 = 0 → G 47 [some (.inr (21, 0)), some (.inl x1), some (.inl x2), some (.inl x3), some (.inl x4), some (.inl x5), some (.inl x6), some (.inl (x7 + 1)), none] [] S 0) ∧ (¬ 0 = 0 → Sp_X6_isFound [(.inr (21, 0)), (.inl x7), (.inl x4), (.inl x2)] S (ab_back Q G 111 [some (.inr (21, 0)), some (.inl x1), some (.inl x2), some (.inl x3), some (.inl x4), some (.inl x5), some (.inl x6), some (.inl x7), some (.inl 0)] [] 0))))))) : G 47 [some (.inr (21, 0)), some (.inl x1), some (.inl x2), some (.inl x3), some (.inl x4), some (.inl x5), some (.inl x6), some (.inl x7), none] [] S 0 := by
  refine ab_iload' hG 47 _ _ _ _ 7 _ dX6_found_47 rfl ?_
  refine ab_bipush' hG 49 _ _ _ _ 24 24 dX6_found_49 (by decide) ?_
  refine ab_icmp_ge' hG 51 _ _ _ _ (83) 134 _ _ dX6_found_51 (by decide) (fun hc => ?_) (fun hc => ?_)
  · have h := h.1 hc
    refine ab_iload' hG 134 _ _ _ _ 6 _ dX6_found_134 rfl ?_
    refine ab_istore_n' hG 136 _ _ _ _ 2 _ dX6_found_136 (by decide) ?_
    refine ab_iinc' hG 137 _ _ _ _ 3 1 x3 (x3 + 1) dX6_found_137 rfl rfl ?_
    refine ab_goto' hG 140 _ _ _ _ (-136) 4 dX6_found_140 (by decide) ?_
    refine ab_forget' hG _ _ _ _ _ 4 ?_
    refine ab_forget' hG _ _ _ _ _ 5 ?_
    refine ab_forget' hG _ _ _ _ _ 6 ?_
    refine ab_forget' hG _ _ _ _ _ 7 ?_
    exact h
  · have h := h.2 hc
    refine ab_aload_n' hG 54 _ _ _ _ 0 _ dX6_found_54 rfl ?_
    refine ab_gR hG 55 _ _ _ _ 7 21 1 0 (22, 0) dX6_found_55 (List.Mem.head _) rfl ?_
    refine ab_sipush' hG 58 _ _ _ _ 288 288 dX6_found_58 (by decide) ?_
    refine ab_iload' hG 61 _ _ _ _ 7 _ dX6_found_61 rfl ?_
    refine ab_iadd' hG 63 _ _ _ _ _ _ dX6_found_63 ?_
    refine ab_baload' hG 64 _ _ _ _ 22 0 336 _ dX6_found_64 rfl h.1 ?_
    have h := h.2
    refine ab_if_eq' hG 65 _ _ _ _ (29) 94 _ dX6_found_65 (by decide) (fun hc => ?_) (fun hc => ?_)
    · have h := h.1 hc
      refine ab_iconst' hG 94 _ _ _ _ 0 0 dX6_found_94 (by decide) ?_
      refine ab_istore' hG 95 _ _ _ _ 8 _ dX6_found_95 (by decide) ?_
      refine ab_iload' hG 97 _ _ _ _ 8 _ dX6_found_97 rfl ?_
      refine ab_if_eq' hG 99 _ _ _ _ (25) 124 _ dX6_found_99 (by decide) (fun hc => ?_) (fun hc => ?_)
      · have h := h.1 hc
        refine ab_iload' hG 124 _ _ _ _ 6 _ dX6_found_124 rfl ?_
        refine ab_istore' hG 126 _ _ _ _ 6 _ dX6_found_126 (by decide) ?_
        refine ab_iinc' hG 128 _ _ _ _ 7 1 x7 (x7 + 1) dX6_found_128 rfl rfl ?_
        refine ab_goto' hG 131 _ _ _ _ (-84) 47 dX6_found_131 (by decide) ?_
        refine ab_forget' hG _ _ _ _ _ 8 ?_
        exact h
      · have h := h.2 hc
        refine ab_aload_n' hG 102 _ _ _ _ 0 _ dX6_found_102 rfl ?_
        refine ab_iload' hG 103 _ _ _ _ 7 _ dX6_found_103 rfl ?_
        refine ab_iload' hG 105 _ _ _ _ 4 _ dX6_found_105 rfl ?_
        refine ab_iload_n' hG 107 _ _ _ _ 2 _ dX6_found_107 rfl ?_
        exact ab_invv' hG 108 [some (.inr (21, 0)), some (.inl x1), some (.inl x2), some (.inl x3), some (.inl x4), some (.inl x5), some (.inl x6), some (.inl x7), some (.inl 0)] [(.inl x7), (.inl x4), (.inl x2)] [] S 0 175 _ 3 1 0 _ (21, 0) dX6_found_108 rfl rfl rfl rfl (by decide) (by decide) h
    · have h := h.2 hc
      refine ab_iload' hG 68 _ _ _ _ 5 _ dX6_found_68 rfl ?_
      refine ab_iconst' hG 70 _ _ _ _ 5 5 dX6_found_70 (by decide) ?_
      refine ab_icmp_gt' hG 71 _ _ _ _ (19) 90 _ _ dX6_found_71 (by decide) (fun hc => ?_) (fun hc => ?_)
      · have h := h.1 hc
        refine ab_iconst' hG 90 _ _ _ _ 1 1 dX6_found_90 (by decide) ?_
        refine ab_goto' hG 91 _ _ _ _ (4) 95 dX6_found_91 (by decide) ?_
        refine ab_istore' hG 95 _ _ _ _ 8 _ dX6_found_95 (by decide) ?_
        refine ab_iload' hG 97 _ _ _ _ 8 _ dX6_found_97 rfl ?_
        refine ab_if_eq' hG 99 _ _ _ _ (25) 124 _ dX6_found_99 (by decide) (fun hc => ?_) (fun hc => ?_)
        · have h := h.1 hc
          refine ab_iload' hG 124 _ _ _ _ 6 _ dX6_found_124 rfl ?_
          refine ab_istore' hG 126 _ _ _ _ 6 _ dX6_found_126 (by decide) ?_
          refine ab_iinc' hG 128 _ _ _ _ 7 1 x7 (x7 + 1) dX6_found_128 rfl rfl ?_
          refine ab_goto' hG 131 _ _ _ _ (-84) 47 dX6_found_131 (by decide) ?_
          refine ab_forget' hG _ _ _ _ _ 8 ?_
          exact h
        · have h := h.2 hc
          refine ab_aload_n' hG 102 _ _ _ _ 0 _ dX6_found_102 rfl ?_
          refine ab_iload' hG 103 _ _ _ _ 7 _ dX6_found_103 rfl ?_
          refine ab_iload' hG 105 _ _ _ _ 4 _ dX6_found_105 rfl ?_
          refine ab_iload_n' hG 107 _ _ _ _ 2 _ dX6_found_107 rfl ?_
          exact ab_invv' hG 108 [some (.inr (21, 0)), some (.inl x1), some (.inl x2), some (.inl x3), some (.inl x4), some (.inl x5), some (.inl x6), some (.inl x7), some (.inl 1)] [(.inl x7), (.inl x4), (.inl x2)] [] S 0 175 _ 3 1 0 _ (21, 0) dX6_found_108 rfl rfl rfl rfl (by decide) (by decide) h
      · have h := h.2 hc
        refine ab_aload_n' hG 74 _ _ _ _ 0 _ dX6_found_74 rfl ?_
        refine ab_gR hG 75 _ _ _ _ 13 21 2 0 (23, 0) dX6_found_75 (List.Mem.tail _ (List.Mem.head _)) rfl ?_
        refine ab_sipush' hG 78 _ _ _ _ 288 288 dX6_found_78 (by decide) ?_
        refine ab_iload' hG 81 _ _ _ _ 7 _ dX6_found_81 rfl ?_
        refine ab_iadd' hG 83 _ _ _ _ _ _ dX6_found_83 ?_
        refine ab_iaload' hG 84 _ _ _ _ 23 0 336 _ dX6_found_84 rfl h.1 ?_
        have h := h.2
        refine ab_iload' hG 85 _ _ _ _ 5 _ dX6_found_85 rfl ?_
        refine ab_icmp_ne' hG 87 _ _ _ _ (7) 94 _ _ dX6_found_87 (by decide) (fun hc => ?_) (fun hc => ?_)
        · have h := h.2 hc
          refine ab_iconst' hG 94 _ _ _ _ 0 0 dX6_found_94 (by decide) ?_
          refine ab_istore' hG 95 _ _ _ _ 8 _ dX6_found_95 (by decide) ?_
          refine ab_iload' hG 97 _ _ _ _ 8 _ dX6_found_97 rfl ?_
          refine ab_if_eq' hG 99 _ _ _ _ (25) 124 _ dX6_found_99 (by decide) (fun hc => ?_) (fun hc => ?_)
          · have h := h.1 hc
            refine ab_iload' hG 124 _ _ _ _ 6 _ dX6_found_124 rfl ?_
            refine ab_istore' hG 126 _ _ _ _ 6 _ dX6_found_126 (by decide) ?_
            refine ab_iinc' hG 128 _ _ _ _ 7 1 x7 (x7 + 1) dX6_found_128 rfl rfl ?_
            refine ab_goto' hG 131 _ _ _ _ (-84) 47 dX6_found_131 (by decide) ?_
            refine ab_forget' hG _ _ _ _ _ 8 ?_
            exact h
          · have h := h.2 hc
            refine ab_aload_n' hG 102 _ _ _ _ 0 _ dX6_found_102 rfl ?_
            refine ab_iload' hG 103 _ _ _ _ 7 _ dX6_found_103 rfl ?_
            refine ab_iload' hG 105 _ _ _ _ 4 _ dX6_found_105 rfl ?_
            refine ab_iload_n' hG 107 _ _ _ _ 2 _ dX6_found_107 rfl ?_
            exact ab_invv' hG 108 [some (.inr (21, 0)), some (.inl x1), some (.inl x2), some (.inl x3), some (.inl x4), some (.inl x5), some (.inl x6), some (.inl x7), some (.inl 0)] [(.inl x7), (.inl x4), (.inl x2)] [] S 0 175 _ 3 1 0 _ (21, 0) dX6_found_108 rfl rfl rfl rfl (by decide) (by decide) h
        · have h := h.1 hc
          refine ab_iconst' hG 90 _ _ _ _ 1 1 dX6_found_90 (by decide) ?_
          refine ab_goto' hG 91 _ _ _ _ (4) 95 dX6_found_91 (by decide) ?_
          refine ab_istore' hG 95 _ _ _ _ 8 _ dX6_found_95 (by decide) ?_
          refine ab_iload' hG 97 _ _ _ _ 8 _ dX6_found_97 rfl ?_
          refine ab_if_eq' hG 99 _ _ _ _ (25) 124 _ dX6_found_99 (by decide) (fun hc => ?_) (fun hc => ?_)
          · have h := h.1 hc
            refine ab_iload' hG 124 _ _ _ _ 6 _ dX6_found_124 rfl ?_
            refine ab_istore' hG 126 _ _ _ _ 6 _ dX6_found_126 (by decide) ?_
            refine ab_iinc' hG 128 _ _ _ _ 7 1 x7 (x7 + 1) dX6_found_128 rfl rfl ?_
            refine ab_goto' hG 131 _ _ _ _ (-84) 47 dX6_found_131 (by decide) ?_
            refine ab_forget' hG _ _ _ _ _ 8 ?_
            exact h
          · have h := h.2 hc
            refine ab_aload_n' hG 102 _ _ _ _ 0 _ dX6_found_102 rfl ?_
            refine ab_iload' hG 103 _ _ _ _ 7 _ dX6_found_103 rfl ?_
            refine ab_iload' hG 105 _ _ _ _ 4 _ dX6_found_105 rfl ?_
            refine ab_iload_n' hG 107 _ _ _ _ 2 _ dX6_found_107 rfl ?_
            exact ab_invv' hG 108 [some (.inr (21, 0)), some (.inl x1), some (.inl x2), some (.inl x3), some (.inl x4), some (.inl x5), some (.inl x6), some (.inl x7), some (.inl 1)] [(.inl x7), (.inl x4), (.inl x2)] [] S 0 175 _ 3 1 0 _ (21, 0) dX6_found_108 rfl rfl rfl rfl (by decide) (by decide) h
theorem bl_X6_found_111 {Q : ab_Po} {G : ab_Gt} (hG : ab_Cl M_X6_found Q G) (x1 : Int32) (x2 : Int32) (x3 : Int32) (x4 : Int32) (x5 : Int32) (x6 : Int32) (x7 : Int32) (x8 : Int32) (xs0 : Int32) (S : ab_S) (h : (xs0 = 0 → G 47 [some (.inr (21, 0)), some (.inl x1), some (.inl x2), some (.inl x3), some (.inl x4), some (.inl x5), some (.inl x6), some (.inl (x7 + 1)), none] [] S 0) ∧ (¬ xs0 = 0 → G 47 [some (.inr (21, 0)), some (.inl x1), some (.inl x2), some (.inl x3), some (.inl x4), some (.inl x5), some (.inl (x6 ||| (1 <<< (x7 &&& 31)))), some (.inl (x7 + 1)), none] [] S 0)) : G 111 [some (.inr (21, 0)), some (.inl x1), some (.inl x2), some (.inl x3), some (.inl x4), some (.inl x5), some (.inl x6), some (.inl x7), some (.inl x8)] [(.inl xs0)] S 0 := by
  refine ab_if_eq' hG 111 _ _ _ _ (13) 124 _ dX6_found_111 (by decide) (fun hc => ?_) (fun hc => ?_)
  · have h := h.1 hc
    refine ab_iload' hG 124 _ _ _ _ 6 _ dX6_found_124 rfl ?_
    refine ab_istore' hG 126 _ _ _ _ 6 _ dX6_found_126 (by decide) ?_
    refine ab_iinc' hG 128 _ _ _ _ 7 1 x7 (x7 + 1) dX6_found_128 rfl rfl ?_
    refine ab_goto' hG 131 _ _ _ _ (-84) 47 dX6_found_131 (by decide) ?_
    refine ab_forget' hG _ _ _ _ _ 8 ?_
    exact h
  · have h := h.2 hc
    refine ab_iload' hG 114 _ _ _ _ 6 _ dX6_found_114 rfl ?_
    refine ab_iconst' hG 116 _ _ _ _ 1 1 dX6_found_116 (by decide) ?_
    refine ab_iload' hG 117 _ _ _ _ 7 _ dX6_found_117 rfl ?_
    refine ab_ishl' hG 119 _ _ _ _ _ _ dX6_found_119 ?_
    refine ab_ior' hG 120 _ _ _ _ _ _ dX6_found_120 ?_
    refine ab_goto' hG 121 _ _ _ _ (5) 126 dX6_found_121 (by decide) ?_
    refine ab_istore' hG 126 _ _ _ _ 6 _ dX6_found_126 (by decide) ?_
    refine ab_iinc' hG 128 _ _ _ _ 7 1 x7 (x7 + 1) dX6_found_128 rfl rfl ?_
    refine ab_goto' hG 131 _ _ _ _ (-84) 47 dX6_found_131 (by decide) ?_
    refine ab_forget' hG _ _ _ _ _ 8 ?_
    exact h
theorem bl_X6_count_0 {Q : ab_Po} {G : ab_Gt} (hG : ab_Cl M_X6_count Q G) (x1 : Int32) (S : ab_S) (h : Sp_X6_found [(.inr (21, 0)), (.inl x1)] (ab_su S 21 0 0 0) (ab_back Q G 10 [some (.inr (21, 0)), some (.inl x1), none, none, none] [] 0)) : G 0 [some (.inr (21, 0)), some (.inl x1), none, none, none] [] S 0 := by
  refine ab_aload_n' hG 0 _ _ _ _ 0 _ dX6_count_0 rfl ?_
  refine ab_iconst' hG 1 _ _ _ _ 0 0 dX6_count_1 (by decide) ?_
  refine ab_putfield' hG 2 _ _ _ _ 82 21 0 0 _ dX6_count_2 (List.Mem.head _) ?_
  refine ab_aload_n' hG 5 _ _ _ _ 0 _ dX6_count_5 rfl ?_
  refine ab_iload_n' hG 6 _ _ _ _ 1 _ dX6_count_6 rfl ?_
  exact ab_invv' hG 7 [some (.inr (21, 0)), some (.inl x1), none, none, none] [(.inl x1)] [] (ab_su S 21 0 0 0) 0 178 _ 1 1 0 _ (21, 0) dX6_count_7 rfl rfl rfl rfl (by decide) (by decide) h
theorem bl_X6_count_10 {Q : ab_Po} {G : ab_Gt} (hG : ab_Cl M_X6_count Q G) (x1 : Int32) (xs0 : Int32) (S : ab_S) (h : G 16 [some (.inr (21, 0)), some (.inl x1), some (.inl xs0), some (.inl 0), some (.inl 0)] [] S 0) : G 10 [some (.inr (21, 0)), some (.inl x1), none, none, none] [(.inl xs0)] S 0 := by
  refine ab_istore_n' hG 10 _ _ _ _ 2 _ dX6_count_10 (by decide) ?_
  refine ab_iconst' hG 11 _ _ _ _ 0 0 dX6_count_11 (by decide) ?_
  refine ab_istore_n' hG 12 _ _ _ _ 3 _ dX6_count_12 (by decide) ?_
  refine ab_iconst' hG 13 _ _ _ _ 0 0 dX6_count_13 (by decide) ?_
  refine ab_istore' hG 14 _ _ _ _ 4 _ dX6_count_14 (by decide) ?_
  exact h
theorem bl_X6_count_16 {Q : ab_Po} {G : ab_Gt} (hG : ab_Cl M_X6_count Q G) (x1 : Int32) (x2 : Int32) (x3 : Int32) (x4 : Int32) (S : ab_S) (h : (24 ≤ x4 → Q (.inl (some x3)) S) ∧ (¬ 24 ≤ x4 → G 16 [some (.inr (21, 0)), some (.inl x1), some (.inl x2), some (.inl (x3 + ((x2 >>> (x4 &&& 31)) &&& 1))), some (.inl (x4 + 1))] [] S 0)) : G 16 [some (.inr (21, 0)), some (.inl x1), some (.inl x2), some (.inl x3), some (.inl x4)] [] S 0 := by
  refine ab_iload' hG 16 _ _ _ _ 4 _ dX6_count_16 rfl ?_
  refine ab_bipush' hG 18 _ _ _ _ 24 24 dX6_count_18 (by decide) ?_
  refine ab_icmp_ge' hG 20 _ _ _ _ (18) 38 _ _ dX6_count_20 (by decide) (fun hc => ?_) (fun hc => ?_)
  · have h := h.1 hc
    refine ab_iload_n' hG 38 _ _ _ _ 3 _ dX6_count_38 rfl ?_
    exact ab_ireturn' hG 39 _ _ _ _ dX6_count_39 (Or.inl rfl) (by decide) h
  · have h := h.2 hc
    refine ab_iload_n' hG 23 _ _ _ _ 3 _ dX6_count_23 rfl ?_
    refine ab_iload_n' hG 24 _ _ _ _ 2 _ dX6_count_24 rfl ?_
    refine ab_iload' hG 25 _ _ _ _ 4 _ dX6_count_25 rfl ?_
    refine ab_ishr' hG 27 _ _ _ _ _ _ dX6_count_27 ?_
    refine ab_iconst' hG 28 _ _ _ _ 1 1 dX6_count_28 (by decide) ?_
    refine ab_iand' hG 29 _ _ _ _ _ _ dX6_count_29 ?_
    refine ab_iadd' hG 30 _ _ _ _ _ _ dX6_count_30 ?_
    refine ab_istore_n' hG 31 _ _ _ _ 3 _ dX6_count_31 (by decide) ?_
    refine ab_iinc' hG 32 _ _ _ _ 4 1 x4 (x4 + 1) dX6_count_32 rfl rfl ?_
    refine ab_goto' hG 35 _ _ _ _ (-19) 16 dX6_count_35 (by decide) ?_
    exact h
theorem bl_X6_find_0 {Q : ab_Po} {G : ab_Gt} (hG : ab_Cl M_X6_find Q G) (x1 : Int32) (x2 : Int32) (S : ab_S) (h : Sp_X6_found [(.inr (21, 0)), (.inl x1)] (ab_su S 21 0 0 0) (ab_back Q G 10 [some (.inr (21, 0)), some (.inl x1), some (.inl x2), none, none, none] [] 0)) : G 0 [some (.inr (21, 0)), some (.inl x1), some (.inl x2), none, none, none] [] S 0 := by
  refine ab_aload_n' hG 0 _ _ _ _ 0 _ dX6_find_0 rfl ?_
  refine ab_iconst' hG 1 _ _ _ _ 0 0 dX6_find_1 (by decide) ?_
  refine ab_putfield' hG 2 _ _ _ _ 82 21 0 0 _ dX6_find_2 (List.Mem.head _) ?_
  refine ab_aload_n' hG 5 _ _ _ _ 0 _ dX6_find_5 rfl ?_
  refine ab_iload_n' hG 6 _ _ _ _ 1 _ dX6_find_6 rfl ?_
  exact ab_invv' hG 7 [some (.inr (21, 0)), some (.inl x1), some (.inl x2), none, none, none] [(.inl x1)] [] (ab_su S 21 0 0 0) 0 178 _ 1 1 0 _ (21, 0) dX6_find_7 rfl rfl rfl rfl (by decide) (by decide) h
theorem bl_X6_find_10 {Q : ab_Po} {G : ab_Gt} (hG : ab_Cl M_X6_find Q G) (x1 : Int32) (x2 : Int32) (xs0 : Int32) (S : ab_S) (h : Sp_X6_walk [(.inr (21, 0)), (.inl 12)] S (ab_back Q G 17 [some (.inr (21, 0)), some (.inl x1), some (.inl x2), some (.inl xs0), none, none] [] 0)) : G 10 [some (.inr (21, 0)), some (.inl x1), some (.inl x2), none, none, none] [(.inl xs0)] S 0 := by
  refine ab_istore_n' hG 10 _ _ _ _ 3 _ dX6_find_10 (by decide) ?_
  refine ab_aload_n' hG 11 _ _ _ _ 0 _ dX6_find_11 rfl ?_
  refine ab_bipush' hG 12 _ _ _ _ 12 12 dX6_find_12 (by decide) ?_
  exact ab_invv' hG 14 [some (.inr (21, 0)), some (.inl x1), some (.inl x2), some (.inl xs0), none, none] [(.inl 12)] [] S 0 114 _ 1 0 0 _ (21, 0) dX6_find_14 rfl rfl rfl rfl (by decide) (by decide) h
theorem bl_X6_find_17 {Q : ab_Po} {G : ab_Gt} (hG : ab_Cl M_X6_find Q G) (x1 : Int32) (x2 : Int32) (x3 : Int32) (S : ab_S) (h : G 23 [some (.inr (21, 0)), some (.inl x1), some (.inl x2), some (.inl x3), some (.inl 0), some (.inl 0)] [] S 0) : G 17 [some (.inr (21, 0)), some (.inl x1), some (.inl x2), some (.inl x3), none, none] [] S 0 := by
  refine ab_iconst' hG 17 _ _ _ _ 0 0 dX6_find_17 (by decide) ?_
  refine ab_istore' hG 18 _ _ _ _ 4 _ dX6_find_18 (by decide) ?_
  refine ab_iconst' hG 20 _ _ _ _ 0 0 dX6_find_20 (by decide) ?_
  refine ab_istore' hG 21 _ _ _ _ 5 _ dX6_find_21 (by decide) ?_
  exact h
theorem bl_X6_find_23 {Q : ab_Po} {G : ab_Gt} (hG : ab_Cl M_X6_find Q G) (x1 : Int32) (x2 : Int32) (x3 : Int32) (x4 : Int32) (x5 : Int32) (S : ab_S) (h : ((S 21 0 18) ≤ x5 → Sp_X6_fail [(.inr (21, 0)), (.inl 1)] S (ab_back Q G 75 [some (.inr (21, 0)), some (.inl x1), some (.inl x2), some (.inl x3), some (.inl x4), some (.inl x5)] [] 0)) ∧ (¬ (S 21 0 18) ≤ x5 → vp_in x5 24 ∧ (((x3 >>> ((S 34 0 x5.toNatClampNeg) &&& 31)) &&& 1) = 1 → (x4 = x2 → vp_in x5 24 ∧ Q (.inl (some (S 34 0 x5.toNatClampNeg))) S) ∧ (¬ x4 = x2 → G 23 [some (.inr (21, 0)), some (.inl x1), some (.inl x2), some (.inl x3), some (.inl (x4 + 1)), some (.inl (x5 + 1))] [] S 0)) ∧ (¬ ((x3 >>> ((S 34 0 x5.toNatClampNeg) &&& 31)) &&& 1) = 1 → G 23 [some (.inr (21, 0)), some (.inl x1), some (.inl x2), some (.inl x3), some (.inl x4), some (.inl (x5 + 1))] [] S 0))) : G 23 [some (.inr (21, 0)), some (.inl x1), some (.inl x2), some (.inl x3), some (.inl x4), some (.inl x5)] [] S 0 := by
  refine ab_iload' hG 23 _ _ _ _ 5 _ dX6_find_23 rfl ?_
  refine ab_aload_n' hG 25 _ _ _ _ 0 _ dX6_find_25 rfl ?_
  refine ab_gI hG 26 _ _ _ _ 93 21 18 0 dX6_find_26 (List.Mem.head _) rfl ?_
  refine ab_icmp_ge' hG 29 _ _ _ _ (41) 70 _ _ dX6_find_29 (by decide) (fun hc => ?_) (fun hc => ?_)
  · have h := h.1 hc
    refine ab_aload_n' hG 70 _ _ _ _ 0 _ dX6_find_70 rfl ?_
    refine ab_iconst' hG 71 _ _ _ _ 1 1 dX6_find_71 (by decide) ?_
    exact ab_invv' hG 72 [some (.inr (21, 0)), some (.inl x1), some (.inl x2), some (.inl x3), some (.inl x4), some (.inl x5)] [(.inl 1)] [] S 0 181 _ 1 1 0 _ (21, 0) dX6_find_72 rfl rfl rfl rfl (by decide) (by decide) h
  · have h := h.2 hc
    refine ab_iload_n' hG 32 _ _ _ _ 3 _ dX6_find_32 rfl ?_
    refine ab_aload_n' hG 33 _ _ _ _ 0 _ dX6_find_33 rfl ?_
    refine ab_gR hG 34 _ _ _ _ 57 21 19 0 (34, 0) dX6_find_34 (List.Mem.tail _ (List.Mem.head _)) rfl ?_
    refine ab_iload' hG 37 _ _ _ _ 5 _ dX6_find_37 rfl ?_
    refine ab_iaload' hG 39 _ _ _ _ 34 0 24 _ dX6_find_39 rfl h.1 ?_
    have h := h.2
    refine ab_ishr' hG 40 _ _ _ _ _ _ dX6_find_40 ?_
    refine ab_iconst' hG 41 _ _ _ _ 1 1 dX6_find_41 (by decide) ?_
    refine ab_iand' hG 42 _ _ _ _ _ _ dX6_find_42 ?_
    refine ab_iconst' hG 43 _ _ _ _ 1 1 dX6_find_43 (by decide) ?_
    refine ab_icmp_ne' hG 44 _ _ _ _ (20) 64 _ _ dX6_find_44 (by decide) (fun hc => ?_) (fun hc => ?_)
    · have h := h.2 hc
      refine ab_iinc' hG 64 _ _ _ _ 5 1 x5 (x5 + 1) dX6_find_64 rfl rfl ?_
      refine ab_goto' hG 67 _ _ _ _ (-44) 23 dX6_find_67 (by decide) ?_
      exact h
    · have h := h.1 hc
      refine ab_iload' hG 47 _ _ _ _ 4 _ dX6_find_47 rfl ?_
      refine ab_iload_n' hG 49 _ _ _ _ 2 _ dX6_find_49 rfl ?_
      refine ab_icmp_ne' hG 50 _ _ _ _ (11) 61 _ _ dX6_find_50 (by decide) (fun hc => ?_) (fun hc => ?_)
      · have h := h.2 hc
        refine ab_iinc' hG 61 _ _ _ _ 4 1 x4 (x4 + 1) dX6_find_61 rfl rfl ?_
        refine ab_iinc' hG 64 _ _ _ _ 5 1 x5 (x5 + 1) dX6_find_64 rfl rfl ?_
        refine ab_goto' hG 67 _ _ _ _ (-44) 23 dX6_find_67 (by decide) ?_
        exact h
      · have h := h.1 hc
        refine ab_aload_n' hG 53 _ _ _ _ 0 _ dX6_find_53 rfl ?_
        refine ab_gR hG 54 _ _ _ _ 57 21 19 0 (34, 0) dX6_find_54 (List.Mem.tail _ (List.Mem.head _)) rfl ?_
        refine ab_iload' hG 57 _ _ _ _ 5 _ dX6_find_57 rfl ?_
        refine ab_iaload' hG 59 _ _ _ _ 34 0 24 _ dX6_find_59 rfl h.1 ?_
        have h := h.2
        exact ab_ireturn' hG 60 _ _ _ _ dX6_find_60 (Or.inl rfl) (by decide) h
theorem bl_X6_find_75 {Q : ab_Po} {G : ab_Gt} (hG : ab_Cl M_X6_find Q G) (x1 : Int32) (x2 : Int32) (x3 : Int32) (x4 : Int32) (x5 : Int32) (xs0 : Int32) (S : ab_S) (h : Q (.inl (some xs0)) S) : G 75 [some (.inr (21, 0)), some (.inl x1), some (.inl x2), some (.inl x3), some (.inl x4), some (.inl x5)] [(.inl xs0)] S 0 := by
  exact ab_ireturn' hG 75 _ _ _ _ dX6_find_75 (Or.inl rfl) (by decide) h
theorem bl_X6_areAlike_0 {Q : ab_Po} {G : ab_Gt} (hG : ab_Cl M_X6_areAlike Q G) (x1 : Int32) (x2 : Int32) (S : ab_S) (h : Sp_X6_children [(.inr (21, 0)), (.inl 12), (.inl x1)] S (ab_back Q G 7 [some (.inr (21, 0)), some (.inl x1), some (.inl x2), none, none, none] [] 0)) : G 0 [some (.inr (21, 0)), some (.inl x1), some (.inl x2), none, none, none] [] S 0 := by
  refine ab_aload_n' hG 0 _ _ _ _ 0 _ dX6_areAlike_0 rfl ?_
  refine ab_bipush' hG 1 _ _ _ _ 12 12 dX6_areAlike_1 (by decide) ?_
  refine ab_iload_n' hG 3 _ _ _ _ 1 _ dX6_areAlike_3 rfl ?_
  exact ab_invv' hG 4 [some (.inr (21, 0)), some (.inl x1), some (.inl x2), none, none, none] [(.inl 12), (.inl x1)] [] S 0 99 _ 2 1 0 _ (21, 0) dX6_areAlike_4 rfl rfl rfl rfl (by decide) (by decide) h
theorem bl_X6_areAlike_7 {Q : ab_Po} {G : ab_Gt} (hG : ab_Cl M_X6_areAlike Q G) (x1 : Int32) (x2 : Int32) (xs0 : Int32) (S : ab_S) (h : vp_in (288 + x1) 336 ∧ vp_in (288 + x2) 336 ∧ ((S 23 0 (288 + x1).toNatClampNeg) = (S 23 0 (288 + x2).toNatClampNeg) → Sp_X6_children [(.inr (21, 0)), (.inl 12), (.inl x2)] S (ab_back Q G 39 [some (.inr (21, 0)), some (.inl x1), some (.inl x2), some (.inl xs0), none, none] [(.inl xs0)] 0)) ∧ (¬ (S 23 0 (288 + x1).toNatClampNeg) = (S 23 0 (288 + x2).toNatClampNeg) → G 52 [some (.inr (21, 0)), some (.inl x1), some (.inl x2), some (.inl xs0), some (.inl 0), some (.inl 0)] [] S 0)) : G 7 [some (.inr (21, 0)), some (.inl x1), some (.inl x2), none, none, none] [(.inl xs0)] S 0 := by
  refine ab_istore_n' hG 7 _ _ _ _ 3 _ dX6_areAlike_7 (by decide) ?_
  refine ab_aload_n' hG 8 _ _ _ _ 0 _ dX6_areAlike_8 rfl ?_
  refine ab_gR hG 9 _ _ _ _ 13 21 2 0 (23, 0) dX6_areAlike_9 (List.Mem.head _) rfl ?_
  refine ab_sipush' hG 12 _ _ _ _ 288 288 dX6_areAlike_12 (by decide) ?_
  refine ab_iload_n' hG 15 _ _ _ _ 1 _ dX6_areAlike_15 rfl ?_
  refine ab_iadd' hG 16 _ _ _ _ _ _ dX6_areAlike_16 ?_
  refine ab_iaload' hG 17 _ _ _ _ 23 0 336 _ dX6_areAlike_17 rfl h.1 ?_
  have h := h.2
  refine ab_aload_n' hG 18 _ _ _ _ 0 _ dX6_areAlike_18 rfl ?_
  refine ab_gR hG 19 _ _ _ _ 13 21 2 0 (23, 0) dX6_areAlike_19 (List.Mem.head _) rfl ?_
  refine ab_sipush' hG 22 _ _ _ _ 288 288 dX6_areAlike_22 (by decide) ?_
  refine ab_iload_n' hG 25 _ _ _ _ 2 _ dX6_areAlike_25 rfl ?_
  refine ab_iadd' hG 26 _ _ _ _ _ _ dX6_areAlike_26 ?_
  refine ab_iaload' hG 27 _ _ _ _ 23 0 336 _ dX6_areAlike_27 rfl h.1 ?_
  have h := h.2
  refine ab_icmp_ne' hG 28 _ _ _ _ (18) 46 _ _ dX6_areAlike_28 (by decide) (fun hc => ?_) (fun hc => ?_)
  · have h := h.2 hc
    refine ab_iconst' hG 46 _ _ _ _ 0 0 dX6_areAlike_46 (by decide) ?_
    refine ab_istore' hG 47 _ _ _ _ 4 _ dX6_areAlike_47 (by decide) ?_
    refine ab_iconst' hG 49 _ _ _ _ 0 0 dX6_areAlike_49 (by decide) ?_
    refine ab_istore' hG 50 _ _ _ _ 5 _ dX6_areAlike_50 (by decide) ?_
    exact h
  · have h := h.1 hc
    refine ab_iload_n' hG 31 _ _ _ _ 3 _ dX6_areAlike_31 rfl ?_
    refine ab_aload_n' hG 32 _ _ _ _ 0 _ dX6_areAlike_32 rfl ?_
    refine ab_bipush' hG 33 _ _ _ _ 12 12 dX6_areAlike_33 (by decide) ?_
    refine ab_iload_n' hG 35 _ _ _ _ 2 _ dX6_areAlike_35 rfl ?_
    exact ab_invv' hG 36 [some (.inr (21, 0)), some (.inl x1), some (.inl x2), some (.inl xs0), none, none] [(.inl 12), (.inl x2)] [(.inl xs0)] S 0 99 _ 2 1 0 _ (21, 0) dX6_areAlike_36 rfl rfl rfl rfl (by decide) (by decide) h
theorem bl_X6_areAlike_39 {Q : ab_Po} {G : ab_Gt} (hG : ab_Cl M_X6_areAlike Q G) (x1 : Int32) (x2 : Int32) (x3 : Int32) (xs0 : Int32) (xs1 : Int32) (S : ab_S) (h : (xs1 = xs0 → G 52 [some (.inr (21, 0)), some (.inl x1), some (.inl x2), some (.inl x3), some (.inl 1), some (.inl 0)] [] S 0) ∧ (¬ xs1 = xs0 → G 52 [some (.inr (21, 0)), some (.inl x1), some (.inl x2), some (.inl x3), some (.inl 0), some (.inl 0)] [] S 0)) : G 39 [some (.inr (21, 0)), some (.inl x1), some (.inl x2), some (.inl x3), none, none] [(.inl xs0), (.inl xs1)] S 0 := by
  refine ab_icmp_ne' hG 39 _ _ _ _ (7) 46 _ _ dX6_areAlike_39 (by decide) (fun hc => ?_) (fun hc => ?_)
  · have h := h.2 hc
    refine ab_iconst' hG 46 _ _ _ _ 0 0 dX6_areAlike_46 (by decide) ?_
    refine ab_istore' hG 47 _ _ _ _ 4 _ dX6_areAlike_47 (by decide) ?_
    refine ab_iconst' hG 49 _ _ _ _ 0 0 dX6_areAlike_49 (by decide) ?_
    refine ab_istore' hG 50 _ _ _ _ 5 _ dX6_areAlike_50 (by decide) ?_
    exact h
  · have h := h.1 hc
    refine ab_iconst' hG 42 _ _ _ _ 1 1 dX6_areAlike_42 (by decide) ?_
    refine ab_goto' hG 43 _ _ _ _ (4) 47 dX6_areAlike_43 (by decide) ?_
    refine ab_istore' hG 47 _ _ _ _ 4 _ dX6_areAlike_47 (by decide) ?_
    refine ab_iconst' hG 49 _ _ _ _ 0 0 dX6_areAlike_49 (by decide) ?_
    refine ab_istore' hG 50 _ _ _ _ 5 _ dX6_areAlike_50 (by decide) ?_
    exact h
theorem bl_X6_areAlike_52 {Q : ab_Po} {G : ab_Gt} (hG : ab_Cl M_X6_areAlike Q G) (x1 : Int32) (x2 : Int32) (x3 : Int32) (x4 : Int32) (x5 : Int32) (S : ab_S) (h : (x3 ≤ x5 → (x4 = 0 ∨ x4 = 1) ∧ Q (.inl (some x4)) S) ∧ (¬ x3 ≤ x5 → (x4 = 0 → (x4 = 0 ∨ x4 = 1) ∧ Q (.inl (some x4)) S) ∧ (¬ x4 = 0 → Sp_X6_childAt [(.inr (21, 0)), (.inl 12), (.inl x1), (.inl x5)] S (ab_back Q G 76 [some (.inr (21, 0)), some (.inl x1), some (.inl x2), some (.inl x3), some (.inl x4), some (.inl x5)] [(.inr (36, 0))] 0)))) : G 52 [some (.inr (21, 0)), some (.inl x1), some (.inl x2), some (.inl x3), some (.inl x4), some (.inl x5)] [] S 0 := by
  refine ab_iload' hG 52 _ _ _ _ 5 _ dX6_areAlike_52 rfl ?_
  refine ab_iload_n' hG 54 _ _ _ _ 3 _ dX6_areAlike_54 rfl ?_
  refine ab_icmp_ge' hG 55 _ _ _ _ (52) 107 _ _ dX6_areAlike_55 (by decide) (fun hc => ?_) (fun hc => ?_)
  · have h := h.1 hc
    refine ab_iload' hG 107 _ _ _ _ 4 _ dX6_areAlike_107 rfl ?_
    exact ab_ireturn' hG 109 _ _ _ _ dX6_areAlike_109 (Or.inr ⟨rfl, h.1⟩) (by decide) h.2
  · have h := h.2 hc
    refine ab_iload' hG 58 _ _ _ _ 4 _ dX6_areAlike_58 rfl ?_
    refine ab_if_eq' hG 60 _ _ _ _ (47) 107 _ dX6_areAlike_60 (by decide) (fun hc => ?_) (fun hc => ?_)
    · have h := h.1 hc
      refine ab_iload' hG 107 _ _ _ _ 4 _ dX6_areAlike_107 rfl ?_
      exact ab_ireturn' hG 109 _ _ _ _ dX6_areAlike_109 (Or.inr ⟨rfl, h.1⟩) (by decide) h.2
    · have h := h.2 hc
      refine ab_aload_n' hG 63 _ _ _ _ 0 _ dX6_areAlike_63 rfl ?_
      refine ab_gR hG 64 _ _ _ _ 63 21 22 0 (36, 0) dX6_areAlike_64 (List.Mem.tail _ (List.Mem.head _)) rfl ?_
      refine ab_aload_n' hG 67 _ _ _ _ 0 _ dX6_areAlike_67 rfl ?_
      refine ab_bipush' hG 68 _ _ _ _ 12 12 dX6_areAlike_68 (by decide) ?_
      refine ab_iload_n' hG 70 _ _ _ _ 1 _ dX6_areAlike_70 rfl ?_
      refine ab_iload' hG 71 _ _ _ _ 5 _ dX6_areAlike_71 rfl ?_
      exact ab_invv' hG 73 [some (.inr (21, 0)), some (.inl x1), some (.inl x2), some (.inl x3), some (.inl x4), some (.inl x5)] [(.inl 12), (.inl x1), (.inl x5)] [(.inr (36, 0))] S 0 103 _ 3 1 0 _ (21, 0) dX6_areAlike_73 rfl rfl rfl rfl (by decide) (by decide) h
theorem bl_X6_areAlike_76 {Q : ab_Po} {G : ab_Gt} (hG : ab_Cl M_X6_areAlike Q G) (x1 : Int32) (x2 : Int32) (x3 : Int32) (x4 : Int32) (x5 : Int32) (xs0 : Int32) (S : ab_S) (h : vp_in xs0 24 ∧ Sp_X6_childAt [(.inr (21, 0)), (.inl 12), (.inl x2), (.inl x5)] S (ab_back Q G 90 [some (.inr (21, 0)), some (.inl x1), some (.inl x2), some (.inl x3), some (.inl x4), some (.inl x5)] [(.inr (36, 0)), (.inl (S 36 0 xs0.toNatClampNeg))] 0)) : G 76 [some (.inr (21, 0)), some (.inl x1), some (.inl x2), some (.inl x3), some (.inl x4), some (.inl x5)] [(.inl xs0), (.inr (36, 0))] S 0 := by
  refine ab_iaload' hG 76 _ _ _ _ 36 0 24 _ dX6_areAlike_76 rfl h.1 ?_
  have h := h.2
  refine ab_aload_n' hG 77 _ _ _ _ 0 _ dX6_areAlike_77 rfl ?_
  refine ab_gR hG 78 _ _ _ _ 63 21 22 0 (36, 0) dX6_areAlike_78 (List.Mem.tail _ (List.Mem.head _)) rfl ?_
  refine ab_aload_n' hG 81 _ _ _ _ 0 _ dX6_areAlike_81 rfl ?_
  refine ab_bipush' hG 82 _ _ _ _ 12 12 dX6_areAlike_82 (by decide) ?_
  refine ab_iload_n' hG 84 _ _ _ _ 2 _ dX6_areAlike_84 rfl ?_
  refine ab_iload' hG 85 _ _ _ _ 5 _ dX6_areAlike_85 rfl ?_
  exact ab_invv' hG 87 [some (.inr (21, 0)), some (.inl x1), some (.inl x2), some (.inl x3), some (.inl x4), some (.inl x5)] [(.inl 12), (.inl x2), (.inl x5)] [(.inr (36, 0)), (.inl (S 36 0 xs0.toNatClampNeg))] S 0 103 _ 3 1 0 _ (21, 0) dX6_areAlike_87 rfl rfl rfl rfl (by decide) (by decide) h
theorem bl_X6_areAlike_90 {Q : ab_Po} {G : ab_Gt} (hG : ab_Cl M_X6_areAlike Q G) (x1 : Int32) (x2 : Int32) (x3 : Int32) (x4 : Int32) (x5 : Int32) (xs0 : Int32) (xs2 : Int32) (S : ab_S) (h : vp_in xs0 24 ∧ (xs2 = (S 36 0 xs0.toNatClampNeg) → G 52 [some (.inr (21, 0)), some (.inl x1), some (.inl x2), some (.inl x3), some (.inl 1), some (.inl (x5 + 1))] [] S 0) ∧ (¬ xs2 = (S 36 0 xs0.toNatClampNeg) → G 52 [some (.inr (21, 0)), some (.inl x1), some (.inl x2), some (.inl x3), some (.inl 0), some (.inl (x5 + 1))] [] S 0)) : G 90 [some (.inr (21, 0)), some (.inl x1), some (.inl x2), some (.inl x3), some (.inl x4), some (.inl x5)] [(.inl xs0), (.inr (36, 0)), (.inl xs2)] S 0 := by
  refine ab_iaload' hG 90 _ _ _ _ 36 0 24 _ dX6_areAlike_90 rfl h.1 ?_
  have h := h.2
  refine ab_icmp_ne' hG 91 _ _ _ _ (7) 98 _ _ dX6_areAlike_91 (by decide) (fun hc => ?_) (fun hc => ?_)
  · have h := h.2 hc
    refine ab_iconst' hG 98 _ _ _ _ 0 0 dX6_areAlike_98 (by decide) ?_
    refine ab_istore' hG 99 _ _ _ _ 4 _ dX6_areAlike_99 (by decide) ?_
    refine ab_iinc' hG 101 _ _ _ _ 5 1 x5 (x5 + 1) dX6_areAlike_101 rfl rfl ?_
    refine ab_goto' hG 104 _ _ _ _ (-52) 52 dX6_areAlike_104 (by decide) ?_
    exact h
  · have h := h.1 hc
    refine ab_iconst' hG 94 _ _ _ _ 1 1 dX6_areAlike_94 (by decide) ?_
    refine ab_goto' hG 95 _ _ _ _ (4) 99 dX6_areAlike_95 (by decide) ?_
    refine ab_istore' hG 99 _ _ _ _ 4 _ dX6_areAlike_99 (by decide) ?_
    refine ab_iinc' hG 101 _ _ _ _ 5 1 x5 (x5 + 1) dX6_areAlike_101 rfl rfl ?_
    refine ab_goto' hG 104 _ _ _ _ (-52) 52 dX6_areAlike_104 (by decide) ?_
    exact h
theorem bl_X6_alike_0 {Q : ab_Po} {G : ab_Gt} (hG : ab_Cl M_X6_alike Q G) (x1 : Int32) (S : ab_S) (h : Sp_X6_has [(.inr (21, 0)), (.inl 12), (.inl x1)] S (ab_back Q G 8 [some (.inr (21, 0)), some (.inl x1), none, none, none] [(.inr (21, 0))] 0)) : G 0 [some (.inr (21, 0)), some (.inl x1), none, none, none] [] S 0 := by
  refine ab_aload_n' hG 0 _ _ _ _ 0 _ dX6_alike_0 rfl ?_
  refine ab_aload_n' hG 1 _ _ _ _ 0 _ dX6_alike_1 rfl ?_
  refine ab_bipush' hG 2 _ _ _ _ 12 12 dX6_alike_2 (by decide) ?_
  refine ab_iload_n' hG 4 _ _ _ _ 1 _ dX6_alike_4 rfl ?_
  exact ab_invv' hG 5 [some (.inr (21, 0)), some (.inl x1), none, none, none] [(.inl 12), (.inl x1)] [(.inr (21, 0))] S 0 107 _ 2 1 0 _ (21, 0) dX6_alike_5 rfl rfl rfl rfl (by decide) (by decide) h
theorem bl_X6_alike_8 {Q : ab_Po} {G : ab_Gt} (hG : ab_Cl M_X6_alike Q G) (x1 : Int32) (xs0 : Int32) (S : ab_S) (h : (xs0 = 0 → (((ab_su S 21 0 0 1) 21 0 0) ≤ 0 → Sp_X6_walk [(.inr (21, 0)), (.inl 12)] (ab_su S 21 0 0 1) (ab_back Q G 34 [some (.inr (21, 0)), some (.inl x1), none, none, none] [] 0)) ∧ (¬ ((ab_su S 21 0 0 1) 21 0 0) ≤ 0 → Q (.inl (some 0)) (ab_su S 21 0 0 1))) ∧ (¬ xs0 = 0 → (((ab_su S 21 0 0 0) 21 0 0) ≤ 0 → Sp_X6_walk [(.inr (21, 0)), (.inl 12)] (ab_su S 21 0 0 0) (ab_back Q G 34 [some (.inr (21, 0)), some (.inl x1), none, none, none] [] 0)) ∧ (¬ ((ab_su S 21 0 0 0) 21 0 0) ≤ 0 → Q (.inl (some 0)) (ab_su S 21 0 0 0)))) : G 8 [some (.inr (21, 0)), some (.inl x1), none, none, none] [(.inl xs0), (.inr (21, 0))] S 0 := by
  refine ab_if_eq' hG 8 _ _ _ _ (7) 15 _ dX6_alike_8 (by decide) (fun hc => ?_) (fun hc => ?_)
  · have h := h.1 hc
    refine ab_iconst' hG 15 _ _ _ _ 1 1 dX6_alike_15 (by decide) ?_
    refine ab_putfield' hG 16 _ _ _ _ 82 21 0 0 _ dX6_alike_16 (List.Mem.head _) ?_
    refine ab_aload_n' hG 19 _ _ _ _ 0 _ dX6_alike_19 rfl ?_
    refine ab_gI hG 20 _ _ _ _ 82 21 0 0 dX6_alike_20 (List.Mem.head _) rfl ?_
    refine ab_if_le' hG 23 _ _ _ _ (5) 28 _ dX6_alike_23 (by decide) (fun hc => ?_) (fun hc => ?_)
    · have h := h.1 hc
      refine ab_aload_n' hG 28 _ _ _ _ 0 _ dX6_alike_28 rfl ?_
      refine ab_bipush' hG 29 _ _ _ _ 12 12 dX6_alike_29 (by decide) ?_
      exact ab_invv' hG 31 [some (.inr (21, 0)), some (.inl x1), none, none, none] [(.inl 12)] [] (ab_su S 21 0 0 1) 0 114 _ 1 0 0 _ (21, 0) dX6_alike_31 rfl rfl rfl rfl (by decide) (by decide) h
    · have h := h.2 hc
      refine ab_iconst' hG 26 _ _ _ _ 0 0 dX6_alike_26 (by decide) ?_
      exact ab_ireturn' hG 27 _ _ _ _ dX6_alike_27 (Or.inl rfl) (by decide) h
  · have h := h.2 hc
    refine ab_iconst' hG 11 _ _ _ _ 0 0 dX6_alike_11 (by decide) ?_
    refine ab_goto' hG 12 _ _ _ _ (4) 16 dX6_alike_12 (by decide) ?_
    refine ab_putfield' hG 16 _ _ _ _ 82 21 0 0 _ dX6_alike_16 (List.Mem.head _) ?_
    refine ab_aload_n' hG 19 _ _ _ _ 0 _ dX6_alike_19 rfl ?_
    refine ab_gI hG 20 _ _ _ _ 82 21 0 0 dX6_alike_20 (List.Mem.head _) rfl ?_
    refine ab_if_le' hG 23 _ _ _ _ (5) 28 _ dX6_alike_23 (by decide) (fun hc => ?_) (fun hc => ?_)
    · have h := h.1 hc
      refine ab_aload_n' hG 28 _ _ _ _ 0 _ dX6_alike_28 rfl ?_
      refine ab_bipush' hG 29 _ _ _ _ 12 12 dX6_alike_29 (by decide) ?_
      exact ab_invv' hG 31 [some (.inr (21, 0)), some (.inl x1), none, none, none] [(.inl 12)] [] (ab_su S 21 0 0 0) 0 114 _ 1 0 0 _ (21, 0) dX6_alike_31 rfl rfl rfl rfl (by decide) (by decide) h
    · have h := h.2 hc
      refine ab_iconst' hG 26 _ _ _ _ 0 0 dX6_alike_26 (by decide) ?_
      exact ab_ireturn' hG 27 _ _ _ _ dX6_alike_27 (Or.inl rfl) (by decide) h
theorem bl_X6_alike_34 {Q : ab_Po} {G : ab_Gt} (hG : ab_Cl M_X6_alike Q G) (x1 : Int32) (S : ab_S) (h : G 41 [some (.inr (21, 0)), some (.inl x1), some (.inl ((S 21 0 18) - 1)), none, none] [] S 0) : G 34 [some (.inr (21, 0)), some (.inl x1), none, none, none] [] S 0 := by
  refine ab_aload_n' hG 34 _ _ _ _ 0 _ dX6_alike_34 rfl ?_
  refine ab_gI hG 35 _ _ _ _ 93 21 18 0 dX6_alike_35 (List.Mem.tail _ (List.Mem.head _)) rfl ?_
  refine ab_iconst' hG 38 _ _ _ _ 1 1 dX6_alike_38 (by decide) ?_
  refine ab_isub' hG 39 _ _ _ _ _ _ dX6_alike_39 ?_
  refine ab_istore_n' hG 40 _ _ _ _ 2 _ dX6_alike_40 (by decide) ?_
  exact h
theorem bl_X6_alike_41 {Q : ab_Po} {G : ab_Gt} (hG : ab_Cl M_X6_alike Q G) (x1 : Int32) (x2 : Int32) (S : ab_S) (h : (x2 < 0 → G 134 [some (.inr (21, 0)), some (.inl x1), some (.inl 0), none, none] [] S 0) ∧ (¬ x2 < 0 → vp_in x2 24 ∧ vp_in (S 34 0 x2.toNatClampNeg) 24 ∧ G 67 [some (.inr (21, 0)), some (.inl x1), some (.inl x2), some (.inl (S 34 0 x2.toNatClampNeg)), some (.inl (((ab_su S 36 0 (S 34 0 x2.toNatClampNeg).toNatClampNeg (S 34 0 x2.toNatClampNeg)) 21 0 18) - 1))] [] (ab_su S 36 0 (S 34 0 x2.toNatClampNeg).toNatClampNeg (S 34 0 x2.toNatClampNeg)) 0)) : G 41 [some (.inr (21, 0)), some (.inl x1), some (.inl x2), none, none] [] S 0 := by
  refine ab_iload_n' hG 41 _ _ _ _ 2 _ dX6_alike_41 rfl ?_
  refine ab_if_lt' hG 42 _ _ _ _ (90) 132 _ dX6_alike_42 (by decide) (fun hc => ?_) (fun hc => ?_)
  · have h := h.1 hc
    refine ab_iconst' hG 132 _ _ _ _ 0 0 dX6_alike_132 (by decide) ?_
    refine ab_istore_n' hG 133 _ _ _ _ 2 _ dX6_alike_133 (by decide) ?_
    exact h
  · have h := h.2 hc
    refine ab_aload_n' hG 45 _ _ _ _ 0 _ dX6_alike_45 rfl ?_
    refine ab_gR hG 46 _ _ _ _ 57 21 19 0 (34, 0) dX6_alike_46 (List.Mem.tail _ (List.Mem.tail _ (List.Mem.head _))) rfl ?_
    refine ab_iload_n' hG 49 _ _ _ _ 2 _ dX6_alike_49 rfl ?_
    refine ab_iaload' hG 50 _ _ _ _ 34 0 24 _ dX6_alike_50 rfl h.1 ?_
    have h := h.2
    refine ab_istore_n' hG 51 _ _ _ _ 3 _ dX6_alike_51 (by decide) ?_
    refine ab_aload_n' hG 52 _ _ _ _ 0 _ dX6_alike_52 rfl ?_
    refine ab_gR hG 53 _ _ _ _ 63 21 22 0 (36, 0) dX6_alike_53 (List.Mem.tail _ (List.Mem.tail _ (List.Mem.tail _ (List.Mem.head _)))) rfl ?_
    refine ab_iload_n' hG 56 _ _ _ _ 3 _ dX6_alike_56 rfl ?_
    refine ab_iload_n' hG 57 _ _ _ _ 3 _ dX6_alike_57 rfl ?_
    refine ab_iastore' hG 58 _ _ _ _ 36 0 24 _ _ dX6_alike_58 rfl h.1 ?_
    have h := h.2
    refine ab_aload_n' hG 59 _ _ _ _ 0 _ dX6_alike_59 rfl ?_
    refine ab_gI hG 60 _ _ _ _ 93 21 18 0 dX6_alike_60 (List.Mem.tail _ (List.Mem.head _)) rfl ?_
    refine ab_iconst' hG 63 _ _ _ _ 1 1 dX6_alike_63 (by decide) ?_
    refine ab_isub' hG 64 _ _ _ _ _ _ dX6_alike_64 ?_
    refine ab_istore' hG 65 _ _ _ _ 4 _ dX6_alike_65 (by decide) ?_
    exact h
theorem bl_X6_alike_67 {Q : ab_Po} {G : ab_Gt} (hG : ab_Cl M_X6_alike Q G) (x1 : Int32) (x2 : Int32) (x3 : Int32) (x4 : Int32) (S : ab_S) (h : (x4 ≤ x2 → G 41 [some (.inr (21, 0)), some (.inl x1), some (.inl (x2 + (-1))), none, none] [] S 0) ∧ (¬ x4 ≤ x2 → vp_in x3 24 ∧ ((S 36 0 x3.toNatClampNeg) = x3 → vp_in x4 24 ∧ Sp_X6_areAlike [(.inr (21, 0)), (.inl x3), (.inl (S 34 0 x4.toNatClampNeg))] S (ab_back Q G 100 [some (.inr (21, 0)), some (.inl x1), some (.inl x2), some (.inl x3), some (.inl x4)] [(.inl x3), (.inr (36, 0))] 0)) ∧ (¬ (S 36 0 x3.toNatClampNeg) = x3 → G 41 [some (.inr (21, 0)), some (.inl x1), some (.inl (x2 + (-1))), none, none] [] S 0))) : G 67 [some (.inr (21, 0)), some (.inl x1), some (.inl x2), some (.inl x3), some (.inl x4)] [] S 0 := by
  refine ab_iload' hG 67 _ _ _ _ 4 _ dX6_alike_67 rfl ?_
  refine ab_iload_n' hG 69 _ _ _ _ 2 _ dX6_alike_69 rfl ?_
  refine ab_icmp_le' hG 70 _ _ _ _ (56) 126 _ _ dX6_alike_70 (by decide) (fun hc => ?_) (fun hc => ?_)
  · have h := h.1 hc
    refine ab_iinc' hG 126 _ _ _ _ 2 (-1) x2 (x2 + (-1)) dX6_alike_126 rfl rfl ?_
    refine ab_goto' hG 129 _ _ _ _ (-88) 41 dX6_alike_129 (by decide) ?_
    refine ab_forget' hG _ _ _ _ _ 3 ?_
    refine ab_forget' hG _ _ _ _ _ 4 ?_
    exact h
  · have h := h.2 hc
    refine ab_aload_n' hG 73 _ _ _ _ 0 _ dX6_alike_73 rfl ?_
    refine ab_gR hG 74 _ _ _ _ 63 21 22 0 (36, 0) dX6_alike_74 (List.Mem.tail _ (List.Mem.tail _ (List.Mem.tail _ (List.Mem.head _)))) rfl ?_
    refine ab_iload_n' hG 77 _ _ _ _ 3 _ dX6_alike_77 rfl ?_
    refine ab_iaload' hG 78 _ _ _ _ 36 0 24 _ dX6_alike_78 rfl h.1 ?_
    have h := h.2
    refine ab_iload_n' hG 79 _ _ _ _ 3 _ dX6_alike_79 rfl ?_
    refine ab_icmp_ne' hG 80 _ _ _ _ (46) 126 _ _ dX6_alike_80 (by decide) (fun hc => ?_) (fun hc => ?_)
    · have h := h.2 hc
      refine ab_iinc' hG 126 _ _ _ _ 2 (-1) x2 (x2 + (-1)) dX6_alike_126 rfl rfl ?_
      refine ab_goto' hG 129 _ _ _ _ (-88) 41 dX6_alike_129 (by decide) ?_
      refine ab_forget' hG _ _ _ _ _ 3 ?_
      refine ab_forget' hG _ _ _ _ _ 4 ?_
      exact h
    · have h := h.1 hc
      refine ab_aload_n' hG 83 _ _ _ _ 0 _ dX6_alike_83 rfl ?_
      refine ab_gR hG 84 _ _ _ _ 63 21 22 0 (36, 0) dX6_alike_84 (List.Mem.tail _ (List.Mem.tail _ (List.Mem.tail _ (List.Mem.head _)))) rfl ?_
      refine ab_iload_n' hG 87 _ _ _ _ 3 _ dX6_alike_87 rfl ?_
      refine ab_aload_n' hG 88 _ _ _ _ 0 _ dX6_alike_88 rfl ?_
      refine ab_iload_n' hG 89 _ _ _ _ 3 _ dX6_alike_89 rfl ?_
      refine ab_aload_n' hG 90 _ _ _ _ 0 _ dX6_alike_90 rfl ?_
      refine ab_gR hG 91 _ _ _ _ 57 21 19 0 (34, 0) dX6_alike_91 (List.Mem.tail _ (List.Mem.tail _ (List.Mem.head _))) rfl ?_
      refine ab_iload' hG 94 _ _ _ _ 4 _ dX6_alike_94 rfl ?_
      refine ab_iaload' hG 96 _ _ _ _ 34 0 24 _ dX6_alike_96 rfl h.1 ?_
      have h := h.2
      exact ab_invv' hG 97 [some (.inr (21, 0)), some (.inl x1), some (.inl x2), some (.inl x3), some (.inl x4)] [(.inl x3), (.inl (S 34 0 x4.toNatClampNeg))] [(.inl x3), (.inr (36, 0))] S 0 184 _ 2 1 0 _ (21, 0) dX6_alike_97 rfl rfl rfl rfl (by decide) (by decide) h
theorem bl_X6_alike_100 {Q : ab_Po} {G : ab_Gt} (hG : ab_Cl M_X6_alike Q G) (x1 : Int32) (x2 : Int32) (x3 : Int32) (x4 : Int32) (xs0 : Int32) (xs1 : Int32) (S : ab_S) (h : (xs0 = 0 → vp_in xs1 24 ∧ G 67 [some (.inr (21, 0)), some (.inl x1), some (.inl x2), some (.inl x3), some (.inl (x4 + (-1)))] [] (ab_su S 36 0 xs1.toNatClampNeg x3) 0) ∧ (¬ xs0 = 0 → vp_in x4 24 ∧ vp_in (S 34 0 x4.toNatClampNeg) 24 ∧ vp_in xs1 24 ∧ G 67 [some (.inr (21, 0)), some (.inl x1), some (.inl x2), some (.inl x3), some (.inl (x4 + (-1)))] [] (ab_su S 36 0 xs1.toNatClampNeg (S 36 0 (S 34 0 x4.toNatClampNeg).toNatClampNeg)) 0)) : G 100 [some (.inr (21, 0)), some (.inl x1), some (.inl x2), some (.inl x3), some (.inl x4)] [(.inl xs0), (.inl xs1), (.inr (36, 0))] S 0 := by
  refine ab_if_eq' hG 100 _ _ _ _ (18) 118 _ dX6_alike_100 (by decide) (fun hc => ?_) (fun hc => ?_)
  · have h := h.1 hc
    refine ab_iload_n' hG 118 _ _ _ _ 3 _ dX6_alike_118 rfl ?_
    refine ab_iastore' hG 119 _ _ _ _ 36 0 24 _ _ dX6_alike_119 rfl h.1 ?_
    have h := h.2
    refine ab_iinc' hG 120 _ _ _ _ 4 (-1) x4 (x4 + (-1)) dX6_alike_120 rfl rfl ?_
    refine ab_goto' hG 123 _ _ _ _ (-56) 67 dX6_alike_123 (by decide) ?_
    exact h
  · have h := h.2 hc
    refine ab_aload_n' hG 103 _ _ _ _ 0 _ dX6_alike_103 rfl ?_
    refine ab_gR hG 104 _ _ _ _ 63 21 22 0 (36, 0) dX6_alike_104 (List.Mem.tail _ (List.Mem.tail _ (List.Mem.tail _ (List.Mem.head _)))) rfl ?_
    refine ab_aload_n' hG 107 _ _ _ _ 0 _ dX6_alike_107 rfl ?_
    refine ab_gR hG 108 _ _ _ _ 57 21 19 0 (34, 0) dX6_alike_108 (List.Mem.tail _ (List.Mem.tail _ (List.Mem.head _))) rfl ?_
    refine ab_iload' hG 111 _ _ _ _ 4 _ dX6_alike_111 rfl ?_
    refine ab_iaload' hG 113 _ _ _ _ 34 0 24 _ dX6_alike_113 rfl h.1 ?_
    have h := h.2
    refine ab_iaload' hG 114 _ _ _ _ 36 0 24 _ dX6_alike_114 rfl h.1 ?_
    have h := h.2
    refine ab_goto' hG 115 _ _ _ _ (4) 119 dX6_alike_115 (by decide) ?_
    refine ab_iastore' hG 119 _ _ _ _ 36 0 24 _ _ dX6_alike_119 rfl h.1 ?_
    have h := h.2
    refine ab_iinc' hG 120 _ _ _ _ 4 (-1) x4 (x4 + (-1)) dX6_alike_120 rfl rfl ?_
    refine ab_goto' hG 123 _ _ _ _ (-56) 67 dX6_alike_123 (by decide) ?_
    exact h
theorem bl_X6_alike_134 {Q : ab_Po} {G : ab_Gt} (hG : ab_Cl M_X6_alike Q G) (x1 : Int32) (x2 : Int32) (S : ab_S) (h : vp_in x2 24 ∧ vp_in (S 34 0 x2.toNatClampNeg) 24 ∧ vp_in x1 24 ∧ ((S 36 0 (S 34 0 x2.toNatClampNeg).toNatClampNeg) = (S 36 0 x1.toNatClampNeg) → vp_in x2 24 ∧ Q (.inl (some (S 34 0 x2.toNatClampNeg))) S) ∧ (¬ (S 36 0 (S 34 0 x2.toNatClampNeg).toNatClampNeg) = (S 36 0 x1.toNatClampNeg) → G 134 [some (.inr (21, 0)), some (.inl x1), some (.inl (x2 + 1)), none, none] [] S 0)) : G 134 [some (.inr (21, 0)), some (.inl x1), some (.inl x2), none, none] [] S 0 := by
  refine ab_aload_n' hG 134 _ _ _ _ 0 _ dX6_alike_134 rfl ?_
  refine ab_gR hG 135 _ _ _ _ 63 21 22 0 (36, 0) dX6_alike_135 (List.Mem.tail _ (List.Mem.tail _ (List.Mem.tail _ (List.Mem.head _)))) rfl ?_
  refine ab_aload_n' hG 138 _ _ _ _ 0 _ dX6_alike_138 rfl ?_
  refine ab_gR hG 139 _ _ _ _ 57 21 19 0 (34, 0) dX6_alike_139 (List.Mem.tail _ (List.Mem.tail _ (List.Mem.head _))) rfl ?_
  refine ab_iload_n' hG 142 _ _ _ _ 2 _ dX6_alike_142 rfl ?_
  refine ab_iaload' hG 143 _ _ _ _ 34 0 24 _ dX6_alike_143 rfl h.1 ?_
  have h := h.2
  refine ab_iaload' hG 144 _ _ _ _ 36 0 24 _ dX6_alike_144 rfl h.1 ?_
  have h := h.2
  refine ab_aload_n' hG 145 _ _ _ _ 0 _ dX6_alike_145 rfl ?_
  refine ab_gR hG 146 _ _ _ _ 63 21 22 0 (36, 0) dX6_alike_146 (List.Mem.tail _ (List.Mem.tail _ (List.Mem.tail _ (List.Mem.head _)))) rfl ?_
  refine ab_iload_n' hG 149 _ _ _ _ 1 _ dX6_alike_149 rfl ?_
  refine ab_iaload' hG 150 _ _ _ _ 36 0 24 _ dX6_alike_150 rfl h.1 ?_
  have h := h.2
  refine ab_icmp_eq' hG 151 _ _ _ _ (9) 160 _ _ dX6_alike_151 (by decide) (fun hc => ?_) (fun hc => ?_)
  · have h := h.1 hc
    refine ab_aload_n' hG 160 _ _ _ _ 0 _ dX6_alike_160 rfl ?_
    refine ab_gR hG 161 _ _ _ _ 57 21 19 0 (34, 0) dX6_alike_161 (List.Mem.tail _ (List.Mem.tail _ (List.Mem.head _))) rfl ?_
    refine ab_iload_n' hG 164 _ _ _ _ 2 _ dX6_alike_164 rfl ?_
    refine ab_iaload' hG 165 _ _ _ _ 34 0 24 _ dX6_alike_165 rfl h.1 ?_
    have h := h.2
    exact ab_ireturn' hG 166 _ _ _ _ dX6_alike_166 (Or.inl rfl) (by decide) h
  · have h := h.2 hc
    refine ab_iinc' hG 154 _ _ _ _ 2 1 x2 (x2 + 1) dX6_alike_154 rfl rfl ?_
    refine ab_goto' hG 157 _ _ _ _ (-23) 134 dX6_alike_157 (by decide) ?_
    exact h
theorem bl_X6_leave_0 {Q : ab_Po} {G : ab_Gt} (hG : ab_Cl M_X6_leave Q G) (x1 : Int32) (x2 : Int32) (S : ab_S) (h : Sp_X6_walk [(.inr (21, 0)), (.inl x1)] S (ab_back Q G 5 [some (.inr (21, 0)), some (.inl x1), some (.inl x2), none, none, none, none] [] 0)) : G 0 [some (.inr (21, 0)), some (.inl x1), some (.inl x2), none, none, none, none] [] S 0 := by
  refine ab_aload_n' hG 0 _ _ _ _ 0 _ dX6_leave_0 rfl ?_
  refine ab_iload_n' hG 1 _ _ _ _ 1 _ dX6_leave_1 rfl ?_
  exact ab_invv' hG 2 [some (.inr (21, 0)), some (.inl x1), some (.inl x2), none, none, none, none] [(.inl x1)] [] S 0 114 _ 1 0 0 _ (21, 0) dX6_leave_2 rfl rfl rfl rfl (by decide) (by decide) h
theorem bl_X6_leave_5 {Q : ab_Po} {G : ab_Gt} (hG : ab_Cl M_X6_leave Q G) (x1 : Int32) (x2 : Int32) (S : ab_S) (h : G 15 [some (.inr (21, 0)), some (.inl x1), some (.inl x2), some (.inl 0), some (.inl 0), none, none] [] (ab_su S 21 0 21 0) 0) : G 5 [some (.inr (21, 0)), some (.inl x1), some (.inl x2), none, none, none, none] [] S 0 := by
  refine ab_iconst' hG 5 _ _ _ _ 0 0 dX6_leave_5 (by decide) ?_
  refine ab_istore_n' hG 6 _ _ _ _ 3 _ dX6_leave_6 (by decide) ?_
  refine ab_aload_n' hG 7 _ _ _ _ 0 _ dX6_leave_7 rfl ?_
  refine ab_iconst' hG 8 _ _ _ _ 0 0 dX6_leave_8 (by decide) ?_
  refine ab_putfield' hG 9 _ _ _ _ 96 21 21 0 _ dX6_leave_9 (List.Mem.head _) ?_
  refine ab_iconst' hG 12 _ _ _ _ 0 0 dX6_leave_12 (by decide) ?_
  refine ab_istore' hG 13 _ _ _ _ 4 _ dX6_leave_13 (by decide) ?_
  exact h
theorem bl_X6_leave_15 {Q : ab_Po} {G : ab_Gt} (hG : ab_Cl M_X6_leave Q G) (x1 : Int32) (x2 : Int32) (x3 : Int32) (x4 : Int32) (S : ab_S) (h : ((S 21 0 18) ≤ x4 → G 121 [some (.inr (21, 0)), some (.inl x1), some (.inl x2), some (.inl x3), some (.inl x4), none, none] [] S 0) ∧ (¬ (S 21 0 18) ≤ x4 → vp_in x4 24 ∧ G 33 [some (.inr (21, 0)), some (.inl x1), some (.inl x2), some (.inl x3), some (.inl x4), some (.inl (S 34 0 x4.toNatClampNeg)), none] [] S 0)) : G 15 [some (.inr (21, 0)), some (.inl x1), some (.inl x2), some (.inl x3), some (.inl x4), none, none] [] S 0 := by
  refine ab_iload' hG 15 _ _ _ _ 4 _ dX6_leave_15 rfl ?_
  refine ab_aload_n' hG 17 _ _ _ _ 0 _ dX6_leave_17 rfl ?_
  refine ab_gI hG 18 _ _ _ _ 93 21 18 0 dX6_leave_18 (List.Mem.head _) rfl ?_
  refine ab_icmp_ge' hG 21 _ _ _ _ (100) 121 _ _ dX6_leave_21 (by decide) (fun hc => ?_) (fun hc => ?_)
  · have h := h.1 hc
    exact h
  · have h := h.2 hc
    refine ab_aload_n' hG 24 _ _ _ _ 0 _ dX6_leave_24 rfl ?_
    refine ab_gR hG 25 _ _ _ _ 57 21 19 0 (34, 0) dX6_leave_25 (List.Mem.tail _ (List.Mem.head _)) rfl ?_
    refine ab_iload' hG 28 _ _ _ _ 4 _ dX6_leave_28 rfl ?_
    refine ab_iaload' hG 30 _ _ _ _ 34 0 24 _ dX6_leave_30 rfl h.1 ?_
    have h := h.2
    refine ab_istore' hG 31 _ _ _ _ 5 _ dX6_leave_31 (by decide) ?_
    exact h
theorem bl_X6_leave_33 {Q : ab_Po} {G : ab_Gt} (hG : ab_Cl M_X6_leave Q G) (x1 : Int32) (x2 : Int32) (x3 : Int32) (x4 : Int32) (x5 : Int32) (S : ab_S) (h : ((S 21 0 21) ≤ 0 → vp_in (S 21 0 21) 24 ∧ G 15 [some (.inr (21, 0)), some (.inl x1), some (.inl x2), some (.inl x3), some (.inl (x4 + 1)), none, none] [] (ab_su (ab_su S 35 0 (S 21 0 21).toNatClampNeg x5) 21 0 21 (((ab_su S 35 0 (S 21 0 21).toNatClampNeg x5) 21 0 21) + 1)) 0) ∧ (¬ (S 21 0 21) ≤ 0 → vp_in ((S 21 0 21) - 1) 24 ∧ Sp_X6_isAt [(.inr (21, 0)), (.inl x1), (.inl x5), (.inl (S 35 0 ((S 21 0 21) - 1).toNatClampNeg))] S (ab_back Q G 58 [some (.inr (21, 0)), some (.inl x1), some (.inl x2), some (.inl x3), some (.inl x4), some (.inl x5), none] [] 0))) : G 33 [some (.inr (21, 0)), some (.inl x1), some (.inl x2), some (.inl x3), some (.inl x4), some (.inl x5), none] [] S 0 := by
  refine ab_aload_n' hG 33 _ _ _ _ 0 _ dX6_leave_33 rfl ?_
  refine ab_gI hG 34 _ _ _ _ 96 21 21 0 dX6_leave_34 (List.Mem.tail _ (List.Mem.tail _ (List.Mem.head _))) rfl ?_
  refine ab_if_le' hG 37 _ _ _ _ (57) 94 _ dX6_leave_37 (by decide) (fun hc => ?_) (fun hc => ?_)
  · have h := h.1 hc
    refine ab_aload_n' hG 94 _ _ _ _ 0 _ dX6_leave_94 rfl ?_
    refine ab_gR hG 95 _ _ _ _ 60 21 20 0 (35, 0) dX6_leave_95 (List.Mem.tail _ (List.Mem.tail _ (List.Mem.tail _ (List.Mem.head _)))) rfl ?_
    refine ab_aload_n' hG 98 _ _ _ _ 0 _ dX6_leave_98 rfl ?_
    refine ab_gI hG 99 _ _ _ _ 96 21 21 0 dX6_leave_99 (List.Mem.tail _ (List.Mem.tail _ (List.Mem.head _))) rfl ?_
    refine ab_iload' hG 102 _ _ _ _ 5 _ dX6_leave_102 rfl ?_
    refine ab_iastore' hG 104 _ _ _ _ 35 0 24 _ _ dX6_leave_104 rfl h.1 ?_
    have h := h.2
    refine ab_aload_n' hG 105 _ _ _ _ 0 _ dX6_leave_105 rfl ?_
    refine ab_dup' hG 106 _ _ _ _ _ dX6_leave_106 ?_
    refine ab_gI hG 107 _ _ _ _ 96 21 21 0 dX6_leave_107 (List.Mem.tail _ (List.Mem.tail _ (List.Mem.head _))) rfl ?_
    refine ab_iconst' hG 110 _ _ _ _ 1 1 dX6_leave_110 (by decide) ?_
    refine ab_iadd' hG 111 _ _ _ _ _ _ dX6_leave_111 ?_
    refine ab_putfield' hG 112 _ _ _ _ 96 21 21 0 _ dX6_leave_112 (List.Mem.head _) ?_
    refine ab_iinc' hG 115 _ _ _ _ 4 1 x4 (x4 + 1) dX6_leave_115 rfl rfl ?_
    refine ab_goto' hG 118 _ _ _ _ (-103) 15 dX6_leave_118 (by decide) ?_
    refine ab_forget' hG _ _ _ _ _ 5 ?_
    exact h
  · have h := h.2 hc
    refine ab_aload_n' hG 40 _ _ _ _ 0 _ dX6_leave_40 rfl ?_
    refine ab_iload_n' hG 41 _ _ _ _ 1 _ dX6_leave_41 rfl ?_
    refine ab_iload' hG 42 _ _ _ _ 5 _ dX6_leave_42 rfl ?_
    refine ab_aload_n' hG 44 _ _ _ _ 0 _ dX6_leave_44 rfl ?_
    refine ab_gR hG 45 _ _ _ _ 60 21 20 0 (35, 0) dX6_leave_45 (List.Mem.tail _ (List.Mem.tail _ (List.Mem.tail _ (List.Mem.head _)))) rfl ?_
    refine ab_aload_n' hG 48 _ _ _ _ 0 _ dX6_leave_48 rfl ?_
    refine ab_gI hG 49 _ _ _ _ 96 21 21 0 dX6_leave_49 (List.Mem.tail _ (List.Mem.tail _ (List.Mem.head _))) rfl ?_
    refine ab_iconst' hG 52 _ _ _ _ 1 1 dX6_leave_52 (by decide) ?_
    refine ab_isub' hG 53 _ _ _ _ _ _ dX6_leave_53 ?_
    refine ab_iaload' hG 54 _ _ _ _ 35 0 24 _ dX6_leave_54 rfl h.1 ?_
    have h := h.2
    exact ab_invv' hG 55 [some (.inr (21, 0)), some (.inl x1), some (.inl x2), some (.inl x3), some (.inl x4), some (.inl x5), none] [(.inl x1), (.inl x5), (.inl (S 35 0 ((S 21 0 21) - 1).toNatClampNeg))] [] S 0 121 _ 3 1 0 _ (21, 0) dX6_leave_55 rfl rfl rfl rfl (by decide) (by decide) h
theorem bl_X6_leave_58 {Q : ab_Po} {G : ab_Gt} (hG : ab_Cl M_X6_leave Q G) (x1 : Int32) (x2 : Int32) (x3 : Int32) (x4 : Int32) (x5 : Int32) (xs0 : Int32) (S : ab_S) (h : (xs0 = 0 → vp_in ((ab_su S 21 0 21 ((S 21 0 21) - 1)) 21 0 21) 24 ∧ vp_in (x2 + x3) 48 ∧ G 33 [some (.inr (21, 0)), some (.inl x1), some (.inl x2), some (.inl (x3 + 1)), some (.inl x4), some (.inl x5), none] [] (ab_su (ab_su S 21 0 21 ((S 21 0 21) - 1)) 37 0 (x2 + x3).toNatClampNeg ((ab_su S 21 0 21 ((S 21 0 21) - 1)) 35 0 ((ab_su S 21 0 21 ((S 21 0 21) - 1)) 21 0 21).toNatClampNeg)) 0) ∧ (¬ xs0 = 0 → vp_in (S 21 0 21) 24 ∧ G 15 [some (.inr (21, 0)), some (.inl x1), some (.inl x2), some (.inl x3), some (.inl (x4 + 1)), none, none] [] (ab_su (ab_su S 35 0 (S 21 0 21).toNatClampNeg x5) 21 0 21 (((ab_su S 35 0 (S 21 0 21).toNatClampNeg x5) 21 0 21) + 1)) 0)) : G 58 [some (.inr (21, 0)), some (.inl x1), some (.inl x2), some (.inl x3), some (.inl x4), some (.inl x5), none] [(.inl xs0)] S 0 := by
  refine ab_if_ne' hG 58 _ _ _ _ (36) 94 _ dX6_leave_58 (by decide) (fun hc => ?_) (fun hc => ?_)
  · have h := h.2 hc
    refine ab_aload_n' hG 94 _ _ _ _ 0 _ dX6_leave_94 rfl ?_
    refine ab_gR hG 95 _ _ _ _ 60 21 20 0 (35, 0) dX6_leave_95 (List.Mem.tail _ (List.Mem.tail _ (List.Mem.tail _ (List.Mem.head _)))) rfl ?_
    refine ab_aload_n' hG 98 _ _ _ _ 0 _ dX6_leave_98 rfl ?_
    refine ab_gI hG 99 _ _ _ _ 96 21 21 0 dX6_leave_99 (List.Mem.tail _ (List.Mem.tail _ (List.Mem.head _))) rfl ?_
    refine ab_iload' hG 102 _ _ _ _ 5 _ dX6_leave_102 rfl ?_
    refine ab_iastore' hG 104 _ _ _ _ 35 0 24 _ _ dX6_leave_104 rfl h.1 ?_
    have h := h.2
    refine ab_aload_n' hG 105 _ _ _ _ 0 _ dX6_leave_105 rfl ?_
    refine ab_dup' hG 106 _ _ _ _ _ dX6_leave_106 ?_
    refine ab_gI hG 107 _ _ _ _ 96 21 21 0 dX6_leave_107 (List.Mem.tail _ (List.Mem.tail _ (List.Mem.head _))) rfl ?_
    refine ab_iconst' hG 110 _ _ _ _ 1 1 dX6_leave_110 (by decide) ?_
    refine ab_iadd' hG 111 _ _ _ _ _ _ dX6_leave_111 ?_
    refine ab_putfield' hG 112 _ _ _ _ 96 21 21 0 _ dX6_leave_112 (List.Mem.head _) ?_
    refine ab_iinc' hG 115 _ _ _ _ 4 1 x4 (x4 + 1) dX6_leave_115 rfl rfl ?_
    refine ab_goto' hG 118 _ _ _ _ (-103) 15 dX6_leave_118 (by decide) ?_
    refine ab_forget' hG _ _ _ _ _ 5 ?_
    exact h
  · have h := h.1 hc
    refine ab_aload_n' hG 61 _ _ _ _ 0 _ dX6_leave_61 rfl ?_
    refine ab_dup' hG 62 _ _ _ _ _ dX6_leave_62 ?_
    refine ab_gI hG 63 _ _ _ _ 96 21 21 0 dX6_leave_63 (List.Mem.tail _ (List.Mem.tail _ (List.Mem.head _))) rfl ?_
    refine ab_iconst' hG 66 _ _ _ _ 1 1 dX6_leave_66 (by decide) ?_
    refine ab_isub' hG 67 _ _ _ _ _ _ dX6_leave_67 ?_
    refine ab_putfield' hG 68 _ _ _ _ 96 21 21 0 _ dX6_leave_68 (List.Mem.head _) ?_
    refine ab_aload_n' hG 71 _ _ _ _ 0 _ dX6_leave_71 rfl ?_
    refine ab_gR hG 72 _ _ _ _ 66 21 23 0 (37, 0) dX6_leave_72 (List.Mem.tail _ (List.Mem.tail _ (List.Mem.tail _ (List.Mem.tail _ (List.Mem.head _))))) rfl ?_
    refine ab_iload_n' hG 75 _ _ _ _ 2 _ dX6_leave_75 rfl ?_
    refine ab_iload_n' hG 76 _ _ _ _ 3 _ dX6_leave_76 rfl ?_
    refine ab_iadd' hG 77 _ _ _ _ _ _ dX6_leave_77 ?_
    refine ab_aload_n' hG 78 _ _ _ _ 0 _ dX6_leave_78 rfl ?_
    refine ab_gR hG 79 _ _ _ _ 60 21 20 0 (35, 0) dX6_leave_79 (List.Mem.tail _ (List.Mem.tail _ (List.Mem.tail _ (List.Mem.head _)))) rfl ?_
    refine ab_aload_n' hG 82 _ _ _ _ 0 _ dX6_leave_82 rfl ?_
    refine ab_gI hG 83 _ _ _ _ 96 21 21 0 dX6_leave_83 (List.Mem.tail _ (List.Mem.tail _ (List.Mem.head _))) rfl ?_
    refine ab_iaload' hG 86 _ _ _ _ 35 0 24 _ dX6_leave_86 rfl h.1 ?_
    have h := h.2
    refine ab_iastore' hG 87 _ _ _ _ 37 0 48 _ _ dX6_leave_87 rfl h.1 ?_
    have h := h.2
    refine ab_iinc' hG 88 _ _ _ _ 3 1 x3 (x3 + 1) dX6_leave_88 rfl rfl ?_
    refine ab_goto' hG 91 _ _ _ _ (-58) 33 dX6_leave_91 (by decide) ?_
    exact h
theorem bl_X6_leave_121 {Q : ab_Po} {G : ab_Gt} (hG : ab_Cl M_X6_leave Q G) (x1 : Int32) (x2 : Int32) (x3 : Int32) (x4 : Int32) (S : ab_S) (h : ((S 21 0 21) ≤ 0 → G 164 [some (.inr (21, 0)), some (.inl x1), some (.inl x2), some (.inl x3), some (.inl 0), none, none] [] S 0) ∧ (¬ (S 21 0 21) ≤ 0 → vp_in ((ab_su S 21 0 21 ((S 21 0 21) - 1)) 21 0 21) 24 ∧ vp_in (x2 + x3) 48 ∧ G 121 [some (.inr (21, 0)), some (.inl x1), some (.inl x2), some (.inl (x3 + 1)), some (.inl x4), none, none] [] (ab_su (ab_su S 21 0 21 ((S 21 0 21) - 1)) 37 0 (x2 + x3).toNatClampNeg ((ab_su S 21 0 21 ((S 21 0 21) - 1)) 35 0 ((ab_su S 21 0 21 ((S 21 0 21) - 1)) 21 0 21).toNatClampNeg)) 0)) : G 121 [some (.inr (21, 0)), some (.inl x1), some (.inl x2), some (.inl x3), some (.inl x4), none, none] [] S 0 := by
  refine ab_aload_n' hG 121 _ _ _ _ 0 _ dX6_leave_121 rfl ?_
  refine ab_gI hG 122 _ _ _ _ 96 21 21 0 dX6_leave_122 (List.Mem.tail _ (List.Mem.tail _ (List.Mem.head _))) rfl ?_
  refine ab_if_le' hG 125 _ _ _ _ (36) 161 _ dX6_leave_125 (by decide) (fun hc => ?_) (fun hc => ?_)
  · have h := h.1 hc
    refine ab_iconst' hG 161 _ _ _ _ 0 0 dX6_leave_161 (by decide) ?_
    refine ab_istore' hG 162 _ _ _ _ 4 _ dX6_leave_162 (by decide) ?_
    exact h
  · have h := h.2 hc
    refine ab_aload_n' hG 128 _ _ _ _ 0 _ dX6_leave_128 rfl ?_
    refine ab_dup' hG 129 _ _ _ _ _ dX6_leave_129 ?_
    refine ab_gI hG 130 _ _ _ _ 96 21 21 0 dX6_leave_130 (List.Mem.tail _ (List.Mem.tail _ (List.Mem.head _))) rfl ?_
    refine ab_iconst' hG 133 _ _ _ _ 1 1 dX6_leave_133 (by decide) ?_
    refine ab_isub' hG 134 _ _ _ _ _ _ dX6_leave_134 ?_
    refine ab_putfield' hG 135 _ _ _ _ 96 21 21 0 _ dX6_leave_135 (List.Mem.head _) ?_
    refine ab_aload_n' hG 138 _ _ _ _ 0 _ dX6_leave_138 rfl ?_
    refine ab_gR hG 139 _ _ _ _ 66 21 23 0 (37, 0) dX6_leave_139 (List.Mem.tail _ (List.Mem.tail _ (List.Mem.tail _ (List.Mem.tail _ (List.Mem.head _))))) rfl ?_
    refine ab_iload_n' hG 142 _ _ _ _ 2 _ dX6_leave_142 rfl ?_
    refine ab_iload_n' hG 143 _ _ _ _ 3 _ dX6_leave_143 rfl ?_
    refine ab_iadd' hG 144 _ _ _ _ _ _ dX6_leave_144 ?_
    refine ab_aload_n' hG 145 _ _ _ _ 0 _ dX6_leave_145 rfl ?_
    refine ab_gR hG 146 _ _ _ _ 60 21 20 0 (35, 0) dX6_leave_146 (List.Mem.tail _ (List.Mem.tail _ (List.Mem.tail _ (List.Mem.head _)))) rfl ?_
    refine ab_aload_n' hG 149 _ _ _ _ 0 _ dX6_leave_149 rfl ?_
    refine ab_gI hG 150 _ _ _ _ 96 21 21 0 dX6_leave_150 (List.Mem.tail _ (List.Mem.tail _ (List.Mem.head _))) rfl ?_
    refine ab_iaload' hG 153 _ _ _ _ 35 0 24 _ dX6_leave_153 rfl h.1 ?_
    have h := h.2
    refine ab_iastore' hG 154 _ _ _ _ 37 0 48 _ _ dX6_leave_154 rfl h.1 ?_
    have h := h.2
    refine ab_iinc' hG 155 _ _ _ _ 3 1 x3 (x3 + 1) dX6_leave_155 rfl rfl ?_
    refine ab_goto' hG 158 _ _ _ _ (-37) 121 dX6_leave_158 (by decide) ?_
    exact h
theorem bl_X6_leave_164 {Q : ab_Po} {G : ab_Gt} (hG : ab_Cl M_X6_leave Q G) (x1 : Int32) (x2 : Int32) (x3 : Int32) (x4 : Int32) (S : ab_S) (h : (x3 ≤ x4 → Q (.inl (some x3)) S) ∧ (¬ x3 ≤ x4 → G 180 [some (.inr (21, 0)), some (.inl x1), some (.inl x2), some (.inl x3), some (.inl x4), some (.inl x4), some (.inl (x4 - 1))] [] S 0)) : G 164 [some (.inr (21, 0)), some (.inl x1), some (.inl x2), some (.inl x3), some (.inl x4), none, none] [] S 0 := by
  refine ab_iload' hG 164 _ _ _ _ 4 _ dX6_leave_164 rfl ?_
  refine ab_iload_n' hG 166 _ _ _ _ 3 _ dX6_leave_166 rfl ?_
  refine ab_icmp_ge' hG 167 _ _ _ _ (76) 243 _ _ dX6_leave_167 (by decide) (fun hc => ?_) (fun hc => ?_)
  · have h := h.1 hc
    refine ab_iload_n' hG 243 _ _ _ _ 3 _ dX6_leave_243 rfl ?_
    exact ab_ireturn' hG 244 _ _ _ _ dX6_leave_244 (Or.inl rfl) (by decide) h
  · have h := h.2 hc
    refine ab_iload' hG 170 _ _ _ _ 4 _ dX6_leave_170 rfl ?_
    refine ab_istore' hG 172 _ _ _ _ 5 _ dX6_leave_172 (by decide) ?_
    refine ab_iload' hG 174 _ _ _ _ 4 _ dX6_leave_174 rfl ?_
    refine ab_iconst' hG 176 _ _ _ _ 1 1 dX6_leave_176 (by decide) ?_
    refine ab_isub' hG 177 _ _ _ _ _ _ dX6_leave_177 ?_
    refine ab_istore' hG 178 _ _ _ _ 6 _ dX6_leave_178 (by decide) ?_
    exact h
theorem bl_X6_leave_180 {Q : ab_Po} {G : ab_Gt} (hG : ab_Cl M_X6_leave Q G) (x1 : Int32) (x2 : Int32) (x3 : Int32) (x4 : Int32) (x5 : Int32) (x6 : Int32) (S : ab_S) (h : (x6 < 0 → vp_in (x2 + x4) 48 ∧ G 164 [some (.inr (21, 0)), some (.inl x1), some (.inl x2), some (.inl x3), some (.inl (x4 + 1)), none, none] [] (ab_su S 38 0 (x2 + x4).toNatClampNeg x5) 0) ∧ (¬ x6 < 0 → vp_in (x2 + x6) 48 ∧ vp_in (x2 + x4) 48 ∧ Sp_X6_isAt [(.inr (21, 0)), (.inl x1), (.inl (S 37 0 (x2 + x6).toNatClampNeg)), (.inl (S 37 0 (x2 + x4).toNatClampNeg))] S (ab_back Q G 208 [some (.inr (21, 0)), some (.inl x1), some (.inl x2), some (.inl x3), some (.inl x4), some (.inl x5), some (.inl x6)] [] 0))) : G 180 [some (.inr (21, 0)), some (.inl x1), some (.inl x2), some (.inl x3), some (.inl x4), some (.inl x5), some (.inl x6)] [] S 0 := by
  refine ab_iload' hG 180 _ _ _ _ 6 _ dX6_leave_180 rfl ?_
  refine ab_if_lt' hG 182 _ _ _ _ (44) 226 _ dX6_leave_182 (by decide) (fun hc => ?_) (fun hc => ?_)
  · have h := h.1 hc
    refine ab_aload_n' hG 226 _ _ _ _ 0 _ dX6_leave_226 rfl ?_
    refine ab_gR hG 227 _ _ _ _ 69 21 24 0 (38, 0) dX6_leave_227 (List.Mem.tail _ (List.Mem.tail _ (List.Mem.tail _ (List.Mem.tail _ (List.Mem.tail _ (List.Mem.head _)))))) rfl ?_
    refine ab_iload_n' hG 230 _ _ _ _ 2 _ dX6_leave_230 rfl ?_
    refine ab_iload' hG 231 _ _ _ _ 4 _ dX6_leave_231 rfl ?_
    refine ab_iadd' hG 233 _ _ _ _ _ _ dX6_leave_233 ?_
    refine ab_iload' hG 234 _ _ _ _ 5 _ dX6_leave_234 rfl ?_
    refine ab_iastore' hG 236 _ _ _ _ 38 0 48 _ _ dX6_leave_236 rfl h.1 ?_
    have h := h.2
    refine ab_iinc' hG 237 _ _ _ _ 4 1 x4 (x4 + 1) dX6_leave_237 rfl rfl ?_
    refine ab_goto' hG 240 _ _ _ _ (-76) 164 dX6_leave_240 (by decide) ?_
    refine ab_forget' hG _ _ _ _ _ 5 ?_
    refine ab_forget' hG _ _ _ _ _ 6 ?_
    exact h
  · have h := h.2 hc
    refine ab_aload_n' hG 185 _ _ _ _ 0 _ dX6_leave_185 rfl ?_
    refine ab_iload_n' hG 186 _ _ _ _ 1 _ dX6_leave_186 rfl ?_
    refine ab_aload_n' hG 187 _ _ _ _ 0 _ dX6_leave_187 rfl ?_
    refine ab_gR hG 188 _ _ _ _ 66 21 23 0 (37, 0) dX6_leave_188 (List.Mem.tail _ (List.Mem.tail _ (List.Mem.tail _ (List.Mem.tail _ (List.Mem.head _))))) rfl ?_
    refine ab_iload_n' hG 191 _ _ _ _ 2 _ dX6_leave_191 rfl ?_
    refine ab_iload' hG 192 _ _ _ _ 6 _ dX6_leave_192 rfl ?_
    refine ab_iadd' hG 194 _ _ _ _ _ _ dX6_leave_194 ?_
    refine ab_iaload' hG 195 _ _ _ _ 37 0 48 _ dX6_leave_195 rfl h.1 ?_
    have h := h.2
    refine ab_aload_n' hG 196 _ _ _ _ 0 _ dX6_leave_196 rfl ?_
    refine ab_gR hG 197 _ _ _ _ 66 21 23 0 (37, 0) dX6_leave_197 (List.Mem.tail _ (List.Mem.tail _ (List.Mem.tail _ (List.Mem.tail _ (List.Mem.head _))))) rfl ?_
    refine ab_iload_n' hG 200 _ _ _ _ 2 _ dX6_leave_200 rfl ?_
    refine ab_iload' hG 201 _ _ _ _ 4 _ dX6_leave_201 rfl ?_
    refine ab_iadd' hG 203 _ _ _ _ _ _ dX6_leave_203 ?_
    refine ab_iaload' hG 204 _ _ _ _ 37 0 48 _ dX6_leave_204 rfl h.1 ?_
    have h := h.2
    exact ab_invv' hG 205 [some (.inr (21, 0)), some (.inl x1), some (.inl x2), some (.inl x3), some (.inl x4), some (.inl x5), some (.inl x6)] [(.inl x1), (.inl (S 37 0 (x2 + x6).toNatClampNeg)), (.inl (S 37 0 (x2 + x4).toNatClampNeg))] [] S 0 121 _ 3 1 0 _ (21, 0) dX6_leave_205 rfl rfl rfl rfl (by decide) (by decide) h
theorem bl_X6_leave_208 {Q : ab_Po} {G : ab_Gt} (hG : ab_Cl M_X6_leave Q G) (x1 : Int32) (x2 : Int32) (x3 : Int32) (x4 : Int32) (x5 : Int32) (x6 : Int32) (xs0 : Int32) (S : ab_S) (h : (xs0 = 0 → G 180 [some (.inr (21, 0)), some (.inl x1), some (.inl x2), some (.inl x3), some (.inl x4), some (.inl x5), some (.inl (x6 + (-1)))] [] S 0) ∧ (¬ xs0 = 0 → G 180 [some (.inr (21, 0)), some (.inl x1), some (.inl x2), some (.inl x3), some (.inl x4), some (.inl x6), some (.inl (x6 + (-1)))] [] S 0)) : G 208 [some (.inr (21, 0)), some (.inl x1), some (.inl x2), some (.inl x3), some (.inl x4), some (.inl x5), some (.inl x6)] [(.inl xs0)] S 0 := by
  refine ab_if_eq' hG 208 _ _ _ _ (8) 216 _ dX6_leave_208 (by decide) (fun hc => ?_) (fun hc => ?_)
  · have h := h.1 hc
    refine ab_iload' hG 216 _ _ _ _ 5 _ dX6_leave_216 rfl ?_
    refine ab_istore' hG 218 _ _ _ _ 5 _ dX6_leave_218 (by decide) ?_
    refine ab_iinc' hG 220 _ _ _ _ 6 (-1) x6 (x6 + (-1)) dX6_leave_220 rfl rfl ?_
    refine ab_goto' hG 223 _ _ _ _ (-43) 180 dX6_leave_223 (by decide) ?_
    exact h
  · have h := h.2 hc
    refine ab_iload' hG 211 _ _ _ _ 6 _ dX6_leave_211 rfl ?_
    refine ab_goto' hG 213 _ _ _ _ (5) 218 dX6_leave_213 (by decide) ?_
    refine ab_istore' hG 218 _ _ _ _ 5 _ dX6_leave_218 (by decide) ?_
    refine ab_iinc' hG 220 _ _ _ _ 6 (-1) x6 (x6 + (-1)) dX6_leave_220 rfl rfl ?_
    refine ab_goto' hG 223 _ _ _ _ (-43) 180 dX6_leave_223 (by decide) ?_
    exact h
