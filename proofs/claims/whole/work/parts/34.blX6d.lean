theorem bl_X6_least_0 {Q : ab_Po} {G : ab_Gt} (hG : ab_Cl M_X6_least Q G) (x0 : Int32) (x1 : Int32) (S : ab_S) (h : (x1 ≤ x0 → Q (.inl (some x1)) S) ∧ (¬ x1 ≤ x0 → Q (.inl (some x0)) S)) : G 0 [some (.inl x0), some (.inl x1)] [] S 0 := by
  refine ab_iload_n' hG 0 _ _ _ _ 0 _ dX6_least_0 rfl ?_
  refine ab_iload_n' hG 1 _ _ _ _ 1 _ dX6_least_1 rfl ?_
  refine ab_icmp_ge' hG 2 _ _ _ _ (7) 9 _ _ dX6_least_2 (by decide) (fun hc => ?_) (fun hc => ?_)
  · have h := h.1 hc
    refine ab_iload_n' hG 9 _ _ _ _ 1 _ dX6_least_9 rfl ?_
    exact ab_ireturn' hG 10 _ _ _ _ dX6_least_10 (Or.inl rfl) (by decide) h
  · have h := h.2 hc
    refine ab_iload_n' hG 5 _ _ _ _ 0 _ dX6_least_5 rfl ?_
    refine ab_goto' hG 6 _ _ _ _ (4) 10 dX6_least_6 (by decide) ?_
    exact ab_ireturn' hG 10 _ _ _ _ dX6_least_10 (Or.inl rfl) (by decide) h
theorem bl_X6_compare_0 {Q : ab_Po} {G : ab_Gt} (hG : ab_Cl M_X6_compare Q G) (x1 : Int32) (x2 : Int32) (x3 : Int32) (x4 : Int32) (S : ab_S) (h : vp_in x3 48 ∧ vp_in (24 + x4) 48 ∧ G 26 [some (.inr (21, 0)), some (.inl x1), some (.inl x2), some (.inl x3), some (.inl x4), some (.inl (S 38 0 x3.toNatClampNeg)), some (.inl (S 38 0 (24 + x4).toNatClampNeg)), some (.inl ((S 38 0 x3.toNatClampNeg) - 1)), none, none, none, none] [] S 0) : G 0 [some (.inr (21, 0)), some (.inl x1), some (.inl x2), some (.inl x3), some (.inl x4), none, none, none, none, none, none, none] [] S 0 := by
  refine ab_aload_n' hG 0 _ _ _ _ 0 _ dX6_compare_0 rfl ?_
  refine ab_gR hG 1 _ _ _ _ 69 21 24 0 (38, 0) dX6_compare_1 (List.Mem.head _) rfl ?_
  refine ab_iload_n' hG 4 _ _ _ _ 3 _ dX6_compare_4 rfl ?_
  refine ab_iaload' hG 5 _ _ _ _ 38 0 48 _ dX6_compare_5 rfl h.1 ?_
  have h := h.2
  refine ab_istore' hG 6 _ _ _ _ 5 _ dX6_compare_6 (by decide) ?_
  refine ab_aload_n' hG 8 _ _ _ _ 0 _ dX6_compare_8 rfl ?_
  refine ab_gR hG 9 _ _ _ _ 69 21 24 0 (38, 0) dX6_compare_9 (List.Mem.head _) rfl ?_
  refine ab_bipush' hG 12 _ _ _ _ 24 24 dX6_compare_12 (by decide) ?_
  refine ab_iload' hG 14 _ _ _ _ 4 _ dX6_compare_14 rfl ?_
  refine ab_iadd' hG 16 _ _ _ _ _ _ dX6_compare_16 ?_
  refine ab_iaload' hG 17 _ _ _ _ 38 0 48 _ dX6_compare_17 rfl h.1 ?_
  have h := h.2
  refine ab_istore' hG 18 _ _ _ _ 6 _ dX6_compare_18 (by decide) ?_
  refine ab_iload' hG 20 _ _ _ _ 5 _ dX6_compare_20 rfl ?_
  refine ab_iconst' hG 22 _ _ _ _ 1 1 dX6_compare_22 (by decide) ?_
  refine ab_isub' hG 23 _ _ _ _ _ _ dX6_compare_23 ?_
  refine ab_istore' hG 24 _ _ _ _ 7 _ dX6_compare_24 (by decide) ?_
  exact h
theorem bl_X6_compare_26 {Q : ab_Po} {G : ab_Gt} (hG : ab_Cl M_X6_compare Q G) (x1 : Int32) (x2 : Int32) (x3 : Int32) (x4 : Int32) (x5 : Int32) (x6 : Int32) (x7 : Int32) (S : ab_S) (h : (x3 < x7 → Q (.inl none) S) ∧ (¬ x3 < x7 → G 38 [some (.inr (21, 0)), some (.inl x1), some (.inl x2), some (.inl x3), some (.inl x4), some (.inl x5), some (.inl x6), some (.inl x7), some (.inl (x6 - 1)), none, none, none] [] S 0)) : G 26 [some (.inr (21, 0)), some (.inl x1), some (.inl x2), some (.inl x3), some (.inl x4), some (.inl x5), some (.inl x6), some (.inl x7), none, none, none, none] [] S 0 := by
  refine ab_iload' hG 26 _ _ _ _ 7 _ dX6_compare_26 rfl ?_
  refine ab_iload_n' hG 28 _ _ _ _ 3 _ dX6_compare_28 rfl ?_
  refine ab_icmp_gt' hG 29 _ _ _ _ (291) 320 _ _ dX6_compare_29 (by decide) (fun hc => ?_) (fun hc => ?_)
  · have h := h.1 hc
    exact ab_return_' hG 320 _ _ _ dX6_compare_320 rfl (by decide) h
  · have h := h.2 hc
    refine ab_iload' hG 32 _ _ _ _ 6 _ dX6_compare_32 rfl ?_
    refine ab_iconst' hG 34 _ _ _ _ 1 1 dX6_compare_34 (by decide) ?_
    refine ab_isub' hG 35 _ _ _ _ _ _ dX6_compare_35 ?_
    refine ab_istore' hG 36 _ _ _ _ 8 _ dX6_compare_36 (by decide) ?_
    exact h
theorem bl_X6_compare_38 {Q : ab_Po} {G : ab_Gt} (hG : ab_Cl M_X6_compare Q G) (x1 : Int32) (x2 : Int32) (x3 : Int32) (x4 : Int32) (x5 : Int32) (x6 : Int32) (x7 : Int32) (x8 : Int32) (S : ab_S) (h : (x4 < x8 → G 26 [some (.inr (21, 0)), some (.inl x1), some (.inl x2), some (.inl x3), some (.inl x4), some (.inl x5), some (.inl x6), some (.inl (x7 + 1)), none, none, none, none] [] S 0) ∧ (¬ x4 < x8 → (x7 < x5 → vp_in ((((25 * ((x7 - x5) + 1)) + x8) - x6) + 1) 625 ∧ G 38 [some (.inr (21, 0)), some (.inl x1), some (.inl x2), some (.inl x3), some (.inl x4), some (.inl x5), some (.inl x6), some (.inl x7), some (.inl (x8 + 1)), none, none, none] [] (ab_su S 40 0 ((((25 * ((x7 - x5) + 1)) + x8) - x6) + 1).toNatClampNeg (((((x7 - x5) + 1) + x8) - x6) + 1)) 0) ∧ (¬ x7 < x5 → (x6 ≤ x8 → vp_in (((((25 * ((x7 - x5) + 1)) + x8) - x6) + 1) - 25) 625 ∧ vp_in (((((25 * ((x7 - x5) + 1)) + x8) - x6) + 1) - 1) 625 ∧ Sp_X6_least [(.inl (S 40 0 (((((25 * ((x7 - x5) + 1)) + x8) - x6) + 1) - 25).toNatClampNeg)), (.inl (S 40 0 (((((25 * ((x7 - x5) + 1)) + x8) - x6) + 1) - 1).toNatClampNeg))] S (ab_back Q G 126 [some (.inr (21, 0)), some (.inl x1), some (.inl x2), some (.inl x3), some (.inl x4), some (.inl x5), some (.inl x6), some (.inl x7), some (.inl x8), some (.inl ((((25 * ((x7 - x5) + 1)) + x8) - x6) + 1)), none, none] [] 0)) ∧ (¬ x6 ≤ x8 → vp_in ((((25 * ((x7 - x5) + 1)) + x8) - x6) + 1) 625 ∧ G 38 [some (.inr (21, 0)), some (.inl x1), some (.inl x2), some (.inl x3), some (.inl x4), some (.inl x5), some (.inl x6), some (.inl x7), some (.inl (x8 + 1)), none, none, none] [] (ab_su S 40 0 ((((25 * ((x7 - x5) + 1)) + x8) - x6) + 1).toNatClampNeg (((((x7 - x5) + 1) + x8) - x6) + 1)) 0)))) : G 38 [some (.inr (21, 0)), some (.inl x1), some (.inl x2), some (.inl x3), some (.inl x4), some (.inl x5), some (.inl x6), some (.inl x7), some (.inl x8), none, none, none] [] S 0 := by
  refine ab_iload' hG 38 _ _ _ _ 8 _ dX6_compare_38 rfl ?_
  refine ab_iload' hG 40 _ _ _ _ 4 _ dX6_compare_40 rfl ?_
  refine ab_icmp_gt' hG 42 _ _ _ _ (272) 314 _ _ dX6_compare_42 (by decide) (fun hc => ?_) (fun hc => ?_)
  · have h := h.1 hc
    refine ab_iinc' hG 314 _ _ _ _ 7 1 x7 (x7 + 1) dX6_compare_314 rfl rfl ?_
    refine ab_goto' hG 317 _ _ _ _ (-291) 26 dX6_compare_317 (by decide) ?_
    refine ab_forget' hG _ _ _ _ _ 8 ?_
    exact h
  · have h := h.2 hc
    refine ab_bipush' hG 45 _ _ _ _ 25 25 dX6_compare_45 (by decide) ?_
    refine ab_iload' hG 47 _ _ _ _ 7 _ dX6_compare_47 rfl ?_
    refine ab_iload' hG 49 _ _ _ _ 5 _ dX6_compare_49 rfl ?_
    refine ab_isub' hG 51 _ _ _ _ _ _ dX6_compare_51 ?_
    refine ab_iconst' hG 52 _ _ _ _ 1 1 dX6_compare_52 (by decide) ?_
    refine ab_iadd' hG 53 _ _ _ _ _ _ dX6_compare_53 ?_
    refine ab_imul' hG 54 _ _ _ _ _ _ dX6_compare_54 ?_
    refine ab_iload' hG 55 _ _ _ _ 8 _ dX6_compare_55 rfl ?_
    refine ab_iadd' hG 57 _ _ _ _ _ _ dX6_compare_57 ?_
    refine ab_iload' hG 58 _ _ _ _ 6 _ dX6_compare_58 rfl ?_
    refine ab_isub' hG 60 _ _ _ _ _ _ dX6_compare_60 ?_
    refine ab_iconst' hG 61 _ _ _ _ 1 1 dX6_compare_61 (by decide) ?_
    refine ab_iadd' hG 62 _ _ _ _ _ _ dX6_compare_62 ?_
    refine ab_istore' hG 63 _ _ _ _ 9 _ dX6_compare_63 (by decide) ?_
    refine ab_iload' hG 65 _ _ _ _ 7 _ dX6_compare_65 rfl ?_
    refine ab_iload' hG 67 _ _ _ _ 5 _ dX6_compare_67 rfl ?_
    refine ab_icmp_lt' hG 69 _ _ _ _ (10) 79 _ _ dX6_compare_69 (by decide) (fun hc => ?_) (fun hc => ?_)
    · have h := h.1 hc
      refine ab_aload_n' hG 79 _ _ _ _ 0 _ dX6_compare_79 rfl ?_
      refine ab_gR hG 80 _ _ _ _ 75 21 26 0 (40, 0) dX6_compare_80 (List.Mem.tail _ (List.Mem.head _)) rfl ?_
      refine ab_iload' hG 83 _ _ _ _ 9 _ dX6_compare_83 rfl ?_
      refine ab_iload' hG 85 _ _ _ _ 7 _ dX6_compare_85 rfl ?_
      refine ab_iload' hG 87 _ _ _ _ 5 _ dX6_compare_87 rfl ?_
      refine ab_isub' hG 89 _ _ _ _ _ _ dX6_compare_89 ?_
      refine ab_iconst' hG 90 _ _ _ _ 1 1 dX6_compare_90 (by decide) ?_
      refine ab_iadd' hG 91 _ _ _ _ _ _ dX6_compare_91 ?_
      refine ab_iload' hG 92 _ _ _ _ 8 _ dX6_compare_92 rfl ?_
      refine ab_iadd' hG 94 _ _ _ _ _ _ dX6_compare_94 ?_
      refine ab_iload' hG 95 _ _ _ _ 6 _ dX6_compare_95 rfl ?_
      refine ab_isub' hG 97 _ _ _ _ _ _ dX6_compare_97 ?_
      refine ab_iconst' hG 98 _ _ _ _ 1 1 dX6_compare_98 (by decide) ?_
      refine ab_iadd' hG 99 _ _ _ _ _ _ dX6_compare_99 ?_
      refine ab_iastore' hG 100 _ _ _ _ 40 0 625 _ _ dX6_compare_100 rfl h.1 ?_
      have h := h.2
      refine ab_goto' hG 101 _ _ _ _ (207) 308 dX6_compare_101 (by decide) ?_
      refine ab_iinc' hG 308 _ _ _ _ 8 1 x8 (x8 + 1) dX6_compare_308 rfl rfl ?_
      refine ab_goto' hG 311 _ _ _ _ (-273) 38 dX6_compare_311 (by decide) ?_
      refine ab_forget' hG _ _ _ _ _ 9 ?_
      exact h
    · have h := h.2 hc
      refine ab_iload' hG 72 _ _ _ _ 8 _ dX6_compare_72 rfl ?_
      refine ab_iload' hG 74 _ _ _ _ 6 _ dX6_compare_74 rfl ?_
      refine ab_icmp_ge' hG 76 _ _ _ _ (28) 104 _ _ dX6_compare_76 (by decide) (fun hc => ?_) (fun hc => ?_)
      · have h := h.1 hc
        refine ab_aload_n' hG 104 _ _ _ _ 0 _ dX6_compare_104 rfl ?_
        refine ab_gR hG 105 _ _ _ _ 75 21 26 0 (40, 0) dX6_compare_105 (List.Mem.tail _ (List.Mem.head _)) rfl ?_
        refine ab_iload' hG 108 _ _ _ _ 9 _ dX6_compare_108 rfl ?_
        refine ab_bipush' hG 110 _ _ _ _ 25 25 dX6_compare_110 (by decide) ?_
        refine ab_isub' hG 112 _ _ _ _ _ _ dX6_compare_112 ?_
        refine ab_iaload' hG 113 _ _ _ _ 40 0 625 _ dX6_compare_113 rfl h.1 ?_
        have h := h.2
        refine ab_aload_n' hG 114 _ _ _ _ 0 _ dX6_compare_114 rfl ?_
        refine ab_gR hG 115 _ _ _ _ 75 21 26 0 (40, 0) dX6_compare_115 (List.Mem.tail _ (List.Mem.head _)) rfl ?_
        refine ab_iload' hG 118 _ _ _ _ 9 _ dX6_compare_118 rfl ?_
        refine ab_iconst' hG 120 _ _ _ _ 1 1 dX6_compare_120 (by decide) ?_
        refine ab_isub' hG 121 _ _ _ _ _ _ dX6_compare_121 ?_
        refine ab_iaload' hG 122 _ _ _ _ 40 0 625 _ dX6_compare_122 rfl h.1 ?_
        have h := h.2
        exact ab_invs' hG 123 [some (.inr (21, 0)), some (.inl x1), some (.inl x2), some (.inl x3), some (.inl x4), some (.inl x5), some (.inl x6), some (.inl x7), some (.inl x8), some (.inl ((((25 * ((x7 - x5) + 1)) + x8) - x6) + 1)), none, none] [(.inl (S 40 0 (((((25 * ((x7 - x5) + 1)) + x8) - x6) + 1) - 25).toNatClampNeg)), (.inl (S 40 0 (((((25 * ((x7 - x5) + 1)) + x8) - x6) + 1) - 1).toNatClampNeg))] [] S 0 187 _ 2 1 0 _ dX6_compare_123 rfl rfl (by decide) (by decide) h
      · have h := h.2 hc
        refine ab_aload_n' hG 79 _ _ _ _ 0 _ dX6_compare_79 rfl ?_
        refine ab_gR hG 80 _ _ _ _ 75 21 26 0 (40, 0) dX6_compare_80 (List.Mem.tail _ (List.Mem.head _)) rfl ?_
        refine ab_iload' hG 83 _ _ _ _ 9 _ dX6_compare_83 rfl ?_
        refine ab_iload' hG 85 _ _ _ _ 7 _ dX6_compare_85 rfl ?_
        refine ab_iload' hG 87 _ _ _ _ 5 _ dX6_compare_87 rfl ?_
        refine ab_isub' hG 89 _ _ _ _ _ _ dX6_compare_89 ?_
        refine ab_iconst' hG 90 _ _ _ _ 1 1 dX6_compare_90 (by decide) ?_
        refine ab_iadd' hG 91 _ _ _ _ _ _ dX6_compare_91 ?_
        refine ab_iload' hG 92 _ _ _ _ 8 _ dX6_compare_92 rfl ?_
        refine ab_iadd' hG 94 _ _ _ _ _ _ dX6_compare_94 ?_
        refine ab_iload' hG 95 _ _ _ _ 6 _ dX6_compare_95 rfl ?_
        refine ab_isub' hG 97 _ _ _ _ _ _ dX6_compare_97 ?_
        refine ab_iconst' hG 98 _ _ _ _ 1 1 dX6_compare_98 (by decide) ?_
        refine ab_iadd' hG 99 _ _ _ _ _ _ dX6_compare_99 ?_
        refine ab_iastore' hG 100 _ _ _ _ 40 0 625 _ _ dX6_compare_100 rfl h.1 ?_
        have h := h.2
        refine ab_goto' hG 101 _ _ _ _ (207) 308 dX6_compare_101 (by decide) ?_
        refine ab_iinc' hG 308 _ _ _ _ 8 1 x8 (x8 + 1) dX6_compare_308 rfl rfl ?_
        refine ab_goto' hG 311 _ _ _ _ (-273) 38 dX6_compare_311 (by decide) ?_
        refine ab_forget' hG _ _ _ _ _ 9 ?_
        exact h
theorem bl_X6_compare_126 {Q : ab_Po} {G : ab_Gt} (hG : ab_Cl M_X6_compare Q G) (x1 : Int32) (x2 : Int32) (x3 : Int32) (x4 : Int32) (x5 : Int32) (x6 : Int32) (x7 : Int32) (x8 : Int32) (x9 : Int32) (xs0 : Int32) (S : ab_S) (h : vp_in x7 48 ∧ ((S 38 0 x7.toNatClampNeg) = x5 → vp_in (24 + x8) 48 ∧ ((S 38 0 (24 + x8).toNatClampNeg) = x6 → vp_in x7 48 ∧ vp_in ((24 * x1) + (S 37 0 x7.toNatClampNeg)) 336 ∧ vp_in (24 + x8) 48 ∧ vp_in ((24 * x2) + (S 37 0 (24 + x8).toNatClampNeg)) 336 ∧ ((S 23 0 ((24 * x1) + (S 37 0 x7.toNatClampNeg)).toNatClampNeg) = (S 23 0 ((24 * x2) + (S 37 0 (24 + x8).toNatClampNeg)).toNatClampNeg) → vp_in (x9 - 26) 625 ∧ Sp_X6_least [(.inl (xs0 + 1)), (.inl ((S 40 0 (x9 - 26).toNatClampNeg) + 0))] S (ab_back Q G 222 [some (.inr (21, 0)), some (.inl x1), some (.inl x2), some (.inl x3), some (.inl x4), some (.inl x5), some (.inl x6), some (.inl x7), some (.inl x8), some (.inl x9), some (.inl (xs0 + 1)), some (.inl 0)] [] 0)) ∧ (¬ (S 23 0 ((24 * x1) + (S 37 0 x7.toNatClampNeg)).toNatClampNeg) = (S 23 0 ((24 * x2) + (S 37 0 (24 + x8).toNatClampNeg)).toNatClampNeg) → vp_in (x9 - 26) 625 ∧ Sp_X6_least [(.inl (xs0 + 1)), (.inl ((S 40 0 (x9 - 26).toNatClampNeg) + 1))] S (ab_back Q G 222 [some (.inr (21, 0)), some (.inl x1), some (.inl x2), some (.inl x3), some (.inl x4), some (.inl x5), some (.inl x6), some (.inl x7), some (.inl x8), some (.inl x9), some (.inl (xs0 + 1)), some (.inl 1)] [] 0))) ∧ (¬ (S 38 0 (24 + x8).toNatClampNeg) = x6 → vp_in x7 48 ∧ vp_in (24 + x8) 48 ∧ vp_in (((25 * ((S 38 0 x7.toNatClampNeg) - x5)) + (S 38 0 (24 + x8).toNatClampNeg)) - x6) 625 ∧ vp_in ((24 * x7) + x8) 576 ∧ Sp_X6_least [(.inl (xs0 + 1)), (.inl ((S 40 0 (((25 * ((S 38 0 x7.toNatClampNeg) - x5)) + (S 38 0 (24 + x8).toNatClampNeg)) - x6).toNatClampNeg) + (S 39 0 ((24 * x7) + x8).toNatClampNeg)))] S (ab_back Q G 297 [some (.inr (21, 0)), some (.inl x1), some (.inl x2), some (.inl x3), some (.inl x4), some (.inl x5), some (.inl x6), some (.inl x7), some (.inl x8), some (.inl x9), some (.inl (xs0 + 1)), some (.inl (((25 * ((S 38 0 x7.toNatClampNeg) - x5)) + (S 38 0 (24 + x8).toNatClampNeg)) - x6))] [] 0))) ∧ (¬ (S 38 0 x7.toNatClampNeg) = x5 → vp_in x7 48 ∧ vp_in (24 + x8) 48 ∧ vp_in (((25 * ((S 38 0 x7.toNatClampNeg) - x5)) + (S 38 0 (24 + x8).toNatClampNeg)) - x6) 625 ∧ vp_in ((24 * x7) + x8) 576 ∧ Sp_X6_least [(.inl (xs0 + 1)), (.inl ((S 40 0 (((25 * ((S 38 0 x7.toNatClampNeg) - x5)) + (S 38 0 (24 + x8).toNatClampNeg)) - x6).toNatClampNeg) + (S 39 0 ((24 * x7) + x8).toNatClampNeg)))] S (ab_back Q G 297 [some (.inr (21, 0)), some (.inl x1), some (.inl x2), some (.inl x3), some (.inl x4), some (.inl x5), some (.inl x6), some (.inl x7), some (.inl x8), some (.inl x9), some (.inl (xs0 + 1)), some (.inl (((25 * ((S 38 0 x7.toNatClampNeg) - x5)) + (S 38 0 (24 + x8).toNatClampNeg)) - x6))] [] 0))) : G 126 [some (.inr (21, 0)), some (.inl x1), some (.inl x2), some (.inl x3), some (.inl x4), some (.inl x5), some (.inl x6), some (.inl x7), some (.inl x8), some (.inl x9), none, none] [(.inl xs0)] S 0 := by
  refine ab_iconst' hG 126 _ _ _ _ 1 1 dX6_compare_126 (by decide) ?_
  refine ab_iadd' hG 127 _ _ _ _ _ _ dX6_compare_127 ?_
  refine ab_istore' hG 128 _ _ _ _ 10 _ dX6_compare_128 (by decide) ?_
  refine ab_aload_n' hG 130 _ _ _ _ 0 _ dX6_compare_130 rfl ?_
  refine ab_gR hG 131 _ _ _ _ 69 21 24 0 (38, 0) dX6_compare_131 (List.Mem.head _) rfl ?_
  refine ab_iload' hG 134 _ _ _ _ 7 _ dX6_compare_134 rfl ?_
  refine ab_iaload' hG 136 _ _ _ _ 38 0 48 _ dX6_compare_136 rfl h.1 ?_
  have h := h.2
  refine ab_iload' hG 137 _ _ _ _ 5 _ dX6_compare_137 rfl ?_
  refine ab_icmp_ne' hG 139 _ _ _ _ (103) 242 _ _ dX6_compare_139 (by decide) (fun hc => ?_) (fun hc => ?_)
  · have h := h.2 hc
    refine ab_bipush' hG 242 _ _ _ _ 25 25 dX6_compare_242 (by decide) ?_
    refine ab_aload_n' hG 244 _ _ _ _ 0 _ dX6_compare_244 rfl ?_
    refine ab_gR hG 245 _ _ _ _ 69 21 24 0 (38, 0) dX6_compare_245 (List.Mem.head _) rfl ?_
    refine ab_iload' hG 248 _ _ _ _ 7 _ dX6_compare_248 rfl ?_
    refine ab_iaload' hG 250 _ _ _ _ 38 0 48 _ dX6_compare_250 rfl h.1 ?_
    have h := h.2
    refine ab_iload' hG 251 _ _ _ _ 5 _ dX6_compare_251 rfl ?_
    refine ab_isub' hG 253 _ _ _ _ _ _ dX6_compare_253 ?_
    refine ab_imul' hG 254 _ _ _ _ _ _ dX6_compare_254 ?_
    refine ab_aload_n' hG 255 _ _ _ _ 0 _ dX6_compare_255 rfl ?_
    refine ab_gR hG 256 _ _ _ _ 69 21 24 0 (38, 0) dX6_compare_256 (List.Mem.head _) rfl ?_
    refine ab_bipush' hG 259 _ _ _ _ 24 24 dX6_compare_259 (by decide) ?_
    refine ab_iload' hG 261 _ _ _ _ 8 _ dX6_compare_261 rfl ?_
    refine ab_iadd' hG 263 _ _ _ _ _ _ dX6_compare_263 ?_
    refine ab_iaload' hG 264 _ _ _ _ 38 0 48 _ dX6_compare_264 rfl h.1 ?_
    have h := h.2
    refine ab_iadd' hG 265 _ _ _ _ _ _ dX6_compare_265 ?_
    refine ab_iload' hG 266 _ _ _ _ 6 _ dX6_compare_266 rfl ?_
    refine ab_isub' hG 268 _ _ _ _ _ _ dX6_compare_268 ?_
    refine ab_istore' hG 269 _ _ _ _ 11 _ dX6_compare_269 (by decide) ?_
    refine ab_iload' hG 271 _ _ _ _ 10 _ dX6_compare_271 rfl ?_
    refine ab_aload_n' hG 273 _ _ _ _ 0 _ dX6_compare_273 rfl ?_
    refine ab_gR hG 274 _ _ _ _ 75 21 26 0 (40, 0) dX6_compare_274 (List.Mem.tail _ (List.Mem.head _)) rfl ?_
    refine ab_iload' hG 277 _ _ _ _ 11 _ dX6_compare_277 rfl ?_
    refine ab_iaload' hG 279 _ _ _ _ 40 0 625 _ dX6_compare_279 rfl h.1 ?_
    have h := h.2
    refine ab_aload_n' hG 280 _ _ _ _ 0 _ dX6_compare_280 rfl ?_
    refine ab_gR hG 281 _ _ _ _ 72 21 25 0 (39, 0) dX6_compare_281 (List.Mem.tail _ (List.Mem.tail _ (List.Mem.tail _ (List.Mem.tail _ (List.Mem.head _))))) rfl ?_
    refine ab_bipush' hG 284 _ _ _ _ 24 24 dX6_compare_284 (by decide) ?_
    refine ab_iload' hG 286 _ _ _ _ 7 _ dX6_compare_286 rfl ?_
    refine ab_imul' hG 288 _ _ _ _ _ _ dX6_compare_288 ?_
    refine ab_iload' hG 289 _ _ _ _ 8 _ dX6_compare_289 rfl ?_
    refine ab_iadd' hG 291 _ _ _ _ _ _ dX6_compare_291 ?_
    refine ab_iaload' hG 292 _ _ _ _ 39 0 576 _ dX6_compare_292 rfl h.1 ?_
    have h := h.2
    refine ab_iadd' hG 293 _ _ _ _ _ _ dX6_compare_293 ?_
    exact ab_invs' hG 294 [some (.inr (21, 0)), some (.inl x1), some (.inl x2), some (.inl x3), some (.inl x4), some (.inl x5), some (.inl x6), some (.inl x7), some (.inl x8), some (.inl x9), some (.inl (xs0 + 1)), some (.inl (((25 * ((S 38 0 x7.toNatClampNeg) - x5)) + (S 38 0 (24 + x8).toNatClampNeg)) - x6))] [(.inl (xs0 + 1)), (.inl ((S 40 0 (((25 * ((S 38 0 x7.toNatClampNeg) - x5)) + (S 38 0 (24 + x8).toNatClampNeg)) - x6).toNatClampNeg) + (S 39 0 ((24 * x7) + x8).toNatClampNeg)))] [] S 0 187 _ 2 1 0 _ dX6_compare_294 rfl rfl (by decide) (by decide) h
  · have h := h.1 hc
    refine ab_aload_n' hG 142 _ _ _ _ 0 _ dX6_compare_142 rfl ?_
    refine ab_gR hG 143 _ _ _ _ 69 21 24 0 (38, 0) dX6_compare_143 (List.Mem.head _) rfl ?_
    refine ab_bipush' hG 146 _ _ _ _ 24 24 dX6_compare_146 (by decide) ?_
    refine ab_iload' hG 148 _ _ _ _ 8 _ dX6_compare_148 rfl ?_
    refine ab_iadd' hG 150 _ _ _ _ _ _ dX6_compare_150 ?_
    refine ab_iaload' hG 151 _ _ _ _ 38 0 48 _ dX6_compare_151 rfl h.1 ?_
    have h := h.2
    refine ab_iload' hG 152 _ _ _ _ 6 _ dX6_compare_152 rfl ?_
    refine ab_icmp_ne' hG 154 _ _ _ _ (88) 242 _ _ dX6_compare_154 (by decide) (fun hc => ?_) (fun hc => ?_)
    · have h := h.2 hc
      refine ab_bipush' hG 242 _ _ _ _ 25 25 dX6_compare_242 (by decide) ?_
      refine ab_aload_n' hG 244 _ _ _ _ 0 _ dX6_compare_244 rfl ?_
      refine ab_gR hG 245 _ _ _ _ 69 21 24 0 (38, 0) dX6_compare_245 (List.Mem.head _) rfl ?_
      refine ab_iload' hG 248 _ _ _ _ 7 _ dX6_compare_248 rfl ?_
      refine ab_iaload' hG 250 _ _ _ _ 38 0 48 _ dX6_compare_250 rfl h.1 ?_
      have h := h.2
      refine ab_iload' hG 251 _ _ _ _ 5 _ dX6_compare_251 rfl ?_
      refine ab_isub' hG 253 _ _ _ _ _ _ dX6_compare_253 ?_
      refine ab_imul' hG 254 _ _ _ _ _ _ dX6_compare_254 ?_
      refine ab_aload_n' hG 255 _ _ _ _ 0 _ dX6_compare_255 rfl ?_
      refine ab_gR hG 256 _ _ _ _ 69 21 24 0 (38, 0) dX6_compare_256 (List.Mem.head _) rfl ?_
      refine ab_bipush' hG 259 _ _ _ _ 24 24 dX6_compare_259 (by decide) ?_
      refine ab_iload' hG 261 _ _ _ _ 8 _ dX6_compare_261 rfl ?_
      refine ab_iadd' hG 263 _ _ _ _ _ _ dX6_compare_263 ?_
      refine ab_iaload' hG 264 _ _ _ _ 38 0 48 _ dX6_compare_264 rfl h.1 ?_
      have h := h.2
      refine ab_iadd' hG 265 _ _ _ _ _ _ dX6_compare_265 ?_
      refine ab_iload' hG 266 _ _ _ _ 6 _ dX6_compare_266 rfl ?_
      refine ab_isub' hG 268 _ _ _ _ _ _ dX6_compare_268 ?_
      refine ab_istore' hG 269 _ _ _ _ 11 _ dX6_compare_269 (by decide) ?_
      refine ab_iload' hG 271 _ _ _ _ 10 _ dX6_compare_271 rfl ?_
      refine ab_aload_n' hG 273 _ _ _ _ 0 _ dX6_compare_273 rfl ?_
      refine ab_gR hG 274 _ _ _ _ 75 21 26 0 (40, 0) dX6_compare_274 (List.Mem.tail _ (List.Mem.head _)) rfl ?_
      refine ab_iload' hG 277 _ _ _ _ 11 _ dX6_compare_277 rfl ?_
      refine ab_iaload' hG 279 _ _ _ _ 40 0 625 _ dX6_compare_279 rfl h.1 ?_
      have h := h.2
      refine ab_aload_n' hG 280 _ _ _ _ 0 _ dX6_compare_280 rfl ?_
      refine ab_gR hG 281 _ _ _ _ 72 21 25 0 (39, 0) dX6_compare_281 (List.Mem.tail _ (List.Mem.tail _ (List.Mem.tail _ (List.Mem.tail _ (List.Mem.head _))))) rfl ?_
      refine ab_bipush' hG 284 _ _ _ _ 24 24 dX6_compare_284 (by decide) ?_
      refine ab_iload' hG 286 _ _ _ _ 7 _ dX6_compare_286 rfl ?_
      refine ab_imul' hG 288 _ _ _ _ _ _ dX6_compare_288 ?_
      refine ab_iload' hG 289 _ _ _ _ 8 _ dX6_compare_289 rfl ?_
      refine ab_iadd' hG 291 _ _ _ _ _ _ dX6_compare_291 ?_
      refine ab_iaload' hG 292 _ _ _ _ 39 0 576 _ dX6_compare_292 rfl h.1 ?_
      have h := h.2
      refine ab_iadd' hG 293 _ _ _ _ _ _ dX6_compare_293 ?_
      exact ab_invs' hG 294 [some (.inr (21, 0)), some (.inl x1), some (.inl x2), some (.inl x3), some (.inl x4), some (.inl x5), some (.inl x6), some (.inl x7), some (.inl x8), some (.inl x9), some (.inl (xs0 + 1)), some (.inl (((25 * ((S 38 0 x7.toNatClampNeg) - x5)) + (S 38 0 (24 + x8).toNatClampNeg)) - x6))] [(.inl (xs0 + 1)), (.inl ((S 40 0 (((25 * ((S 38 0 x7.toNatClampNeg) - x5)) + (S 38 0 (24 + x8).toNatClampNeg)) - x6).toNatClampNeg) + (S 39 0 ((24 * x7) + x8).toNatClampNeg)))] [] S 0 187 _ 2 1 0 _ dX6_compare_294 rfl rfl (by decide) (by decide) h
    · have h := h.1 hc
      refine ab_aload_n' hG 157 _ _ _ _ 0 _ dX6_compare_157 rfl ?_
      refine ab_gR hG 158 _ _ _ _ 13 21 2 0 (23, 0) dX6_compare_158 (List.Mem.tail _ (List.Mem.tail _ (List.Mem.head _))) rfl ?_
      refine ab_bipush' hG 161 _ _ _ _ 24 24 dX6_compare_161 (by decide) ?_
      refine ab_iload_n' hG 163 _ _ _ _ 1 _ dX6_compare_163 rfl ?_
      refine ab_imul' hG 164 _ _ _ _ _ _ dX6_compare_164 ?_
      refine ab_aload_n' hG 165 _ _ _ _ 0 _ dX6_compare_165 rfl ?_
      refine ab_gR hG 166 _ _ _ _ 66 21 23 0 (37, 0) dX6_compare_166 (List.Mem.tail _ (List.Mem.tail _ (List.Mem.tail _ (List.Mem.head _)))) rfl ?_
      refine ab_iload' hG 169 _ _ _ _ 7 _ dX6_compare_169 rfl ?_
      refine ab_iaload' hG 171 _ _ _ _ 37 0 48 _ dX6_compare_171 rfl h.1 ?_
      have h := h.2
      refine ab_iadd' hG 172 _ _ _ _ _ _ dX6_compare_172 ?_
      refine ab_iaload' hG 173 _ _ _ _ 23 0 336 _ dX6_compare_173 rfl h.1 ?_
      have h := h.2
      refine ab_aload_n' hG 174 _ _ _ _ 0 _ dX6_compare_174 rfl ?_
      refine ab_gR hG 175 _ _ _ _ 13 21 2 0 (23, 0) dX6_compare_175 (List.Mem.tail _ (List.Mem.tail _ (List.Mem.head _))) rfl ?_
      refine ab_bipush' hG 178 _ _ _ _ 24 24 dX6_compare_178 (by decide) ?_
      refine ab_iload_n' hG 180 _ _ _ _ 2 _ dX6_compare_180 rfl ?_
      refine ab_imul' hG 181 _ _ _ _ _ _ dX6_compare_181 ?_
      refine ab_aload_n' hG 182 _ _ _ _ 0 _ dX6_compare_182 rfl ?_
      refine ab_gR hG 183 _ _ _ _ 66 21 23 0 (37, 0) dX6_compare_183 (List.Mem.tail _ (List.Mem.tail _ (List.Mem.tail _ (List.Mem.head _)))) rfl ?_
      refine ab_bipush' hG 186 _ _ _ _ 24 24 dX6_compare_186 (by decide) ?_
      refine ab_iload' hG 188 _ _ _ _ 8 _ dX6_compare_188 rfl ?_
      refine ab_iadd' hG 190 _ _ _ _ _ _ dX6_compare_190 ?_
      refine ab_iaload' hG 191 _ _ _ _ 37 0 48 _ dX6_compare_191 rfl h.1 ?_
      have h := h.2
      refine ab_iadd' hG 192 _ _ _ _ _ _ dX6_compare_192 ?_
      refine ab_iaload' hG 193 _ _ _ _ 23 0 336 _ dX6_compare_193 rfl h.1 ?_
      have h := h.2
      refine ab_icmp_ne' hG 194 _ _ _ _ (7) 201 _ _ dX6_compare_194 (by decide) (fun hc => ?_) (fun hc => ?_)
      · have h := h.2 hc
        refine ab_iconst' hG 201 _ _ _ _ 1 1 dX6_compare_201 (by decide) ?_
        refine ab_istore' hG 202 _ _ _ _ 11 _ dX6_compare_202 (by decide) ?_
        refine ab_iload' hG 204 _ _ _ _ 10 _ dX6_compare_204 rfl ?_
        refine ab_aload_n' hG 206 _ _ _ _ 0 _ dX6_compare_206 rfl ?_
        refine ab_gR hG 207 _ _ _ _ 75 21 26 0 (40, 0) dX6_compare_207 (List.Mem.tail _ (List.Mem.head _)) rfl ?_
        refine ab_iload' hG 210 _ _ _ _ 9 _ dX6_compare_210 rfl ?_
        refine ab_bipush' hG 212 _ _ _ _ 26 26 dX6_compare_212 (by decide) ?_
        refine ab_isub' hG 214 _ _ _ _ _ _ dX6_compare_214 ?_
        refine ab_iaload' hG 215 _ _ _ _ 40 0 625 _ dX6_compare_215 rfl h.1 ?_
        have h := h.2
        refine ab_iload' hG 216 _ _ _ _ 11 _ dX6_compare_216 rfl ?_
        refine ab_iadd' hG 218 _ _ _ _ _ _ dX6_compare_218 ?_
        exact ab_invs' hG 219 [some (.inr (21, 0)), some (.inl x1), some (.inl x2), some (.inl x3), some (.inl x4), some (.inl x5), some (.inl x6), some (.inl x7), some (.inl x8), some (.inl x9), some (.inl (xs0 + 1)), some (.inl 1)] [(.inl (xs0 + 1)), (.inl ((S 40 0 (x9 - 26).toNatClampNeg) + 1))] [] S 0 187 _ 2 1 0 _ dX6_compare_219 rfl rfl (by decide) (by decide) h
      · have h := h.1 hc
        refine ab_iconst' hG 197 _ _ _ _ 0 0 dX6_compare_197 (by decide) ?_
        refine ab_goto' hG 198 _ _ _ _ (4) 202 dX6_compare_198 (by decide) ?_
        refine ab_istore' hG 202 _ _ _ _ 11 _ dX6_compare_202 (by decide) ?_
        refine ab_iload' hG 204 _ _ _ _ 10 _ dX6_compare_204 rfl ?_
        refine ab_aload_n' hG 206 _ _ _ _ 0 _ dX6_compare_206 rfl ?_
        refine ab_gR hG 207 _ _ _ _ 75 21 26 0 (40, 0) dX6_compare_207 (List.Mem.tail _ (List.Mem.head _)) rfl ?_
        refine ab_iload' hG 210 _ _ _ _ 9 _ dX6_compare_210 rfl ?_
        refine ab_bipush' hG 212 _ _ _ _ 26 26 dX6_compare_212 (by decide) ?_
        refine ab_isub' hG 214 _ _ _ _ _ _ dX6_compare_214 ?_
        refine ab_iaload' hG 215 _ _ _ _ 40 0 625 _ dX6_compare_215 rfl h.1 ?_
        have h := h.2
        refine ab_iload' hG 216 _ _ _ _ 11 _ dX6_compare_216 rfl ?_
        refine ab_iadd' hG 218 _ _ _ _ _ _ dX6_compare_218 ?_
        exact ab_invs' hG 219 [some (.inr (21, 0)), some (.inl x1), some (.inl x2), some (.inl x3), some (.inl x4), some (.inl x5), some (.inl x6), some (.inl x7), some (.inl x8), some (.inl x9), some (.inl (xs0 + 1)), some (.inl 0)] [(.inl (xs0 + 1)), (.inl ((S 40 0 (x9 - 26).toNatClampNeg) + 0))] [] S 0 187 _ 2 1 0 _ dX6_compare_219 rfl rfl (by decide) (by decide) h
theorem bl_X6_compare_222 {Q : ab_Po} {G : ab_Gt} (hG : ab_Cl M_X6_compare Q G) (x1 : Int32) (x2 : Int32) (x3 : Int32) (x4 : Int32) (x5 : Int32) (x6 : Int32) (x7 : Int32) (x8 : Int32) (x9 : Int32) (x10 : Int32) (x11 : Int32) (xs0 : Int32) (S : ab_S) (h : vp_in ((24 * x7) + x8) 576 ∧ vp_in x9 625 ∧ G 38 [some (.inr (21, 0)), some (.inl x1), some (.inl x2), some (.inl x3), some (.inl x4), some (.inl x5), some (.inl x6), some (.inl x7), some (.inl (x8 + 1)), none, none, none] [] (ab_su (ab_su S 39 0 ((24 * x7) + x8).toNatClampNeg xs0) 40 0 x9.toNatClampNeg xs0) 0) : G 222 [some (.inr (21, 0)), some (.inl x1), some (.inl x2), some (.inl x3), some (.inl x4), some (.inl x5), some (.inl x6), some (.inl x7), some (.inl x8), some (.inl x9), some (.inl x10), some (.inl x11)] [(.inl xs0)] S 0 := by
  refine ab_istore' hG 222 _ _ _ _ 10 _ dX6_compare_222 (by decide) ?_
  refine ab_aload_n' hG 224 _ _ _ _ 0 _ dX6_compare_224 rfl ?_
  refine ab_gR hG 225 _ _ _ _ 72 21 25 0 (39, 0) dX6_compare_225 (List.Mem.tail _ (List.Mem.tail _ (List.Mem.tail _ (List.Mem.tail _ (List.Mem.head _))))) rfl ?_
  refine ab_bipush' hG 228 _ _ _ _ 24 24 dX6_compare_228 (by decide) ?_
  refine ab_iload' hG 230 _ _ _ _ 7 _ dX6_compare_230 rfl ?_
  refine ab_imul' hG 232 _ _ _ _ _ _ dX6_compare_232 ?_
  refine ab_iload' hG 233 _ _ _ _ 8 _ dX6_compare_233 rfl ?_
  refine ab_iadd' hG 235 _ _ _ _ _ _ dX6_compare_235 ?_
  refine ab_iload' hG 236 _ _ _ _ 10 _ dX6_compare_236 rfl ?_
  refine ab_iastore' hG 238 _ _ _ _ 39 0 576 _ _ dX6_compare_238 rfl h.1 ?_
  have h := h.2
  refine ab_goto' hG 239 _ _ _ _ (60) 299 dX6_compare_239 (by decide) ?_
  refine ab_aload_n' hG 299 _ _ _ _ 0 _ dX6_compare_299 rfl ?_
  refine ab_gR hG 300 _ _ _ _ 75 21 26 0 (40, 0) dX6_compare_300 (List.Mem.tail _ (List.Mem.head _)) rfl ?_
  refine ab_iload' hG 303 _ _ _ _ 9 _ dX6_compare_303 rfl ?_
  refine ab_iload' hG 305 _ _ _ _ 10 _ dX6_compare_305 rfl ?_
  refine ab_iastore' hG 307 _ _ _ _ 40 0 625 _ _ dX6_compare_307 rfl h.1 ?_
  have h := h.2
  refine ab_iinc' hG 308 _ _ _ _ 8 1 x8 (x8 + 1) dX6_compare_308 rfl rfl ?_
  refine ab_goto' hG 311 _ _ _ _ (-273) 38 dX6_compare_311 (by decide) ?_
  refine ab_forget' hG _ _ _ _ _ 9 ?_
  refine ab_forget' hG _ _ _ _ _ 10 ?_
  refine ab_forget' hG _ _ _ _ _ 11 ?_
  exact h
theorem bl_X6_compare_297 {Q : ab_Po} {G : ab_Gt} (hG : ab_Cl M_X6_compare Q G) (x1 : Int32) (x2 : Int32) (x3 : Int32) (x4 : Int32) (x5 : Int32) (x6 : Int32) (x7 : Int32) (x8 : Int32) (x9 : Int32) (x10 : Int32) (x11 : Int32) (xs0 : Int32) (S : ab_S) (h : vp_in x9 625 ∧ G 38 [some (.inr (21, 0)), some (.inl x1), some (.inl x2), some (.inl x3), some (.inl x4), some (.inl x5), some (.inl x6), some (.inl x7), some (.inl (x8 + 1)), none, none, none] [] (ab_su S 40 0 x9.toNatClampNeg xs0) 0) : G 297 [some (.inr (21, 0)), some (.inl x1), some (.inl x2), some (.inl x3), some (.inl x4), some (.inl x5), some (.inl x6), some (.inl x7), some (.inl x8), some (.inl x9), some (.inl x10), some (.inl x11)] [(.inl xs0)] S 0 := by
  refine ab_istore' hG 297 _ _ _ _ 10 _ dX6_compare_297 (by decide) ?_
  refine ab_aload_n' hG 299 _ _ _ _ 0 _ dX6_compare_299 rfl ?_
  refine ab_gR hG 300 _ _ _ _ 75 21 26 0 (40, 0) dX6_compare_300 (List.Mem.tail _ (List.Mem.head _)) rfl ?_
  refine ab_iload' hG 303 _ _ _ _ 9 _ dX6_compare_303 rfl ?_
  refine ab_iload' hG 305 _ _ _ _ 10 _ dX6_compare_305 rfl ?_
  refine ab_iastore' hG 307 _ _ _ _ 40 0 625 _ _ dX6_compare_307 rfl h.1 ?_
  have h := h.2
  refine ab_iinc' hG 308 _ _ _ _ 8 1 x8 (x8 + 1) dX6_compare_308 rfl rfl ?_
  refine ab_goto' hG 311 _ _ _ _ (-273) 38 dX6_compare_311 (by decide) ?_
  refine ab_forget' hG _ _ _ _ _ 9 ?_
  refine ab_forget' hG _ _ _ _ _ 10 ?_
  refine ab_forget' hG _ _ _ _ _ 11 ?_
  exact h
theorem bl_X6_distance_0 {Q : ab_Po} {G : ab_Gt} (hG : ab_Cl M_X6_distance Q G) (x1 : Int32) (x2 : Int32) (S : ab_S) (h : Sp_X6_isCommit [(.inr (21, 0)), (.inl x1)] S (ab_back Q G 6 [some (.inr (21, 0)), some (.inl x1), some (.inl x2), none, none, none, none] [(.inr (21, 0))] 0)) : G 0 [some (.inr (21, 0)), some (.inl x1), some (.inl x2), none, none, none, none] [] S 0 := by
  refine ab_aload_n' hG 0 _ _ _ _ 0 _ dX6_distance_0 rfl ?_
  refine ab_aload_n' hG 1 _ _ _ _ 0 _ dX6_distance_1 rfl ?_
  refine ab_iload_n' hG 2 _ _ _ _ 1 _ dX6_distance_2 rfl ?_
  exact ab_invv' hG 3 [some (.inr (21, 0)), some (.inl x1), some (.inl x2), none, none, none, none] [(.inl x1)] [(.inr (21, 0))] S 0 127 _ 1 1 0 _ (21, 0) dX6_distance_3 rfl rfl rfl rfl (by decide) (by decide) h
theorem bl_X6_distance_6 {Q : ab_Po} {G : ab_Gt} (hG : ab_Cl M_X6_distance Q G) (x1 : Int32) (x2 : Int32) (xs0 : Int32) (S : ab_S) (h : (xs0 = 0 → (((ab_su S 21 0 0 1) 21 0 0) ≤ 0 → Sp_X6_leave [(.inr (21, 0)), (.inl x1), (.inl 0)] (ab_su S 21 0 0 1) (ab_back Q G 40 [some (.inr (21, 0)), some (.inl x1), some (.inl x2), none, none, none, none] [] 0)) ∧ (¬ ((ab_su S 21 0 0 1) 21 0 0) ≤ 0 → Q (.inl (some 0)) (ab_su S 21 0 0 1))) ∧ (¬ xs0 = 0 → Sp_X6_isCommit [(.inr (21, 0)), (.inl x2)] S (ab_back Q G 14 [some (.inr (21, 0)), some (.inl x1), some (.inl x2), none, none, none, none] [(.inr (21, 0))] 0))) : G 6 [some (.inr (21, 0)), some (.inl x1), some (.inl x2), none, none, none, none] [(.inl xs0), (.inr (21, 0))] S 0 := by
  refine ab_if_eq' hG 6 _ _ _ _ (15) 21 _ dX6_distance_6 (by decide) (fun hc => ?_) (fun hc => ?_)
  · have h := h.1 hc
    refine ab_iconst' hG 21 _ _ _ _ 1 1 dX6_distance_21 (by decide) ?_
    refine ab_putfield' hG 22 _ _ _ _ 82 21 0 0 _ dX6_distance_22 (List.Mem.head _) ?_
    refine ab_aload_n' hG 25 _ _ _ _ 0 _ dX6_distance_25 rfl ?_
    refine ab_gI hG 26 _ _ _ _ 82 21 0 0 dX6_distance_26 (List.Mem.head _) rfl ?_
    refine ab_if_le' hG 29 _ _ _ _ (5) 34 _ dX6_distance_29 (by decide) (fun hc => ?_) (fun hc => ?_)
    · have h := h.1 hc
      refine ab_aload_n' hG 34 _ _ _ _ 0 _ dX6_distance_34 rfl ?_
      refine ab_iload_n' hG 35 _ _ _ _ 1 _ dX6_distance_35 rfl ?_
      refine ab_iconst' hG 36 _ _ _ _ 0 0 dX6_distance_36 (by decide) ?_
      exact ab_invv' hG 37 [some (.inr (21, 0)), some (.inl x1), some (.inl x2), none, none, none, none] [(.inl x1), (.inl 0)] [] (ab_su S 21 0 0 1) 0 190 _ 2 1 0 _ (21, 0) dX6_distance_37 rfl rfl rfl rfl (by decide) (by decide) h
    · have h := h.2 hc
      refine ab_iconst' hG 32 _ _ _ _ 0 0 dX6_distance_32 (by decide) ?_
      exact ab_ireturn' hG 33 _ _ _ _ dX6_distance_33 (Or.inl rfl) (by decide) h
  · have h := h.2 hc
    refine ab_aload_n' hG 9 _ _ _ _ 0 _ dX6_distance_9 rfl ?_
    refine ab_iload_n' hG 10 _ _ _ _ 2 _ dX6_distance_10 rfl ?_
    exact ab_invv' hG 11 [some (.inr (21, 0)), some (.inl x1), some (.inl x2), none, none, none, none] [(.inl x2)] [(.inr (21, 0))] S 0 127 _ 1 1 0 _ (21, 0) dX6_distance_11 rfl rfl rfl rfl (by decide) (by decide) h
theorem bl_X6_distance_14 {Q : ab_Po} {G : ab_Gt} (hG : ab_Cl M_X6_distance Q G) (x1 : Int32) (x2 : Int32) (xs0 : Int32) (S : ab_S) (h : (xs0 = 0 → (((ab_su S 21 0 0 1) 21 0 0) ≤ 0 → Sp_X6_leave [(.inr (21, 0)), (.inl x1), (.inl 0)] (ab_su S 21 0 0 1) (ab_back Q G 40 [some (.inr (21, 0)), some (.inl x1), some (.inl x2), none, none, none, none] [] 0)) ∧ (¬ ((ab_su S 21 0 0 1) 21 0 0) ≤ 0 → Q (.inl (some 0)) (ab_su S 21 0 0 1))) ∧ (¬ xs0 = 0 → (((ab_su S 21 0 0 0) 21 0 0) ≤ 0 → Sp_X6_leave [(.inr (21, 0)), (.inl x1), (.inl 0)] (ab_su S 21 0 0 0) (ab_back Q G 40 [some (.inr (21, 0)), some (.inl x1), some (.inl x2), none, none, none, none] [] 0)) ∧ (¬ ((ab_su S 21 0 0 0) 21 0 0) ≤ 0 → Q (.inl (some 0)) (ab_su S 21 0 0 0)))) : G 14 [some (.inr (21, 0)), some (.inl x1), some (.inl x2), none, none, none, none] [(.inl xs0), (.inr (21, 0))] S 0 := by
  refine ab_if_eq' hG 14 _ _ _ _ (7) 21 _ dX6_distance_14 (by decide) (fun hc => ?_) (fun hc => ?_)
  · have h := h.1 hc
    refine ab_iconst' hG 21 _ _ _ _ 1 1 dX6_distance_21 (by decide) ?_
    refine ab_putfield' hG 22 _ _ _ _ 82 21 0 0 _ dX6_distance_22 (List.Mem.head _) ?_
    refine ab_aload_n' hG 25 _ _ _ _ 0 _ dX6_distance_25 rfl ?_
    refine ab_gI hG 26 _ _ _ _ 82 21 0 0 dX6_distance_26 (List.Mem.head _) rfl ?_
    refine ab_if_le' hG 29 _ _ _ _ (5) 34 _ dX6_distance_29 (by decide) (fun hc => ?_) (fun hc => ?_)
    · have h := h.1 hc
      refine ab_aload_n' hG 34 _ _ _ _ 0 _ dX6_distance_34 rfl ?_
      refine ab_iload_n' hG 35 _ _ _ _ 1 _ dX6_distance_35 rfl ?_
      refine ab_iconst' hG 36 _ _ _ _ 0 0 dX6_distance_36 (by decide) ?_
      exact ab_invv' hG 37 [some (.inr (21, 0)), some (.inl x1), some (.inl x2), none, none, none, none] [(.inl x1), (.inl 0)] [] (ab_su S 21 0 0 1) 0 190 _ 2 1 0 _ (21, 0) dX6_distance_37 rfl rfl rfl rfl (by decide) (by decide) h
    · have h := h.2 hc
      refine ab_iconst' hG 32 _ _ _ _ 0 0 dX6_distance_32 (by decide) ?_
      exact ab_ireturn' hG 33 _ _ _ _ dX6_distance_33 (Or.inl rfl) (by decide) h
  · have h := h.2 hc
    refine ab_iconst' hG 17 _ _ _ _ 0 0 dX6_distance_17 (by decide) ?_
    refine ab_goto' hG 18 _ _ _ _ (4) 22 dX6_distance_18 (by decide) ?_
    refine ab_putfield' hG 22 _ _ _ _ 82 21 0 0 _ dX6_distance_22 (List.Mem.head _) ?_
    refine ab_aload_n' hG 25 _ _ _ _ 0 _ dX6_distance_25 rfl ?_
    refine ab_gI hG 26 _ _ _ _ 82 21 0 0 dX6_distance_26 (List.Mem.head _) rfl ?_
    refine ab_if_le' hG 29 _ _ _ _ (5) 34 _ dX6_distance_29 (by decide) (fun hc => ?_) (fun hc => ?_)
    · have h := h.1 hc
      refine ab_aload_n' hG 34 _ _ _ _ 0 _ dX6_distance_34 rfl ?_
      refine ab_iload_n' hG 35 _ _ _ _ 1 _ dX6_distance_35 rfl ?_
      refine ab_iconst' hG 36 _ _ _ _ 0 0 dX6_distance_36 (by decide) ?_
      exact ab_invv' hG 37 [some (.inr (21, 0)), some (.inl x1), some (.inl x2), none, none, none, none] [(.inl x1), (.inl 0)] [] (ab_su S 21 0 0 0) 0 190 _ 2 1 0 _ (21, 0) dX6_distance_37 rfl rfl rfl rfl (by decide) (by decide) h
    · have h := h.2 hc
      refine ab_iconst' hG 32 _ _ _ _ 0 0 dX6_distance_32 (by decide) ?_
      exact ab_ireturn' hG 33 _ _ _ _ dX6_distance_33 (Or.inl rfl) (by decide) h
theorem bl_X6_distance_40 {Q : ab_Po} {G : ab_Gt} (hG : ab_Cl M_X6_distance Q G) (x1 : Int32) (x2 : Int32) (xs0 : Int32) (S : ab_S) (h : Sp_X6_leave [(.inr (21, 0)), (.inl x2), (.inl 24)] S (ab_back Q G 48 [some (.inr (21, 0)), some (.inl x1), some (.inl x2), some (.inl xs0), none, none, none] [] 0)) : G 40 [some (.inr (21, 0)), some (.inl x1), some (.inl x2), none, none, none, none] [(.inl xs0)] S 0 := by
  refine ab_istore_n' hG 40 _ _ _ _ 3 _ dX6_distance_40 (by decide) ?_
  refine ab_aload_n' hG 41 _ _ _ _ 0 _ dX6_distance_41 rfl ?_
  refine ab_iload_n' hG 42 _ _ _ _ 2 _ dX6_distance_42 rfl ?_
  refine ab_bipush' hG 43 _ _ _ _ 24 24 dX6_distance_43 (by decide) ?_
  exact ab_invv' hG 45 [some (.inr (21, 0)), some (.inl x1), some (.inl x2), some (.inl xs0), none, none, none] [(.inl x2), (.inl 24)] [] S 0 190 _ 2 1 0 _ (21, 0) dX6_distance_45 rfl rfl rfl rfl (by decide) (by decide) h
theorem bl_X6_distance_48 {Q : ab_Po} {G : ab_Gt} (hG : ab_Cl M_X6_distance Q G) (x1 : Int32) (x2 : Int32) (x3 : Int32) (xs0 : Int32) (S : ab_S) (h : G 53 [some (.inr (21, 0)), some (.inl x1), some (.inl x2), some (.inl x3), some (.inl xs0), some (.inl 0), none] [] S 0) : G 48 [some (.inr (21, 0)), some (.inl x1), some (.inl x2), some (.inl x3), none, none, none] [(.inl xs0)] S 0 := by
  refine ab_istore' hG 48 _ _ _ _ 4 _ dX6_distance_48 (by decide) ?_
  refine ab_iconst' hG 50 _ _ _ _ 0 0 dX6_distance_50 (by decide) ?_
  refine ab_istore' hG 51 _ _ _ _ 5 _ dX6_distance_51 (by decide) ?_
  exact h
theorem bl_X6_distance_53 {Q : ab_Po} {G : ab_Gt} (hG : ab_Cl M_X6_distance Q G) (x1 : Int32) (x2 : Int32) (x3 : Int32) (x4 : Int32) (x5 : Int32) (S : ab_S) (h : (x3 ≤ x5 → vp_in (((24 * (x3 - 1)) + x4) - 1) 576 ∧ Q (.inl (some (S 39 0 (((24 * (x3 - 1)) + x4) - 1).toNatClampNeg))) S) ∧ (¬ x3 ≤ x5 → G 62 [some (.inr (21, 0)), some (.inl x1), some (.inl x2), some (.inl x3), some (.inl x4), some (.inl x5), some (.inl 0)] [] S 0)) : G 53 [some (.inr (21, 0)), some (.inl x1), some (.inl x2), some (.inl x3), some (.inl x4), some (.inl x5), none] [] S 0 := by
  refine ab_iload' hG 53 _ _ _ _ 5 _ dX6_distance_53 rfl ?_
  refine ab_iload_n' hG 55 _ _ _ _ 3 _ dX6_distance_55 rfl ?_
  refine ab_icmp_ge' hG 56 _ _ _ _ (35) 91 _ _ dX6_distance_56 (by decide) (fun hc => ?_) (fun hc => ?_)
  · have h := h.1 hc
    refine ab_aload_n' hG 91 _ _ _ _ 0 _ dX6_distance_91 rfl ?_
    refine ab_gR hG 92 _ _ _ _ 72 21 25 0 (39, 0) dX6_distance_92 (List.Mem.tail _ (List.Mem.head _)) rfl ?_
    refine ab_bipush' hG 95 _ _ _ _ 24 24 dX6_distance_95 (by decide) ?_
    refine ab_iload_n' hG 97 _ _ _ _ 3 _ dX6_distance_97 rfl ?_
    refine ab_iconst' hG 98 _ _ _ _ 1 1 dX6_distance_98 (by decide) ?_
    refine ab_isub' hG 99 _ _ _ _ _ _ dX6_distance_99 ?_
    refine ab_imul' hG 100 _ _ _ _ _ _ dX6_distance_100 ?_
    refine ab_iload' hG 101 _ _ _ _ 4 _ dX6_distance_101 rfl ?_
    refine ab_iadd' hG 103 _ _ _ _ _ _ dX6_distance_103 ?_
    refine ab_iconst' hG 104 _ _ _ _ 1 1 dX6_distance_104 (by decide) ?_
    refine ab_isub' hG 105 _ _ _ _ _ _ dX6_distance_105 ?_
    refine ab_iaload' hG 106 _ _ _ _ 39 0 576 _ dX6_distance_106 rfl h.1 ?_
    have h := h.2
    exact ab_ireturn' hG 107 _ _ _ _ dX6_distance_107 (Or.inl rfl) (by decide) h
  · have h := h.2 hc
    refine ab_iconst' hG 59 _ _ _ _ 0 0 dX6_distance_59 (by decide) ?_
    refine ab_istore' hG 60 _ _ _ _ 6 _ dX6_distance_60 (by decide) ?_
    exact h
theorem bl_X6_distance_62 {Q : ab_Po} {G : ab_Gt} (hG : ab_Cl M_X6_distance Q G) (x1 : Int32) (x2 : Int32) (x3 : Int32) (x4 : Int32) (x5 : Int32) (x6 : Int32) (S : ab_S) (h : (x4 ≤ x6 → G 53 [some (.inr (21, 0)), some (.inl x1), some (.inl x2), some (.inl x3), some (.inl x4), some (.inl (x5 + 1)), none] [] S 0) ∧ (¬ x4 ≤ x6 → Sp_X6_compare [(.inr (21, 0)), (.inl x1), (.inl x2), (.inl x5), (.inl x6)] S (ab_back Q G 79 [some (.inr (21, 0)), some (.inl x1), some (.inl x2), some (.inl x3), some (.inl x4), some (.inl x5), some (.inl x6)] [] 0))) : G 62 [some (.inr (21, 0)), some (.inl x1), some (.inl x2), some (.inl x3), some (.inl x4), some (.inl x5), some (.inl x6)] [] S 0 := by
  refine ab_iload' hG 62 _ _ _ _ 6 _ dX6_distance_62 rfl ?_
  refine ab_iload' hG 64 _ _ _ _ 4 _ dX6_distance_64 rfl ?_
  refine ab_icmp_ge' hG 66 _ _ _ _ (19) 85 _ _ dX6_distance_66 (by decide) (fun hc => ?_) (fun hc => ?_)
  · have h := h.1 hc
    refine ab_iinc' hG 85 _ _ _ _ 5 1 x5 (x5 + 1) dX6_distance_85 rfl rfl ?_
    refine ab_goto' hG 88 _ _ _ _ (-35) 53 dX6_distance_88 (by decide) ?_
    refine ab_forget' hG _ _ _ _ _ 6 ?_
    exact h
  · have h := h.2 hc
    refine ab_aload_n' hG 69 _ _ _ _ 0 _ dX6_distance_69 rfl ?_
    refine ab_iload_n' hG 70 _ _ _ _ 1 _ dX6_distance_70 rfl ?_
    refine ab_iload_n' hG 71 _ _ _ _ 2 _ dX6_distance_71 rfl ?_
    refine ab_iload' hG 72 _ _ _ _ 5 _ dX6_distance_72 rfl ?_
    refine ab_iload' hG 74 _ _ _ _ 6 _ dX6_distance_74 rfl ?_
    exact ab_invv' hG 76 [some (.inr (21, 0)), some (.inl x1), some (.inl x2), some (.inl x3), some (.inl x4), some (.inl x5), some (.inl x6)] [(.inl x1), (.inl x2), (.inl x5), (.inl x6)] [] S 0 193 _ 4 0 0 _ (21, 0) dX6_distance_76 rfl rfl rfl rfl (by decide) (by decide) h
theorem bl_X6_distance_79 {Q : ab_Po} {G : ab_Gt} (hG : ab_Cl M_X6_distance Q G) (x1 : Int32) (x2 : Int32) (x3 : Int32) (x4 : Int32) (x5 : Int32) (x6 : Int32) (S : ab_S) (h : G 62 [some (.inr (21, 0)), some (.inl x1), some (.inl x2), some (.inl x3), some (.inl x4), some (.inl x5), some (.inl (x6 + 1))] [] S 0) : G 79 [some (.inr (21, 0)), some (.inl x1), some (.inl x2), some (.inl x3), some (.inl x4), some (.inl x5), some (.inl x6)] [] S 0 := by
  refine ab_iinc' hG 79 _ _ _ _ 6 1 x6 (x6 + 1) dX6_distance_79 rfl rfl ?_
  refine ab_goto' hG 82 _ _ _ _ (-20) 62 dX6_distance_82 (by decide) ?_
  exact h
theorem bl_X6_state_0 {Q : ab_Po} {G : ab_Gt} (hG : ab_Cl M_X6_state Q G) (x1 : Int32) (S : ab_S) (h : (x1 < 0 → (((ab_su S 21 0 0 1) 21 0 0) ≤ 0 → (x1 = 0 → Q (.inl (some ((ab_su S 21 0 0 1) 21 0 6))) (ab_su S 21 0 0 1)) ∧ (¬ x1 = 0 → (x1 = 1 → Q (.inl (some ((ab_su S 21 0 0 1) 21 0 10))) (ab_su S 21 0 0 1)) ∧ (¬ x1 = 1 → Q (.inl (some ((ab_su S 21 0 0 1) 21 0 11))) (ab_su S 21 0 0 1)))) ∧ (¬ ((ab_su S 21 0 0 1) 21 0 0) ≤ 0 → Q (.inl (some 0)) (ab_su S 21 0 0 1))) ∧ (¬ x1 < 0 → (x1 ≤ 2 → (((ab_su S 21 0 0 0) 21 0 0) ≤ 0 → (x1 = 0 → Q (.inl (some ((ab_su S 21 0 0 0) 21 0 6))) (ab_su S 21 0 0 0)) ∧ (¬ x1 = 0 → (x1 = 1 → Q (.inl (some ((ab_su S 21 0 0 0) 21 0 10))) (ab_su S 21 0 0 0)) ∧ (¬ x1 = 1 → Q (.inl (some ((ab_su S 21 0 0 0) 21 0 11))) (ab_su S 21 0 0 0)))) ∧ (¬ ((ab_su S 21 0 0 0) 21 0 0) ≤ 0 → Q (.inl (some 0)) (ab_su S 21 0 0 0))) ∧ (¬ x1 ≤ 2 → (((ab_su S 21 0 0 1) 21 0 0) ≤ 0 → (x1 = 0 → Q (.inl (some ((ab_su S 21 0 0 1) 21 0 6))) (ab_su S 21 0 0 1)) ∧ (¬ x1 = 0 → (x1 = 1 → Q (.inl (some ((ab_su S 21 0 0 1) 21 0 10))) (ab_su S 21 0 0 1)) ∧ (¬ x1 = 1 → Q (.inl (some ((ab_su S 21 0 0 1) 21 0 11))) (ab_su S 21 0 0 1)))) ∧ (¬ ((ab_su S 21 0 0 1) 21 0 0) ≤ 0 → Q (.inl (some 0)) (ab_su S 21 0 0 1))))) : G 0 [some (.inr (21, 0)), some (.inl x1)] [] S 0 := by
  refine ab_aload_n' hG 0 _ _ _ _ 0 _ dX6_state_0 rfl ?_
  refine ab_iload_n' hG 1 _ _ _ _ 1 _ dX6_state_1 rfl ?_
  refine ab_if_lt' hG 2 _ _ _ _ (8) 10 _ dX6_state_2 (by decide) (fun hc => ?_) (fun hc => ?_)
  · have h := h.1 hc
    refine ab_iconst' hG 10 _ _ _ _ 1 1 dX6_state_10 (by decide) ?_
    refine ab_goto' hG 11 _ _ _ _ (4) 15 dX6_state_11 (by decide) ?_
    refine ab_putfield' hG 15 _ _ _ _ 82 21 0 0 _ dX6_state_15 (List.Mem.head _) ?_
    refine ab_aload_n' hG 18 _ _ _ _ 0 _ dX6_state_18 rfl ?_
    refine ab_gI hG 19 _ _ _ _ 82 21 0 0 dX6_state_19 (List.Mem.head _) rfl ?_
    refine ab_if_le' hG 22 _ _ _ _ (7) 29 _ dX6_state_22 (by decide) (fun hc => ?_) (fun hc => ?_)
    · have h := h.1 hc
      refine ab_iload_n' hG 29 _ _ _ _ 1 _ dX6_state_29 rfl ?_
      refine ab_if_ne' hG 30 _ _ _ _ (10) 40 _ dX6_state_30 (by decide) (fun hc => ?_) (fun hc => ?_)
      · have h := h.2 hc
        refine ab_iload_n' hG 40 _ _ _ _ 1 _ dX6_state_40 rfl ?_
        refine ab_iconst' hG 41 _ _ _ _ 1 1 dX6_state_41 (by decide) ?_
        refine ab_icmp_ne' hG 42 _ _ _ _ (10) 52 _ _ dX6_state_42 (by decide) (fun hc => ?_) (fun hc => ?_)
        · have h := h.2 hc
          refine ab_aload_n' hG 52 _ _ _ _ 0 _ dX6_state_52 rfl ?_
          refine ab_gI hG 53 _ _ _ _ 39 21 11 0 dX6_state_53 (List.Mem.tail _ (List.Mem.tail _ (List.Mem.tail _ (List.Mem.head _)))) rfl ?_
          exact ab_ireturn' hG 56 _ _ _ _ dX6_state_56 (Or.inl rfl) (by decide) h
        · have h := h.1 hc
          refine ab_aload_n' hG 45 _ _ _ _ 0 _ dX6_state_45 rfl ?_
          refine ab_gI hG 46 _ _ _ _ 124 21 10 0 dX6_state_46 (List.Mem.tail _ (List.Mem.tail _ (List.Mem.head _))) rfl ?_
          refine ab_goto' hG 49 _ _ _ _ (7) 56 dX6_state_49 (by decide) ?_
          exact ab_ireturn' hG 56 _ _ _ _ dX6_state_56 (Or.inl rfl) (by decide) h
      · have h := h.1 hc
        refine ab_aload_n' hG 33 _ _ _ _ 0 _ dX6_state_33 rfl ?_
        refine ab_gI hG 34 _ _ _ _ 27 21 6 0 dX6_state_34 (List.Mem.tail _ (List.Mem.head _)) rfl ?_
        refine ab_goto' hG 37 _ _ _ _ (19) 56 dX6_state_37 (by decide) ?_
        exact ab_ireturn' hG 56 _ _ _ _ dX6_state_56 (Or.inl rfl) (by decide) h
    · have h := h.2 hc
      refine ab_iconst' hG 25 _ _ _ _ 0 0 dX6_state_25 (by decide) ?_
      refine ab_goto' hG 26 _ _ _ _ (30) 56 dX6_state_26 (by decide) ?_
      exact ab_ireturn' hG 56 _ _ _ _ dX6_state_56 (Or.inl rfl) (by decide) h
  · have h := h.2 hc
    refine ab_iload_n' hG 5 _ _ _ _ 1 _ dX6_state_5 rfl ?_
    refine ab_iconst' hG 6 _ _ _ _ 2 2 dX6_state_6 (by decide) ?_
    refine ab_icmp_le' hG 7 _ _ _ _ (7) 14 _ _ dX6_state_7 (by decide) (fun hc => ?_) (fun hc => ?_)
    · have h := h.1 hc
      refine ab_iconst' hG 14 _ _ _ _ 0 0 dX6_state_14 (by decide) ?_
      refine ab_putfield' hG 15 _ _ _ _ 82 21 0 0 _ dX6_state_15 (List.Mem.head _) ?_
      refine ab_aload_n' hG 18 _ _ _ _ 0 _ dX6_state_18 rfl ?_
      refine ab_gI hG 19 _ _ _ _ 82 21 0 0 dX6_state_19 (List.Mem.head _) rfl ?_
      refine ab_if_le' hG 22 _ _ _ _ (7) 29 _ dX6_state_22 (by decide) (fun hc => ?_) (fun hc => ?_)
      · have h := h.1 hc
        refine ab_iload_n' hG 29 _ _ _ _ 1 _ dX6_state_29 rfl ?_
        refine ab_if_ne' hG 30 _ _ _ _ (10) 40 _ dX6_state_30 (by decide) (fun hc => ?_) (fun hc => ?_)
        · have h := h.2 hc
          refine ab_iload_n' hG 40 _ _ _ _ 1 _ dX6_state_40 rfl ?_
          refine ab_iconst' hG 41 _ _ _ _ 1 1 dX6_state_41 (by decide) ?_
          refine ab_icmp_ne' hG 42 _ _ _ _ (10) 52 _ _ dX6_state_42 (by decide) (fun hc => ?_) (fun hc => ?_)
          · have h := h.2 hc
            refine ab_aload_n' hG 52 _ _ _ _ 0 _ dX6_state_52 rfl ?_
            refine ab_gI hG 53 _ _ _ _ 39 21 11 0 dX6_state_53 (List.Mem.tail _ (List.Mem.tail _ (List.Mem.tail _ (List.Mem.head _)))) rfl ?_
            exact ab_ireturn' hG 56 _ _ _ _ dX6_state_56 (Or.inl rfl) (by decide) h
          · have h := h.1 hc
            refine ab_aload_n' hG 45 _ _ _ _ 0 _ dX6_state_45 rfl ?_
            refine ab_gI hG 46 _ _ _ _ 124 21 10 0 dX6_state_46 (List.Mem.tail _ (List.Mem.tail _ (List.Mem.head _))) rfl ?_
            refine ab_goto' hG 49 _ _ _ _ (7) 56 dX6_state_49 (by decide) ?_
            exact ab_ireturn' hG 56 _ _ _ _ dX6_state_56 (Or.inl rfl) (by decide) h
        · have h := h.1 hc
          refine ab_aload_n' hG 33 _ _ _ _ 0 _ dX6_state_33 rfl ?_
          refine ab_gI hG 34 _ _ _ _ 27 21 6 0 dX6_state_34 (List.Mem.tail _ (List.Mem.head _)) rfl ?_
          refine ab_goto' hG 37 _ _ _ _ (19) 56 dX6_state_37 (by decide) ?_
          exact ab_ireturn' hG 56 _ _ _ _ dX6_state_56 (Or.inl rfl) (by decide) h
      · have h := h.2 hc
        refine ab_iconst' hG 25 _ _ _ _ 0 0 dX6_state_25 (by decide) ?_
        refine ab_goto' hG 26 _ _ _ _ (30) 56 dX6_state_26 (by decide) ?_
        exact ab_ireturn' hG 56 _ _ _ _ dX6_state_56 (Or.inl rfl) (by decide) h
    · have h := h.2 hc
      refine ab_iconst' hG 10 _ _ _ _ 1 1 dX6_state_10 (by decide) ?_
      refine ab_goto' hG 11 _ _ _ _ (4) 15 dX6_state_11 (by decide) ?_
      refine ab_putfield' hG 15 _ _ _ _ 82 21 0 0 _ dX6_state_15 (List.Mem.head _) ?_
      refine ab_aload_n' hG 18 _ _ _ _ 0 _ dX6_state_18 rfl ?_
      refine ab_gI hG 19 _ _ _ _ 82 21 0 0 dX6_state_19 (List.Mem.head _) rfl ?_
      refine ab_if_le' hG 22 _ _ _ _ (7) 29 _ dX6_state_22 (by decide) (fun hc => ?_) (fun hc => ?_)
      · have h := h.1 hc
        refine ab_iload_n' hG 29 _ _ _ _ 1 _ dX6_state_29 rfl ?_
        refine ab_if_ne' hG 30 _ _ _ _ (10) 40 _ dX6_state_30 (by decide) (fun hc => ?_) (fun hc => ?_)
        · have h := h.2 hc
          refine ab_iload_n' hG 40 _ _ _ _ 1 _ dX6_state_40 rfl ?_
          refine ab_iconst' hG 41 _ _ _ _ 1 1 dX6_state_41 (by decide) ?_
          refine ab_icmp_ne' hG 42 _ _ _ _ (10) 52 _ _ dX6_state_42 (by decide) (fun hc => ?_) (fun hc => ?_)
          · have h := h.2 hc
            refine ab_aload_n' hG 52 _ _ _ _ 0 _ dX6_state_52 rfl ?_
            refine ab_gI hG 53 _ _ _ _ 39 21 11 0 dX6_state_53 (List.Mem.tail _ (List.Mem.tail _ (List.Mem.tail _ (List.Mem.head _)))) rfl ?_
            exact ab_ireturn' hG 56 _ _ _ _ dX6_state_56 (Or.inl rfl) (by decide) h
          · have h := h.1 hc
            refine ab_aload_n' hG 45 _ _ _ _ 0 _ dX6_state_45 rfl ?_
            refine ab_gI hG 46 _ _ _ _ 124 21 10 0 dX6_state_46 (List.Mem.tail _ (List.Mem.tail _ (List.Mem.head _))) rfl ?_
            refine ab_goto' hG 49 _ _ _ _ (7) 56 dX6_state_49 (by decide) ?_
            exact ab_ireturn' hG 56 _ _ _ _ dX6_state_56 (Or.inl rfl) (by decide) h
        · have h := h.1 hc
          refine ab_aload_n' hG 33 _ _ _ _ 0 _ dX6_state_33 rfl ?_
          refine ab_gI hG 34 _ _ _ _ 27 21 6 0 dX6_state_34 (List.Mem.tail _ (List.Mem.head _)) rfl ?_
          refine ab_goto' hG 37 _ _ _ _ (19) 56 dX6_state_37 (by decide) ?_
          exact ab_ireturn' hG 56 _ _ _ _ dX6_state_56 (Or.inl rfl) (by decide) h
      · have h := h.2 hc
        refine ab_iconst' hG 25 _ _ _ _ 0 0 dX6_state_25 (by decide) ?_
        refine ab_goto' hG 26 _ _ _ _ (30) 56 dX6_state_26 (by decide) ?_
        exact ab_ireturn' hG 56 _ _ _ _ dX6_state_56 (Or.inl rfl) (by decide) h
theorem bl_X6_above_0 {Q : ab_Po} {G : ab_Gt} (hG : ab_Cl M_X6_above Q G) (x1 : Int32) (x2 : Int32) (S : ab_S) (h : Sp_X6_isCommit [(.inr (21, 0)), (.inl x1)] S (ab_back Q G 6 [some (.inr (21, 0)), some (.inl x1), some (.inl x2)] [(.inr (21, 0))] 0)) : G 0 [some (.inr (21, 0)), some (.inl x1), some (.inl x2)] [] S 0 := by
  refine ab_aload_n' hG 0 _ _ _ _ 0 _ dX6_above_0 rfl ?_
  refine ab_aload_n' hG 1 _ _ _ _ 0 _ dX6_above_1 rfl ?_
  refine ab_iload_n' hG 2 _ _ _ _ 1 _ dX6_above_2 rfl ?_
  exact ab_invv' hG 3 [some (.inr (21, 0)), some (.inl x1), some (.inl x2)] [(.inl x1)] [(.inr (21, 0))] S 0 127 _ 1 1 0 _ (21, 0) dX6_above_3 rfl rfl rfl rfl (by decide) (by decide) h
theorem bl_X6_above_6 {Q : ab_Po} {G : ab_Gt} (hG : ab_Cl M_X6_above Q G) (x1 : Int32) (x2 : Int32) (xs0 : Int32) (S : ab_S) (h : (xs0 = 0 → (((ab_su S 21 0 0 1) 21 0 0) ≤ 0 → (x2 = 0 → vp_in x1 12 ∧ Q (.inl (some ((ab_su S 21 0 0 1) 26 0 x1.toNatClampNeg))) (ab_su S 21 0 0 1)) ∧ (¬ x2 = 0 → vp_in x1 12 ∧ Q (.inl (some ((ab_su S 21 0 0 1) 27 0 x1.toNatClampNeg))) (ab_su S 21 0 0 1))) ∧ (¬ ((ab_su S 21 0 0 1) 21 0 0) ≤ 0 → Q (.inl (some 0)) (ab_su S 21 0 0 1))) ∧ (¬ xs0 = 0 → (x2 < 0 → (((ab_su S 21 0 0 2) 21 0 0) ≤ 0 → (x2 = 0 → vp_in x1 12 ∧ Q (.inl (some ((ab_su S 21 0 0 2) 26 0 x1.toNatClampNeg))) (ab_su S 21 0 0 2)) ∧ (¬ x2 = 0 → vp_in x1 12 ∧ Q (.inl (some ((ab_su S 21 0 0 2) 27 0 x1.toNatClampNeg))) (ab_su S 21 0 0 2))) ∧ (¬ ((ab_su S 21 0 0 2) 21 0 0) ≤ 0 → Q (.inl (some 0)) (ab_su S 21 0 0 2))) ∧ (¬ x2 < 0 → (x2 ≤ 1 → (((ab_su S 21 0 0 0) 21 0 0) ≤ 0 → (x2 = 0 → vp_in x1 12 ∧ Q (.inl (some ((ab_su S 21 0 0 0) 26 0 x1.toNatClampNeg))) (ab_su S 21 0 0 0)) ∧ (¬ x2 = 0 → vp_in x1 12 ∧ Q (.inl (some ((ab_su S 21 0 0 0) 27 0 x1.toNatClampNeg))) (ab_su S 21 0 0 0))) ∧ (¬ ((ab_su S 21 0 0 0) 21 0 0) ≤ 0 → Q (.inl (some 0)) (ab_su S 21 0 0 0))) ∧ (¬ x2 ≤ 1 → (((ab_su S 21 0 0 2) 21 0 0) ≤ 0 → (x2 = 0 → vp_in x1 12 ∧ Q (.inl (some ((ab_su S 21 0 0 2) 26 0 x1.toNatClampNeg))) (ab_su S 21 0 0 2)) ∧ (¬ x2 = 0 → vp_in x1 12 ∧ Q (.inl (some ((ab_su S 21 0 0 2) 27 0 x1.toNatClampNeg))) (ab_su S 21 0 0 2))) ∧ (¬ ((ab_su S 21 0 0 2) 21 0 0) ≤ 0 → Q (.inl (some 0)) (ab_su S 21 0 0 2)))))) : G 6 [some (.inr (21, 0)), some (.inl x1), some (.inl x2)] [(.inl xs0), (.inr (21, 0))] S 0 := by
  refine ab_if_ne' hG 6 _ _ _ _ (7) 13 _ dX6_above_6 (by decide) (fun hc => ?_) (fun hc => ?_)
  · have h := h.2 hc
    refine ab_iload_n' hG 13 _ _ _ _ 2 _ dX6_above_13 rfl ?_
    refine ab_if_lt' hG 14 _ _ _ _ (8) 22 _ dX6_above_14 (by decide) (fun hc => ?_) (fun hc => ?_)
    · have h := h.1 hc
      refine ab_iconst' hG 22 _ _ _ _ 2 2 dX6_above_22 (by decide) ?_
      refine ab_goto' hG 23 _ _ _ _ (4) 27 dX6_above_23 (by decide) ?_
      refine ab_putfield' hG 27 _ _ _ _ 82 21 0 0 _ dX6_above_27 (List.Mem.head _) ?_
      refine ab_aload_n' hG 30 _ _ _ _ 0 _ dX6_above_30 rfl ?_
      refine ab_gI hG 31 _ _ _ _ 82 21 0 0 dX6_above_31 (List.Mem.head _) rfl ?_
      refine ab_if_le' hG 34 _ _ _ _ (7) 41 _ dX6_above_34 (by decide) (fun hc => ?_) (fun hc => ?_)
      · have h := h.1 hc
        refine ab_iload_n' hG 41 _ _ _ _ 2 _ dX6_above_41 rfl ?_
        refine ab_if_ne' hG 42 _ _ _ _ (12) 54 _ dX6_above_42 (by decide) (fun hc => ?_) (fun hc => ?_)
        · have h := h.2 hc
          refine ab_aload_n' hG 54 _ _ _ _ 0 _ dX6_above_54 rfl ?_
          refine ab_gR hG 55 _ _ _ _ 33 21 8 0 (27, 0) dX6_above_55 (List.Mem.tail _ (List.Mem.tail _ (List.Mem.head _))) rfl ?_
          refine ab_iload_n' hG 58 _ _ _ _ 1 _ dX6_above_58 rfl ?_
          refine ab_iaload' hG 59 _ _ _ _ 27 0 12 _ dX6_above_59 rfl h.1 ?_
          have h := h.2
          exact ab_ireturn' hG 60 _ _ _ _ dX6_above_60 (Or.inl rfl) (by decide) h
        · have h := h.1 hc
          refine ab_aload_n' hG 45 _ _ _ _ 0 _ dX6_above_45 rfl ?_
          refine ab_gR hG 46 _ _ _ _ 30 21 7 0 (26, 0) dX6_above_46 (List.Mem.tail _ (List.Mem.head _)) rfl ?_
          refine ab_iload_n' hG 49 _ _ _ _ 1 _ dX6_above_49 rfl ?_
          refine ab_iaload' hG 50 _ _ _ _ 26 0 12 _ dX6_above_50 rfl h.1 ?_
          have h := h.2
          refine ab_goto' hG 51 _ _ _ _ (9) 60 dX6_above_51 (by decide) ?_
          exact ab_ireturn' hG 60 _ _ _ _ dX6_above_60 (Or.inl rfl) (by decide) h
      · have h := h.2 hc
        refine ab_iconst' hG 37 _ _ _ _ 0 0 dX6_above_37 (by decide) ?_
        refine ab_goto' hG 38 _ _ _ _ (22) 60 dX6_above_38 (by decide) ?_
        exact ab_ireturn' hG 60 _ _ _ _ dX6_above_60 (Or.inl rfl) (by decide) h
    · have h := h.2 hc
      refine ab_iload_n' hG 17 _ _ _ _ 2 _ dX6_above_17 rfl ?_
      refine ab_iconst' hG 18 _ _ _ _ 1 1 dX6_above_18 (by decide) ?_
      refine ab_icmp_le' hG 19 _ _ _ _ (7) 26 _ _ dX6_above_19 (by decide) (fun hc => ?_) (fun hc => ?_)
      · have h := h.1 hc
        refine ab_iconst' hG 26 _ _ _ _ 0 0 dX6_above_26 (by decide) ?_
        refine ab_putfield' hG 27 _ _ _ _ 82 21 0 0 _ dX6_above_27 (List.Mem.head _) ?_
        refine ab_aload_n' hG 30 _ _ _ _ 0 _ dX6_above_30 rfl ?_
        refine ab_gI hG 31 _ _ _ _ 82 21 0 0 dX6_above_31 (List.Mem.head _) rfl ?_
        refine ab_if_le' hG 34 _ _ _ _ (7) 41 _ dX6_above_34 (by decide) (fun hc => ?_) (fun hc => ?_)
        · have h := h.1 hc
          refine ab_iload_n' hG 41 _ _ _ _ 2 _ dX6_above_41 rfl ?_
          refine ab_if_ne' hG 42 _ _ _ _ (12) 54 _ dX6_above_42 (by decide) (fun hc => ?_) (fun hc => ?_)
          · have h := h.2 hc
            refine ab_aload_n' hG 54 _ _ _ _ 0 _ dX6_above_54 rfl ?_
            refine ab_gR hG 55 _ _ _ _ 33 21 8 0 (27, 0) dX6_above_55 (List.Mem.tail _ (List.Mem.tail _ (List.Mem.head _))) rfl ?_
            refine ab_iload_n' hG 58 _ _ _ _ 1 _ dX6_above_58 rfl ?_
            refine ab_iaload' hG 59 _ _ _ _ 27 0 12 _ dX6_above_59 rfl h.1 ?_
            have h := h.2
            exact ab_ireturn' hG 60 _ _ _ _ dX6_above_60 (Or.inl rfl) (by decide) h
          · have h := h.1 hc
            refine ab_aload_n' hG 45 _ _ _ _ 0 _ dX6_above_45 rfl ?_
            refine ab_gR hG 46 _ _ _ _ 30 21 7 0 (26, 0) dX6_above_46 (List.Mem.tail _ (List.Mem.head _)) rfl ?_
            refine ab_iload_n' hG 49 _ _ _ _ 1 _ dX6_above_49 rfl ?_
            refine ab_iaload' hG 50 _ _ _ _ 26 0 12 _ dX6_above_50 rfl h.1 ?_
            have h := h.2
            refine ab_goto' hG 51 _ _ _ _ (9) 60 dX6_above_51 (by decide) ?_
            exact ab_ireturn' hG 60 _ _ _ _ dX6_above_60 (Or.inl rfl) (by decide) h
        · have h := h.2 hc
          refine ab_iconst' hG 37 _ _ _ _ 0 0 dX6_above_37 (by decide) ?_
          refine ab_goto' hG 38 _ _ _ _ (22) 60 dX6_above_38 (by decide) ?_
          exact ab_ireturn' hG 60 _ _ _ _ dX6_above_60 (Or.inl rfl) (by decide) h
      · have h := h.2 hc
        refine ab_iconst' hG 22 _ _ _ _ 2 2 dX6_above_22 (by decide) ?_
        refine ab_goto' hG 23 _ _ _ _ (4) 27 dX6_above_23 (by decide) ?_
        refine ab_putfield' hG 27 _ _ _ _ 82 21 0 0 _ dX6_above_27 (List.Mem.head _) ?_
        refine ab_aload_n' hG 30 _ _ _ _ 0 _ dX6_above_30 rfl ?_
        refine ab_gI hG 31 _ _ _ _ 82 21 0 0 dX6_above_31 (List.Mem.head _) rfl ?_
        refine ab_if_le' hG 34 _ _ _ _ (7) 41 _ dX6_above_34 (by decide) (fun hc => ?_) (fun hc => ?_)
        · have h := h.1 hc
          refine ab_iload_n' hG 41 _ _ _ _ 2 _ dX6_above_41 rfl ?_
          refine ab_if_ne' hG 42 _ _ _ _ (12) 54 _ dX6_above_42 (by decide) (fun hc => ?_) (fun hc => ?_)
          · have h := h.2 hc
            refine ab_aload_n' hG 54 _ _ _ _ 0 _ dX6_above_54 rfl ?_
            refine ab_gR hG 55 _ _ _ _ 33 21 8 0 (27, 0) dX6_above_55 (List.Mem.tail _ (List.Mem.tail _ (List.Mem.head _))) rfl ?_
            refine ab_iload_n' hG 58 _ _ _ _ 1 _ dX6_above_58 rfl ?_
            refine ab_iaload' hG 59 _ _ _ _ 27 0 12 _ dX6_above_59 rfl h.1 ?_
            have h := h.2
            exact ab_ireturn' hG 60 _ _ _ _ dX6_above_60 (Or.inl rfl) (by decide) h
          · have h := h.1 hc
            refine ab_aload_n' hG 45 _ _ _ _ 0 _ dX6_above_45 rfl ?_
            refine ab_gR hG 46 _ _ _ _ 30 21 7 0 (26, 0) dX6_above_46 (List.Mem.tail _ (List.Mem.head _)) rfl ?_
            refine ab_iload_n' hG 49 _ _ _ _ 1 _ dX6_above_49 rfl ?_
            refine ab_iaload' hG 50 _ _ _ _ 26 0 12 _ dX6_above_50 rfl h.1 ?_
            have h := h.2
            refine ab_goto' hG 51 _ _ _ _ (9) 60 dX6_above_51 (by decide) ?_
            exact ab_ireturn' hG 60 _ _ _ _ dX6_above_60 (Or.inl rfl) (by decide) h
        · have h := h.2 hc
          refine ab_iconst' hG 37 _ _ _ _ 0 0 dX6_above_37 (by decide) ?_
          refine ab_goto' hG 38 _ _ _ _ (22) 60 dX6_above_38 (by decide) ?_
          exact ab_ireturn' hG 60 _ _ _ _ dX6_above_60 (Or.inl rfl) (by decide) h
  · have h := h.1 hc
    refine ab_iconst' hG 9 _ _ _ _ 1 1 dX6_above_9 (by decide) ?_
    refine ab_goto' hG 10 _ _ _ _ (17) 27 dX6_above_10 (by decide) ?_
    refine ab_putfield' hG 27 _ _ _ _ 82 21 0 0 _ dX6_above_27 (List.Mem.head _) ?_
    refine ab_aload_n' hG 30 _ _ _ _ 0 _ dX6_above_30 rfl ?_
    refine ab_gI hG 31 _ _ _ _ 82 21 0 0 dX6_above_31 (List.Mem.head _) rfl ?_
    refine ab_if_le' hG 34 _ _ _ _ (7) 41 _ dX6_above_34 (by decide) (fun hc => ?_) (fun hc => ?_)
    · have h := h.1 hc
      refine ab_iload_n' hG 41 _ _ _ _ 2 _ dX6_above_41 rfl ?_
      refine ab_if_ne' hG 42 _ _ _ _ (12) 54 _ dX6_above_42 (by decide) (fun hc => ?_) (fun hc => ?_)
      · have h := h.2 hc
        refine ab_aload_n' hG 54 _ _ _ _ 0 _ dX6_above_54 rfl ?_
        refine ab_gR hG 55 _ _ _ _ 33 21 8 0 (27, 0) dX6_above_55 (List.Mem.tail _ (List.Mem.tail _ (List.Mem.head _))) rfl ?_
        refine ab_iload_n' hG 58 _ _ _ _ 1 _ dX6_above_58 rfl ?_
        refine ab_iaload' hG 59 _ _ _ _ 27 0 12 _ dX6_above_59 rfl h.1 ?_
        have h := h.2
        exact ab_ireturn' hG 60 _ _ _ _ dX6_above_60 (Or.inl rfl) (by decide) h
      · have h := h.1 hc
        refine ab_aload_n' hG 45 _ _ _ _ 0 _ dX6_above_45 rfl ?_
        refine ab_gR hG 46 _ _ _ _ 30 21 7 0 (26, 0) dX6_above_46 (List.Mem.tail _ (List.Mem.head _)) rfl ?_
        refine ab_iload_n' hG 49 _ _ _ _ 1 _ dX6_above_49 rfl ?_
        refine ab_iaload' hG 50 _ _ _ _ 26 0 12 _ dX6_above_50 rfl h.1 ?_
        have h := h.2
        refine ab_goto' hG 51 _ _ _ _ (9) 60 dX6_above_51 (by decide) ?_
        exact ab_ireturn' hG 60 _ _ _ _ dX6_above_60 (Or.inl rfl) (by decide) h
    · have h := h.2 hc
      refine ab_iconst' hG 37 _ _ _ _ 0 0 dX6_above_37 (by decide) ?_
      refine ab_goto' hG 38 _ _ _ _ (22) 60 dX6_above_38 (by decide) ?_
      exact ab_ireturn' hG 60 _ _ _ _ dX6_above_60 (Or.inl rfl) (by decide) h
